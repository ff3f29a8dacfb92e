section
-- ===== PART A: goes FIRST, ahead of the names: the tables' words, and 'selects' of the private methods out of them =====
/-- a private method of a class that the tables say can be made, by its rows of tables_1 -/
def lw_okq (q : MethodName × Nat) : Prop := (q.1.cls ≠ "java/lang/invoke/MethodHandle" ∧ q.1.cls ≠ "java/lang/invoke/VarHandle") ∧ Cond.instantiable q.1.cls q.2 ∈ tables_1 ∧ Cond.privateMethod q.1 ∈ tables_1 ∧ Cond.instanceMethod q.1 ∈ tables_1
theorem lw_p0 : lw_okq (⟨"java/util/ArrayList", "fastRemove", "([Ljava/lang/Object;I)V"⟩, 3) := ⟨⟨by decide +kernel, by decide +kernel⟩, List.mem_of_getElem? (i := 38) (by decide +kernel), List.mem_of_getElem? (i := 192) (by decide +kernel), List.mem_of_getElem? (i := 193) (by decide +kernel)⟩
theorem lw_p1 : lw_okq (⟨"java/lang/Throwable", "fillInStackTrace", "(I)Ljava/lang/Throwable;"⟩, 6) := ⟨⟨by decide +kernel, by decide +kernel⟩, List.mem_of_getElem? (i := 246) (by decide +kernel), List.mem_of_getElem? (i := 244) (by decide +kernel), List.mem_of_getElem? (i := 245) (by decide +kernel)⟩
theorem lw_p2 : lw_okq (⟨"java/util/ArrayList", "add", "(Ljava/lang/Object;[Ljava/lang/Object;I)V"⟩, 3) := ⟨⟨by decide +kernel, by decide +kernel⟩, List.mem_of_getElem? (i := 38) (by decide +kernel), List.mem_of_getElem? (i := 280) (by decide +kernel), List.mem_of_getElem? (i := 281) (by decide +kernel)⟩
theorem lw_p3 : lw_okq (⟨"java/util/ArrayList", "grow", "()[Ljava/lang/Object;"⟩, 3) := ⟨⟨by decide +kernel, by decide +kernel⟩, List.mem_of_getElem? (i := 38) (by decide +kernel), List.mem_of_getElem? (i := 284) (by decide +kernel), List.mem_of_getElem? (i := 285) (by decide +kernel)⟩
theorem lw_p4 : lw_okq (⟨"java/util/ArrayList", "grow", "(I)[Ljava/lang/Object;"⟩, 3) := ⟨⟨by decide +kernel, by decide +kernel⟩, List.mem_of_getElem? (i := 38) (by decide +kernel), List.mem_of_getElem? (i := 288) (by decide +kernel), List.mem_of_getElem? (i := 289) (by decide +kernel)⟩
theorem lw_p5 : lw_okq (⟨"PathLists", "spread", "(LPathLists$Pin;I)V"⟩, 11) := ⟨⟨by decide +kernel, by decide +kernel⟩, List.mem_of_getElem? (i := 30) (by decide +kernel), List.mem_of_getElem? (i := 395) (by decide +kernel), List.mem_of_getElem? (i := 396) (by decide +kernel)⟩
theorem lw_p6 : lw_okq (⟨"PathLists", "spreadFurther", "(LPathLists$Pin;I)V"⟩, 11) := ⟨⟨by decide +kernel, by decide +kernel⟩, List.mem_of_getElem? (i := 30) (by decide +kernel), List.mem_of_getElem? (i := 400) (by decide +kernel), List.mem_of_getElem? (i := 401) (by decide +kernel)⟩
theorem lw_p7 : lw_okq (⟨"PathLists", "placeReachedLast", "()V"⟩, 11) := ⟨⟨by decide +kernel, by decide +kernel⟩, List.mem_of_getElem? (i := 30) (by decide +kernel), List.mem_of_getElem? (i := 406) (by decide +kernel), List.mem_of_getElem? (i := 407) (by decide +kernel)⟩
theorem lw_p8 : lw_okq (⟨"java/util/ArrayList", "rangeCheckForAdd", "(I)V"⟩, 3) := ⟨⟨by decide +kernel, by decide +kernel⟩, List.mem_of_getElem? (i := 38) (by decide +kernel), List.mem_of_getElem? (i := 414) (by decide +kernel), List.mem_of_getElem? (i := 415) (by decide +kernel)⟩
theorem lw_p9 : lw_okq (⟨"java/util/ArrayList", "outOfBoundsMsg", "(I)Ljava/lang/String;"⟩, 3) := ⟨⟨by decide +kernel, by decide +kernel⟩, List.mem_of_getElem? (i := 38) (by decide +kernel), List.mem_of_getElem? (i := 419) (by decide +kernel), List.mem_of_getElem? (i := 420) (by decide +kernel)⟩
theorem lw_p10 : lw_okq (⟨"PathLists", "throughRises", "()Z"⟩, 11) := ⟨⟨by decide +kernel, by decide +kernel⟩, List.mem_of_getElem? (i := 30) (by decide +kernel), List.mem_of_getElem? (i := 721) (by decide +kernel), List.mem_of_getElem? (i := 722) (by decide +kernel)⟩
theorem lw_p11 : lw_okq (⟨"PathLists", "placeOfOrder", "(I)I"⟩, 11) := ⟨⟨by decide +kernel, by decide +kernel⟩, List.mem_of_getElem? (i := 30) (by decide +kernel), List.mem_of_getElem? (i := 725) (by decide +kernel), List.mem_of_getElem? (i := 726) (by decide +kernel)⟩
theorem lw_p12 : lw_okq (⟨"PathLists", "gather", "(LPathLists$Pin;I)V"⟩, 11) := ⟨⟨by decide +kernel, by decide +kernel⟩, List.mem_of_getElem? (i := 30) (by decide +kernel), List.mem_of_getElem? (i := 729) (by decide +kernel), List.mem_of_getElem? (i := 730) (by decide +kernel)⟩
theorem lw_p13 : lw_okq (⟨"PathLists", "leavesOut", "(LPathLists$Step;)Z"⟩, 11) := ⟨⟨by decide +kernel, by decide +kernel⟩, List.mem_of_getElem? (i := 30) (by decide +kernel), List.mem_of_getElem? (i := 733) (by decide +kernel), List.mem_of_getElem? (i := 734) (by decide +kernel)⟩
theorem lw_p14 : lw_okq (⟨"PathLists", "firstOf", "(Ljava/util/ArrayList;I)LPathLists$Step;"⟩, 11) := ⟨⟨by decide +kernel, by decide +kernel⟩, List.mem_of_getElem? (i := 30) (by decide +kernel), List.mem_of_getElem? (i := 737) (by decide +kernel), List.mem_of_getElem? (i := 738) (by decide +kernel)⟩
theorem lw_p15 : lw_okq (⟨"PathLists", "hasNext", "(LPathLists$Step;I)Z"⟩, 11) := ⟨⟨by decide +kernel, by decide +kernel⟩, List.mem_of_getElem? (i := 30) (by decide +kernel), List.mem_of_getElem? (i := 741) (by decide +kernel), List.mem_of_getElem? (i := 742) (by decide +kernel)⟩
def lw_privs_1 : List (MethodName × Nat) := [(⟨"java/util/ArrayList", "fastRemove", "([Ljava/lang/Object;I)V"⟩, 3), (⟨"java/lang/Throwable", "fillInStackTrace", "(I)Ljava/lang/Throwable;"⟩, 6), (⟨"java/util/ArrayList", "add", "(Ljava/lang/Object;[Ljava/lang/Object;I)V"⟩, 3), (⟨"java/util/ArrayList", "grow", "()[Ljava/lang/Object;"⟩, 3), (⟨"java/util/ArrayList", "grow", "(I)[Ljava/lang/Object;"⟩, 3), (⟨"PathLists", "spread", "(LPathLists$Pin;I)V"⟩, 11), (⟨"PathLists", "spreadFurther", "(LPathLists$Pin;I)V"⟩, 11), (⟨"PathLists", "placeReachedLast", "()V"⟩, 11), (⟨"java/util/ArrayList", "rangeCheckForAdd", "(I)V"⟩, 3), (⟨"java/util/ArrayList", "outOfBoundsMsg", "(I)Ljava/lang/String;"⟩, 3), (⟨"PathLists", "throughRises", "()Z"⟩, 11), (⟨"PathLists", "placeOfOrder", "(I)I"⟩, 11), (⟨"PathLists", "gather", "(LPathLists$Pin;I)V"⟩, 11), (⟨"PathLists", "leavesOut", "(LPathLists$Step;)Z"⟩, 11), (⟨"PathLists", "firstOf", "(Ljava/util/ArrayList;I)LPathLists$Step;"⟩, 11), (⟨"PathLists", "hasNext", "(LPathLists$Step;I)Z"⟩, 11)]
theorem lw_r1 : ∀ q ∈ lw_privs_1, lw_okq q := List.forall_mem_cons.mpr ⟨lw_p0, List.forall_mem_cons.mpr ⟨lw_p1, List.forall_mem_cons.mpr ⟨lw_p2, List.forall_mem_cons.mpr ⟨lw_p3, List.forall_mem_cons.mpr ⟨lw_p4, List.forall_mem_cons.mpr ⟨lw_p5, List.forall_mem_cons.mpr ⟨lw_p6, List.forall_mem_cons.mpr ⟨lw_p7, List.forall_mem_cons.mpr ⟨lw_p8, List.forall_mem_cons.mpr ⟨lw_p9, List.forall_mem_cons.mpr ⟨lw_p10, List.forall_mem_cons.mpr ⟨lw_p11, List.forall_mem_cons.mpr ⟨lw_p12, List.forall_mem_cons.mpr ⟨lw_p13, List.forall_mem_cons.mpr ⟨lw_p14, List.forall_mem_cons.mpr ⟨lw_p15, fun _ h => absurd h List.not_mem_nil⟩⟩⟩⟩⟩⟩⟩⟩⟩⟩⟩⟩⟩⟩⟩⟩
theorem lw_p16 : lw_okq (⟨"PathLists", "groupOfNext", "(LPathLists$Step;)I"⟩, 11) := ⟨⟨by decide +kernel, by decide +kernel⟩, List.mem_of_getElem? (i := 30) (by decide +kernel), List.mem_of_getElem? (i := 745) (by decide +kernel), List.mem_of_getElem? (i := 746) (by decide +kernel)⟩
theorem lw_p17 : lw_okq (⟨"PathLists", "leftByNext", "(LPathLists$Step;)D"⟩, 11) := ⟨⟨by decide +kernel, by decide +kernel⟩, List.mem_of_getElem? (i := 30) (by decide +kernel), List.mem_of_getElem? (i := 749) (by decide +kernel), List.mem_of_getElem? (i := 750) (by decide +kernel)⟩
theorem lw_p18 : lw_okq (⟨"PathLists", "take", "(LPathLists$Step;LPathLists$Ways;)V"⟩, 11) := ⟨⟨by decide +kernel, by decide +kernel⟩, List.mem_of_getElem? (i := 30) (by decide +kernel), List.mem_of_getElem? (i := 753) (by decide +kernel), List.mem_of_getElem? (i := 754) (by decide +kernel)⟩
theorem lw_p19 : lw_okq (⟨"PathLists", "checkListed", "()V"⟩, 11) := ⟨⟨by decide +kernel, by decide +kernel⟩, List.mem_of_getElem? (i := 30) (by decide +kernel), List.mem_of_getElem? (i := 764) (by decide +kernel), List.mem_of_getElem? (i := 765) (by decide +kernel)⟩
theorem lw_p20 : lw_okq (⟨"PathLists", "stepOf", "(II)LPathLists$Step;"⟩, 11) := ⟨⟨by decide +kernel, by decide +kernel⟩, List.mem_of_getElem? (i := 30) (by decide +kernel), List.mem_of_getElem? (i := 776) (by decide +kernel), List.mem_of_getElem? (i := 777) (by decide +kernel)⟩
theorem lw_p21 : lw_okq (⟨"PathLists", "countReachedOutputs", "(I)I"⟩, 11) := ⟨⟨by decide +kernel, by decide +kernel⟩, List.mem_of_getElem? (i := 30) (by decide +kernel), List.mem_of_getElem? (i := 802) (by decide +kernel), List.mem_of_getElem? (i := 803) (by decide +kernel)⟩
theorem lw_p22 : lw_okq (⟨"PathListsModel", "isPin", "(I)Z"⟩, 31) := ⟨⟨by decide +kernel, by decide +kernel⟩, List.mem_of_getElem? (i := 852) (by decide +kernel), List.mem_of_getElem? (i := 965) (by decide +kernel), List.mem_of_getElem? (i := 966) (by decide +kernel)⟩
theorem lw_p23 : lw_okq (⟨"PathListsModel", "spread", "(II)V"⟩, 31) := ⟨⟨by decide +kernel, by decide +kernel⟩, List.mem_of_getElem? (i := 852) (by decide +kernel), List.mem_of_getElem? (i := 974) (by decide +kernel), List.mem_of_getElem? (i := 975) (by decide +kernel)⟩
theorem lw_p24 : lw_okq (⟨"PathListsModel", "gather", "(I)V"⟩, 31) := ⟨⟨by decide +kernel, by decide +kernel⟩, List.mem_of_getElem? (i := 852) (by decide +kernel), List.mem_of_getElem? (i := 999) (by decide +kernel), List.mem_of_getElem? (i := 1000) (by decide +kernel)⟩
theorem lw_p25 : lw_okq (⟨"PathListsModel", "arrange", "()V"⟩, 31) := ⟨⟨by decide +kernel, by decide +kernel⟩, List.mem_of_getElem? (i := 852) (by decide +kernel), List.mem_of_getElem? (i := 1003) (by decide +kernel), List.mem_of_getElem? (i := 1004) (by decide +kernel)⟩
theorem lw_p26 : lw_okq (⟨"PathListsModel", "met", "(II)I"⟩, 31) := ⟨⟨by decide +kernel, by decide +kernel⟩, List.mem_of_getElem? (i := 852) (by decide +kernel), List.mem_of_getElem? (i := 1007) (by decide +kernel), List.mem_of_getElem? (i := 1008) (by decide +kernel)⟩
theorem lw_p27 : lw_okq (⟨"PathListsModel", "come", "(IIIID)V"⟩, 31) := ⟨⟨by decide +kernel, by decide +kernel⟩, List.mem_of_getElem? (i := 852) (by decide +kernel), List.mem_of_getElem? (i := 1011) (by decide +kernel), List.mem_of_getElem? (i := 1012) (by decide +kernel)⟩
theorem lw_p28 : lw_okq (⟨"PathListsModel", "compareRows", "(II)I"⟩, 31) := ⟨⟨by decide +kernel, by decide +kernel⟩, List.mem_of_getElem? (i := 852) (by decide +kernel), List.mem_of_getElem? (i := 1015) (by decide +kernel), List.mem_of_getElem? (i := 1016) (by decide +kernel)⟩
theorem lw_p29 : lw_okq (⟨"PathListsModel", "startOf", "(I)I"⟩, 31) := ⟨⟨by decide +kernel, by decide +kernel⟩, List.mem_of_getElem? (i := 852) (by decide +kernel), List.mem_of_getElem? (i := 1019) (by decide +kernel), List.mem_of_getElem? (i := 1020) (by decide +kernel)⟩
theorem lw_p30 : lw_okq (⟨"PathListsModel", "unroll", "(IZ)I"⟩, 31) := ⟨⟨by decide +kernel, by decide +kernel⟩, List.mem_of_getElem? (i := 852) (by decide +kernel), List.mem_of_getElem? (i := 1023) (by decide +kernel), List.mem_of_getElem? (i := 1024) (by decide +kernel)⟩
theorem lw_p31 : lw_okq (⟨"PathListsModel", "enlist", "(IIII)V"⟩, 31) := ⟨⟨by decide +kernel, by decide +kernel⟩, List.mem_of_getElem? (i := 852) (by decide +kernel), List.mem_of_getElem? (i := 1027) (by decide +kernel), List.mem_of_getElem? (i := 1028) (by decide +kernel)⟩
def lw_privs_2 : List (MethodName × Nat) := [(⟨"PathLists", "groupOfNext", "(LPathLists$Step;)I"⟩, 11), (⟨"PathLists", "leftByNext", "(LPathLists$Step;)D"⟩, 11), (⟨"PathLists", "take", "(LPathLists$Step;LPathLists$Ways;)V"⟩, 11), (⟨"PathLists", "checkListed", "()V"⟩, 11), (⟨"PathLists", "stepOf", "(II)LPathLists$Step;"⟩, 11), (⟨"PathLists", "countReachedOutputs", "(I)I"⟩, 11), (⟨"PathListsModel", "isPin", "(I)Z"⟩, 31), (⟨"PathListsModel", "spread", "(II)V"⟩, 31), (⟨"PathListsModel", "gather", "(I)V"⟩, 31), (⟨"PathListsModel", "arrange", "()V"⟩, 31), (⟨"PathListsModel", "met", "(II)I"⟩, 31), (⟨"PathListsModel", "come", "(IIIID)V"⟩, 31), (⟨"PathListsModel", "compareRows", "(II)I"⟩, 31), (⟨"PathListsModel", "startOf", "(I)I"⟩, 31), (⟨"PathListsModel", "unroll", "(IZ)I"⟩, 31), (⟨"PathListsModel", "enlist", "(IIII)V"⟩, 31)]
theorem lw_r2 : ∀ q ∈ lw_privs_2, lw_okq q := List.forall_mem_cons.mpr ⟨lw_p16, List.forall_mem_cons.mpr ⟨lw_p17, List.forall_mem_cons.mpr ⟨lw_p18, List.forall_mem_cons.mpr ⟨lw_p19, List.forall_mem_cons.mpr ⟨lw_p20, List.forall_mem_cons.mpr ⟨lw_p21, List.forall_mem_cons.mpr ⟨lw_p22, List.forall_mem_cons.mpr ⟨lw_p23, List.forall_mem_cons.mpr ⟨lw_p24, List.forall_mem_cons.mpr ⟨lw_p25, List.forall_mem_cons.mpr ⟨lw_p26, List.forall_mem_cons.mpr ⟨lw_p27, List.forall_mem_cons.mpr ⟨lw_p28, List.forall_mem_cons.mpr ⟨lw_p29, List.forall_mem_cons.mpr ⟨lw_p30, List.forall_mem_cons.mpr ⟨lw_p31, fun _ h => absurd h List.not_mem_nil⟩⟩⟩⟩⟩⟩⟩⟩⟩⟩⟩⟩⟩⟩⟩⟩
theorem lw_p32 : lw_okq (⟨"PathListsModel", "isBefore", "(II)Z"⟩, 31) := ⟨⟨by decide +kernel, by decide +kernel⟩, List.mem_of_getElem? (i := 852) (by decide +kernel), List.mem_of_getElem? (i := 1031) (by decide +kernel), List.mem_of_getElem? (i := 1032) (by decide +kernel)⟩
theorem lw_p33 : lw_okq (⟨"PathListsModel", "slackOf", "(I)D"⟩, 31) := ⟨⟨by decide +kernel, by decide +kernel⟩, List.mem_of_getElem? (i := 852) (by decide +kernel), List.mem_of_getElem? (i := 1035) (by decide +kernel), List.mem_of_getElem? (i := 1036) (by decide +kernel)⟩
theorem lw_p34 : lw_okq (⟨"PathListsModel", "faultOf", "(I)I"⟩, 31) := ⟨⟨by decide +kernel, by decide +kernel⟩, List.mem_of_getElem? (i := 852) (by decide +kernel), List.mem_of_getElem? (i := 1043) (by decide +kernel), List.mem_of_getElem? (i := 1044) (by decide +kernel)⟩
theorem lw_p35 : lw_okq (⟨"PathListsModel", "isReduced", "(III)Z"⟩, 31) := ⟨⟨by decide +kernel, by decide +kernel⟩, List.mem_of_getElem? (i := 852) (by decide +kernel), List.mem_of_getElem? (i := 1059) (by decide +kernel), List.mem_of_getElem? (i := 1060) (by decide +kernel)⟩
theorem lw_p36 : lw_okq (⟨"PathListsModel", "isEdge", "(IZ)Z"⟩, 31) := ⟨⟨by decide +kernel, by decide +kernel⟩, List.mem_of_getElem? (i := 852) (by decide +kernel), List.mem_of_getElem? (i := 1063) (by decide +kernel), List.mem_of_getElem? (i := 1064) (by decide +kernel)⟩
def lw_privs_3 : List (MethodName × Nat) := [(⟨"PathListsModel", "isBefore", "(II)Z"⟩, 31), (⟨"PathListsModel", "slackOf", "(I)D"⟩, 31), (⟨"PathListsModel", "faultOf", "(I)I"⟩, 31), (⟨"PathListsModel", "isReduced", "(III)Z"⟩, 31), (⟨"PathListsModel", "isEdge", "(IZ)Z"⟩, 31)]
theorem lw_r3 : ∀ q ∈ lw_privs_3, lw_okq q := List.forall_mem_cons.mpr ⟨lw_p32, List.forall_mem_cons.mpr ⟨lw_p33, List.forall_mem_cons.mpr ⟨lw_p34, List.forall_mem_cons.mpr ⟨lw_p35, List.forall_mem_cons.mpr ⟨lw_p36, fun _ h => absurd h List.not_mem_nil⟩⟩⟩⟩⟩
def lw_privs : List (MethodName × Nat) := lw_privs_1 ++ (lw_privs_2 ++ (lw_privs_3))
def lw_tbl : List Cond := k2_sels lw_privs ++ tables_1
theorem lw_privs_ok : ∀ q ∈ lw_privs, lw_okq q := by
  show ∀ q ∈ lw_privs_1 ++ (lw_privs_2 ++ (lw_privs_3)), lw_okq q
  exact List.forall_mem_append.mpr ⟨lw_r1, List.forall_mem_append.mpr ⟨lw_r2, lw_r3⟩⟩
/-- the streams that the claim lets the run draw from -/
abbrev lw_cs : List Choice := [Jvm.Choice.named "NaN.bits"]
theorem lw_bits : nanBits ∈ lw_cs := by first | decide | exact List.mem_cons_self | simp [lw_cs, nanBits]

def RX0 : String := "PathLists$Change"
def TX0 : u_T := fun k => match k with
  | 0 => ("PathLists$Change", "arc", "LPathLists$Step;", true)
  | _ => ("PathLists$Change", "delay", "D", true)
def tyX0 : Nat → FieldType := fun k => match k with
  | 0 => .object "PathLists$Step"
  | _ => .double
abbrev wsX00 : List Cond := u_ws RX0 TX0 2
theorem nmX0 : ∀ a, a < 2 → ∀ b, b < 2 → a ≠ b → (TX0 a).2.1 ≠ (TX0 b).2.1 := by decide +kernel
theorem tyX0_ok : ∀ k, k < 2 → parseFieldDescriptor (TX0 k).2.2.1 = some (tyX0 k) := by decide +kernel
abbrev cX0_init : ByteArray := prog_2_method_1_code
def yX0_init : MethodName := ⟨RX0, "<init>", "(LPathLists$Step;D)V"⟩
def RX1 : String := "PathLists$Pin"
def TX1 : u_T := fun k => match k with
  | 0 => ("PathLists$Pin", "in", "Ljava/util/ArrayList;", true)
  | 1 => ("PathLists$Pin", "out", "Ljava/util/ArrayList;", true)
  | 2 => ("PathLists$Pin", "ways", "LPathLists$Ways;", true)
  | 3 => ("PathLists$Pin", "place", "I", false)
  | 4 => ("PathLists$Pin", "endCount", "I", false)
  | 5 => ("PathLists$Pin", "block", "I", false)
  | _ => ("PathLists$Pin", "reach", "D", false)
def tyX1 : Nat → FieldType := fun k => match k with
  | 0 => .object "java/util/ArrayList"
  | 1 => .object "java/util/ArrayList"
  | 2 => .object "PathLists$Ways"
  | 3 => .int
  | 4 => .int
  | 5 => .int
  | _ => .double
abbrev wsX10 : List Cond := u_ws RX1 TX1 7
theorem nmX1 : ∀ a, a < 7 → ∀ b, b < 7 → a ≠ b → (TX1 a).2.1 ≠ (TX1 b).2.1 := by decide +kernel
theorem tyX1_ok : ∀ k, k < 7 → parseFieldDescriptor (TX1 k).2.2.1 = some (tyX1 k) := by decide +kernel
abbrev cX1_init : ByteArray := prog_3_method_1_code
def yX1_init : MethodName := ⟨RX1, "<init>", "(II)V"⟩
def RX2 : String := "PathLists$Step"
def TX2 : u_T := fun k => match k with
  | 0 => ("PathLists$Step", "number", "I", true)
  | 1 => ("PathLists$Step", "from", "LPathLists$Pin;", true)
  | 2 => ("PathLists$Step", "to", "LPathLists$Pin;", true)
  | 3 => ("PathLists$Step", "cost", "D", false)
  | 4 => ("PathLists$Step", "group", "I", false)
  | _ => ("PathLists$Step", "next", "I", false)
def tyX2 : Nat → FieldType := fun k => match k with
  | 0 => .int
  | 1 => .object "PathLists$Pin"
  | 2 => .object "PathLists$Pin"
  | 3 => .double
  | 4 => .int
  | _ => .int
abbrev wsX20 : List Cond := u_ws RX2 TX2 6
theorem nmX2 : ∀ a, a < 6 → ∀ b, b < 6 → a ≠ b → (TX2 a).2.1 ≠ (TX2 b).2.1 := by decide +kernel
theorem tyX2_ok : ∀ k, k < 6 → parseFieldDescriptor (TX2 k).2.2.1 = some (tyX2 k) := by decide +kernel
abbrev cX2_init : ByteArray := prog_4_method_1_code
def yX2_init : MethodName := ⟨RX2, "<init>", "(ILPathLists$Pin;LPathLists$Pin;D)V"⟩
def RX3 : String := "PathLists$Ways"
def TX3 : u_T := fun k => match k with
  | 0 => ("PathLists$Ways", "left", "[D", true)
  | 1 => ("PathLists$Ways", "step", "[LPathLists$Step;", true)
  | 2 => ("PathLists$Ways", "rest", "[I", true)
  | 3 => ("PathLists$Ways", "group", "[I", true)
  | _ => ("PathLists$Ways", "size", "I", false)
def tyX3 : Nat → FieldType := fun k => match k with
  | 0 => .array .double
  | 1 => .array (.object "PathLists$Step")
  | 2 => .array .int
  | 3 => .array .int
  | _ => .int
abbrev wsX30 : List Cond := u_ws RX3 TX3 5
theorem nmX3 : ∀ a, a < 5 → ∀ b, b < 5 → a ≠ b → (TX3 a).2.1 ≠ (TX3 b).2.1 := by decide +kernel
theorem tyX3_ok : ∀ k, k < 5 → parseFieldDescriptor (TX3 k).2.2.1 = some (tyX3 k) := by decide +kernel
abbrev cX3_init : ByteArray := prog_5_method_1_code
def yX3_init : MethodName := ⟨RX3, "<init>", "(I)V"⟩
def RX4 : String := "PathLists"
def TX4 : u_T := fun k => match k with
  | 0 => ("PathLists", "pins", "Ljava/util/ArrayList;", true)
  | 1 => ("PathLists", "arcs", "Ljava/util/ArrayList;", true)
  | 2 => ("PathLists", "starts", "Ljava/util/ArrayList;", true)
  | 3 => ("PathLists", "ends", "Ljava/util/ArrayList;", true)
  | 4 => ("PathLists", "changes", "Ljava/util/ArrayList;", true)
  | 5 => ("PathLists", "sorted", "Ljava/util/ArrayList;", true)
  | 6 => ("PathLists", "throughPins", "[I", true)
  | 7 => ("PathLists", "source", "LPathLists$Pin;", true)
  | 8 => ("PathLists", "sink", "LPathLists$Pin;", true)
  | 9 => ("PathLists", "taken", "[I", true)
  | _ => ("PathLists", "isListed", "Z", false)
def tyX4 : Nat → FieldType := fun k => match k with
  | 0 => .object "java/util/ArrayList"
  | 1 => .object "java/util/ArrayList"
  | 2 => .object "java/util/ArrayList"
  | 3 => .object "java/util/ArrayList"
  | 4 => .object "java/util/ArrayList"
  | 5 => .object "java/util/ArrayList"
  | 6 => .array .int
  | 7 => .object "PathLists$Pin"
  | 8 => .object "PathLists$Pin"
  | 9 => .array .int
  | _ => .boolean
abbrev wsX40 : List Cond := u_ws RX4 TX4 11
theorem nmX4 : ∀ a, a < 11 → ∀ b, b < 11 → a ≠ b → (TX4 a).2.1 ≠ (TX4 b).2.1 := by decide +kernel
theorem tyX4_ok : ∀ k, k < 11 → parseFieldDescriptor (TX4 k).2.2.1 = some (tyX4 k) := by decide +kernel
abbrev cX4_init : ByteArray := prog_1_method_1_code
def yX4_init : MethodName := ⟨RX4, "<init>", "()V"⟩
abbrev cX4_pin : ByteArray := prog_1_method_2_code
def yX4_pin : MethodName := ⟨RX4, "pin", "()I"⟩
abbrev cX4_arc : ByteArray := prog_1_method_3_code
def yX4_arc : MethodName := ⟨RX4, "arc", "(IID)I"⟩
abbrev cX4_end : ByteArray := prog_1_method_4_code
def yX4_end : MethodName := ⟨RX4, "end", "(ID)I"⟩
abbrev cX4_start : ByteArray := prog_1_method_5_code
def yX4_start : MethodName := ⟨RX4, "start", "(ID)I"⟩
abbrev cX4_through : ByteArray := prog_1_method_6_code
def yX4_through : MethodName := ⟨RX4, "through", "(II)Z"⟩
abbrev cX4_run : ByteArray := prog_1_method_7_code
def yX4_run : MethodName := ⟨RX4, "run", "(I)I"⟩
abbrev cX4_slack : ByteArray := prog_1_method_8_code
def yX4_slack : MethodName := ⟨RX4, "slack", "(I)D"⟩
abbrev cX4_at : ByteArray := prog_1_method_9_code
def yX4_at : MethodName := ⟨RX4, "at", "(II)I"⟩
abbrev cX4_group : ByteArray := prog_1_method_10_code
def yX4_group : MethodName := ⟨RX4, "group", "(II)I"⟩
abbrev cX4_model : ByteArray := prog_1_method_11_code
def yX4_model : MethodName := ⟨RX4, "model", "(I)I"⟩
abbrev cX4_into : ByteArray := prog_1_method_12_code
def yX4_into : MethodName := ⟨RX4, "into", "(II)Z"⟩
abbrev cX4_reduced : ByteArray := prog_1_method_13_code
def yX4_reduced : MethodName := ⟨RX4, "reduced", "(III)D"⟩
abbrev cX4_budget : ByteArray := prog_1_method_14_code
def yX4_budget : MethodName := ⟨RX4, "budget", "(II)D"⟩
abbrev cX4_whatIf : ByteArray := prog_1_method_15_code
def yX4_whatIf : MethodName := ⟨RX4, "whatIf", "(ID)Z"⟩
abbrev cX4_back : ByteArray := prog_1_method_16_code
def yX4_back : MethodName := ⟨RX4, "back", "()Z"⟩
abbrev cX4_checkIndex : ByteArray := prog_1_method_17_code
def yX4_checkIndex : MethodName := ⟨RX4, "checkIndex", "(II)V"⟩
abbrev cX4_checkTime : ByteArray := prog_1_method_18_code
def yX4_checkTime : MethodName := ⟨RX4, "checkTime", "(D)V"⟩
abbrev cX4_checkListed : ByteArray := prog_1_method_19_code
def yX4_checkListed : MethodName := ⟨RX4, "checkListed", "()V"⟩
abbrev cX4_isTime : ByteArray := prog_1_method_20_code
def yX4_isTime : MethodName := ⟨RX4, "isTime", "(D)Z"⟩
abbrev cX4_isDelay : ByteArray := prog_1_method_21_code
def yX4_isDelay : MethodName := ⟨RX4, "isDelay", "(D)Z"⟩
abbrev cX4_spread : ByteArray := prog_1_method_22_code
def yX4_spread : MethodName := ⟨RX4, "spread", "(LPathLists$Pin;I)V"⟩
abbrev cX4_spreadFurther : ByteArray := prog_1_method_23_code
def yX4_spreadFurther : MethodName := ⟨RX4, "spreadFurther", "(LPathLists$Pin;I)V"⟩
abbrev cX4_placeReachedLast : ByteArray := prog_1_method_24_code
def yX4_placeReachedLast : MethodName := ⟨RX4, "placeReachedLast", "()V"⟩
abbrev cX4_throughRises : ByteArray := prog_1_method_25_code
def yX4_throughRises : MethodName := ⟨RX4, "throughRises", "()Z"⟩
abbrev cX4_placeOfOrder : ByteArray := prog_1_method_26_code
def yX4_placeOfOrder : MethodName := ⟨RX4, "placeOfOrder", "(I)I"⟩
abbrev cX4_leavesOut : ByteArray := prog_1_method_27_code
def yX4_leavesOut : MethodName := ⟨RX4, "leavesOut", "(LPathLists$Step;)Z"⟩
abbrev cX4_gather : ByteArray := prog_1_method_28_code
def yX4_gather : MethodName := ⟨RX4, "gather", "(LPathLists$Pin;I)V"⟩
abbrev cX4_firstOf : ByteArray := prog_1_method_29_code
def yX4_firstOf : MethodName := ⟨RX4, "firstOf", "(Ljava/util/ArrayList;I)LPathLists$Step;"⟩
abbrev cX4_hasNext : ByteArray := prog_1_method_30_code
def yX4_hasNext : MethodName := ⟨RX4, "hasNext", "(LPathLists$Step;I)Z"⟩
abbrev cX4_leftByNext : ByteArray := prog_1_method_31_code
def yX4_leftByNext : MethodName := ⟨RX4, "leftByNext", "(LPathLists$Step;)D"⟩
abbrev cX4_groupOfNext : ByteArray := prog_1_method_32_code
def yX4_groupOfNext : MethodName := ⟨RX4, "groupOfNext", "(LPathLists$Step;)I"⟩
abbrev cX4_take : ByteArray := prog_1_method_33_code
def yX4_take : MethodName := ⟨RX4, "take", "(LPathLists$Step;LPathLists$Ways;)V"⟩
abbrev cX4_stepOf : ByteArray := prog_1_method_34_code
def yX4_stepOf : MethodName := ⟨RX4, "stepOf", "(II)LPathLists$Step;"⟩
abbrev cX4_firstStep : ByteArray := prog_1_method_35_code
def yX4_firstStep : MethodName := ⟨RX4, "firstStep", "(LPathLists$Ways;I)LPathLists$Step;"⟩
abbrev cX4_isInput : ByteArray := prog_1_method_36_code
def yX4_isInput : MethodName := ⟨RX4, "isInput", "(LPathLists$Pin;I)Z"⟩
abbrev cX4_isOutput : ByteArray := prog_1_method_37_code
def yX4_isOutput : MethodName := ⟨RX4, "isOutput", "(LPathLists$Pin;I)Z"⟩
abbrev cX4_countReachedOutputs : ByteArray := prog_1_method_38_code
def yX4_countReachedOutputs : MethodName := ⟨RX4, "countReachedOutputs", "(I)I"⟩
def RX5 : String := "PathListsModel"
def TX5 : u_T := fun k => match k with
  | 0 => ("PathListsModel", "code", "I", false)
  | 1 => ("PathListsModel", "pins", "I", false)
  | 2 => ("PathListsModel", "blocks", "[I", true)
  | 3 => ("PathListsModel", "froms", "[I", true)
  | 4 => ("PathListsModel", "tos", "[I", true)
  | 5 => ("PathListsModel", "delays", "[D", true)
  | 6 => ("PathListsModel", "arcs", "I", false)
  | 7 => ("PathListsModel", "startPins", "[I", true)
  | 8 => ("PathListsModel", "arrivals", "[D", true)
  | 9 => ("PathListsModel", "starts", "I", false)
  | 10 => ("PathListsModel", "endPins", "[I", true)
  | 11 => ("PathListsModel", "requireds", "[D", true)
  | 12 => ("PathListsModel", "groups", "[I", true)
  | 13 => ("PathListsModel", "ends", "I", false)
  | 14 => ("PathListsModel", "throughs", "[I", true)
  | 15 => ("PathListsModel", "oldArcs", "[I", true)
  | 16 => ("PathListsModel", "oldDelays", "[D", true)
  | 17 => ("PathListsModel", "olds", "I", false)
  | 18 => ("PathListsModel", "rowBefore", "[I", true)
  | 19 => ("PathListsModel", "rowWhat", "[I", true)
  | 20 => ("PathListsModel", "rowTime", "[D", true)
  | 21 => ("PathListsModel", "rowCounts", "[I", true)
  | 22 => ("PathListsModel", "listRows", "[I", true)
  | 23 => ("PathListsModel", "listEnds", "[I", true)
  | 24 => ("PathListsModel", "listed", "I", false)
  | 25 => ("PathListsModel", "fresh", "Z", false)
  | 26 => ("PathListsModel", "reached", "[Z", true)
  | 27 => ("PathListsModel", "left", "[I", true)
  | 28 => ("PathListsModel", "right", "[I", true)
  | 29 => ("PathListsModel", "order", "[I", true)
  | _ => ("PathListsModel", "greatest", "[D", true)
def tyX5 : Nat → FieldType := fun k => match k with
  | 0 => .int
  | 1 => .int
  | 2 => .array .int
  | 3 => .array .int
  | 4 => .array .int
  | 5 => .array .double
  | 6 => .int
  | 7 => .array .int
  | 8 => .array .double
  | 9 => .int
  | 10 => .array .int
  | 11 => .array .double
  | 12 => .array .int
  | 13 => .int
  | 14 => .array .int
  | 15 => .array .int
  | 16 => .array .double
  | 17 => .int
  | 18 => .array .int
  | 19 => .array .int
  | 20 => .array .double
  | 21 => .array .int
  | 22 => .array .int
  | 23 => .array .int
  | 24 => .int
  | 25 => .boolean
  | 26 => .array .boolean
  | 27 => .array .int
  | 28 => .array .int
  | 29 => .array .int
  | _ => .array .double
abbrev wsX50 : List Cond := u_ws RX5 TX5 31
theorem nmX5 : ∀ a, a < 31 → ∀ b, b < 31 → a ≠ b → (TX5 a).2.1 ≠ (TX5 b).2.1 := by decide +kernel
theorem tyX5_ok : ∀ k, k < 31 → parseFieldDescriptor (TX5 k).2.2.1 = some (tyX5 k) := by decide +kernel
abbrev cX5_init : ByteArray := prog_7_method_1_code
def yX5_init : MethodName := ⟨RX5, "<init>", "()V"⟩
abbrev cX5_thrown : ByteArray := prog_7_method_2_code
def yX5_thrown : MethodName := ⟨RX5, "thrown", "()I"⟩
abbrev cX5_isPin : ByteArray := prog_7_method_3_code
def yX5_isPin : MethodName := ⟨RX5, "isPin", "(I)Z"⟩
abbrev cX5_isTime : ByteArray := prog_7_method_4_code
def yX5_isTime : MethodName := ⟨RX5, "isTime", "(DD)Z"⟩
abbrev cX5_pin : ByteArray := prog_7_method_5_code
def yX5_pin : MethodName := ⟨RX5, "pin", "()I"⟩
abbrev cX5_spread : ByteArray := prog_7_method_6_code
def yX5_spread : MethodName := ⟨RX5, "spread", "(II)V"⟩
abbrev cX5_arc : ByteArray := prog_7_method_7_code
def yX5_arc : MethodName := ⟨RX5, "arc", "(IID)I"⟩
abbrev cX5_end : ByteArray := prog_7_method_8_code
def yX5_end : MethodName := ⟨RX5, "end", "(ID)I"⟩
abbrev cX5_start : ByteArray := prog_7_method_9_code
def yX5_start : MethodName := ⟨RX5, "start", "(ID)I"⟩
abbrev cX5_through : ByteArray := prog_7_method_10_code
def yX5_through : MethodName := ⟨RX5, "through", "(II)Z"⟩
abbrev cX5_group : ByteArray := prog_7_method_11_code
def yX5_group : MethodName := ⟨RX5, "group", "(II)I"⟩
abbrev cX5_met : ByteArray := prog_7_method_12_code
def yX5_met : MethodName := ⟨RX5, "met", "(II)I"⟩
abbrev cX5_unroll : ByteArray := prog_7_method_13_code
def yX5_unroll : MethodName := ⟨RX5, "unroll", "(IZ)I"⟩
abbrev cX5_startOf : ByteArray := prog_7_method_14_code
def yX5_startOf : MethodName := ⟨RX5, "startOf", "(I)I"⟩
abbrev cX5_compareRows : ByteArray := prog_7_method_15_code
def yX5_compareRows : MethodName := ⟨RX5, "compareRows", "(II)I"⟩
abbrev cX5_come : ByteArray := prog_7_method_16_code
def yX5_come : MethodName := ⟨RX5, "come", "(IIIID)V"⟩
abbrev cX5_arrange : ByteArray := prog_7_method_17_code
def yX5_arrange : MethodName := ⟨RX5, "arrange", "()V"⟩
abbrev cX5_gather : ByteArray := prog_7_method_18_code
def yX5_gather : MethodName := ⟨RX5, "gather", "(I)V"⟩
abbrev cX5_slackOf : ByteArray := prog_7_method_19_code
def yX5_slackOf : MethodName := ⟨RX5, "slackOf", "(I)D"⟩
abbrev cX5_isBefore : ByteArray := prog_7_method_20_code
def yX5_isBefore : MethodName := ⟨RX5, "isBefore", "(II)Z"⟩
abbrev cX5_enlist : ByteArray := prog_7_method_21_code
def yX5_enlist : MethodName := ⟨RX5, "enlist", "(IIII)V"⟩
abbrev cX5_run : ByteArray := prog_7_method_22_code
def yX5_run : MethodName := ⟨RX5, "run", "(I)I"⟩
abbrev cX5_faultOf : ByteArray := prog_7_method_23_code
def yX5_faultOf : MethodName := ⟨RX5, "faultOf", "(I)I"⟩
abbrev cX5_slack : ByteArray := prog_7_method_24_code
def yX5_slack : MethodName := ⟨RX5, "slack", "(I)D"⟩
abbrev cX5_at : ByteArray := prog_7_method_25_code
def yX5_at : MethodName := ⟨RX5, "at", "(II)I"⟩
abbrev cX5_budget : ByteArray := prog_7_method_26_code
def yX5_budget : MethodName := ⟨RX5, "budget", "(II)D"⟩
abbrev cX5_isEdge : ByteArray := prog_7_method_27_code
def yX5_isEdge : MethodName := ⟨RX5, "isEdge", "(IZ)Z"⟩
abbrev cX5_isReduced : ByteArray := prog_7_method_28_code
def yX5_isReduced : MethodName := ⟨RX5, "isReduced", "(III)Z"⟩
abbrev cX5_model : ByteArray := prog_7_method_29_code
def yX5_model : MethodName := ⟨RX5, "model", "(I)I"⟩
abbrev cX5_reduced : ByteArray := prog_7_method_30_code
def yX5_reduced : MethodName := ⟨RX5, "reduced", "(III)D"⟩
abbrev cX5_into : ByteArray := prog_7_method_31_code
def yX5_into : MethodName := ⟨RX5, "into", "(II)Z"⟩
abbrev cX5_whatIf : ByteArray := prog_7_method_32_code
def yX5_whatIf : MethodName := ⟨RX5, "whatIf", "(ID)Z"⟩
abbrev cX5_back : ByteArray := prog_7_method_33_code
def yX5_back : MethodName := ⟨RX5, "back", "()Z"⟩
def RJ9 : String := "java/lang/Math"
def TJ9 : u_T := fun k => match k with
  | _ => ("", "", "", false)
def tyJ9 : Nat → FieldType := fun k => match k with
  | _ => .int
theorem nmJ9 : ∀ a, a < 0 → ∀ b, b < 0 → a ≠ b → (TJ9 a).2.1 ≠ (TJ9 b).2.1 := by decide +kernel
theorem tyJ9_ok : ∀ k, k < 0 → parseFieldDescriptor (TJ9 k).2.2.1 = some (tyJ9 k) := by decide +kernel
abbrev cJ9_max_7cf53 : ByteArray := prog_20_method_65_code
def yJ9_max_7cf53 : MethodName := ⟨RJ9, "max", "(II)I"⟩
abbrev cJ9_min_7cf53 : ByteArray := prog_20_method_69_code
def yJ9_min_7cf53 : MethodName := ⟨RJ9, "min", "(II)I"⟩
def RJ10 : String := "java/lang/System"
def TJ10 : u_T := fun k => match k with
  | _ => ("", "", "", false)
def tyJ10 : Nat → FieldType := fun k => match k with
  | _ => .int
theorem nmJ10 : ∀ a, a < 0 → ∀ b, b < 0 → a ≠ b → (TJ10 a).2.1 ≠ (TJ10 b).2.1 := by decide +kernel
theorem tyJ10_ok : ∀ k, k < 0 → parseFieldDescriptor (TJ10 k).2.2.1 = some (tyJ10 k) := by decide +kernel
def RJxa1e45 : String := "java/util/AbstractCollection"
def TJxa1e45 : u_T := fun k => match k with
  | _ => ("", "", "", false)
def tyJxa1e45 : Nat → FieldType := fun k => match k with
  | _ => .int
theorem nmJxa1e45 : ∀ a, a < 0 → ∀ b, b < 0 → a ≠ b → (TJxa1e45 a).2.1 ≠ (TJxa1e45 b).2.1 := by decide +kernel
theorem tyJxa1e45_ok : ∀ k, k < 0 → parseFieldDescriptor (TJxa1e45 k).2.2.1 = some (tyJxa1e45 k) := by decide +kernel
abbrev cJxa1e45_init_da8c8 : ByteArray := prog_31_method_1_code
def yJxa1e45_init_da8c8 : MethodName := ⟨RJxa1e45, "<init>", "()V"⟩
def RJxc12de : String := "java/util/AbstractList"
def TJxc12de : u_T := fun k => match k with
  | _ => ("", "", "", false)
def tyJxc12de : Nat → FieldType := fun k => match k with
  | _ => .int
theorem nmJxc12de : ∀ a, a < 0 → ∀ b, b < 0 → a ≠ b → (TJxc12de a).2.1 ≠ (TJxc12de b).2.1 := by decide +kernel
theorem tyJxc12de_ok : ∀ k, k < 0 → parseFieldDescriptor (TJxc12de k).2.2.1 = some (tyJxc12de k) := by decide +kernel
abbrev cJxc12de_init_da8c8 : ByteArray := prog_32_method_1_code
def yJxc12de_init_da8c8 : MethodName := ⟨RJxc12de, "<init>", "()V"⟩
def RJx4a65c : String := "java/util/ArrayList"
def TJx4a65c : u_T := fun k => match k with
  | 0 => ("java/util/AbstractList", "modCount", "I", false)
  | 1 => ("java/util/ArrayList", "elementData", "[Ljava/lang/Object;", false)
  | _ => ("java/util/ArrayList", "size", "I", false)
def tyJx4a65c : Nat → FieldType := fun k => match k with
  | 0 => .int
  | 1 => .array (.object "java/lang/Object")
  | _ => .int
abbrev wsJx4a65c0 : List Cond := u_ws RJx4a65c TJx4a65c 3
theorem nmJx4a65c : ∀ a, a < 3 → ∀ b, b < 3 → a ≠ b → (TJx4a65c a).2.1 ≠ (TJx4a65c b).2.1 := by decide +kernel
theorem tyJx4a65c_ok : ∀ k, k < 3 → parseFieldDescriptor (TJx4a65c k).2.2.1 = some (tyJx4a65c k) := by decide +kernel
abbrev cJx4a65c_init_da8c8 : ByteArray := prog_33_method_2_code
def yJx4a65c_init_da8c8 : MethodName := ⟨RJx4a65c, "<init>", "()V"⟩
abbrev cJx4a65c_grow_92f84 : ByteArray := prog_33_method_6_code
def yJx4a65c_grow_92f84 : MethodName := ⟨RJx4a65c, "grow", "(I)[Ljava/lang/Object;"⟩
abbrev cJx4a65c_grow_d5877 : ByteArray := prog_33_method_7_code
def yJx4a65c_grow_d5877 : MethodName := ⟨RJx4a65c, "grow", "()[Ljava/lang/Object;"⟩
abbrev cJx4a65c_size_8abf5 : ByteArray := prog_33_method_8_code
def yJx4a65c_size_8abf5 : MethodName := ⟨RJx4a65c, "size", "()I"⟩
abbrev cJx4a65c_isEmpty_aae02 : ByteArray := prog_33_method_9_code
def yJx4a65c_isEmpty_aae02 : MethodName := ⟨RJx4a65c, "isEmpty", "()Z"⟩
abbrev cJx4a65c_elementData_915e3 : ByteArray := prog_33_method_18_code
def yJx4a65c_elementData_915e3 : MethodName := ⟨RJx4a65c, "elementData", "(I)Ljava/lang/Object;"⟩
abbrev cJx4a65c_get_915e3 : ByteArray := prog_33_method_20_code
def yJx4a65c_get_915e3 : MethodName := ⟨RJx4a65c, "get", "(I)Ljava/lang/Object;"⟩
abbrev cJx4a65c_add_72be8 : ByteArray := prog_33_method_24_code
def yJx4a65c_add_72be8 : MethodName := ⟨RJx4a65c, "add", "(Ljava/lang/Object;[Ljava/lang/Object;I)V"⟩
abbrev cJx4a65c_add_9ea2d : ByteArray := prog_33_method_25_code
def yJx4a65c_add_9ea2d : MethodName := ⟨RJx4a65c, "add", "(Ljava/lang/Object;)Z"⟩
abbrev cJx4a65c_add_7a177 : ByteArray := prog_33_method_26_code
def yJx4a65c_add_7a177 : MethodName := ⟨RJx4a65c, "add", "(ILjava/lang/Object;)V"⟩
abbrev cJx4a65c_remove_915e3 : ByteArray := prog_33_method_29_code
def yJx4a65c_remove_915e3 : MethodName := ⟨RJx4a65c, "remove", "(I)Ljava/lang/Object;"⟩
abbrev cJx4a65c_fastRemove_b59b0 : ByteArray := prog_33_method_39_code
def yJx4a65c_fastRemove_b59b0 : MethodName := ⟨RJx4a65c, "fastRemove", "([Ljava/lang/Object;I)V"⟩
abbrev cJx4a65c_rangeCheckForAdd_d00df : ByteArray := prog_33_method_45_code
def yJx4a65c_rangeCheckForAdd_d00df : MethodName := ⟨RJx4a65c, "rangeCheckForAdd", "(I)V"⟩
abbrev cJx4a65c_outOfBoundsMsg_b52d3 : ByteArray := prog_33_method_46_code
def yJx4a65c_outOfBoundsMsg_b52d3 : MethodName := ⟨RJx4a65c, "outOfBoundsMsg", "(I)Ljava/lang/String;"⟩
def RJ7 : String := "java/util/Arrays"
def TJ7 : u_T := fun k => match k with
  | _ => ("", "", "", false)
def tyJ7 : Nat → FieldType := fun k => match k with
  | _ => .int
theorem nmJ7 : ∀ a, a < 0 → ∀ b, b < 0 → a ≠ b → (TJ7 a).2.1 ≠ (TJ7 b).2.1 := by decide +kernel
theorem tyJ7_ok : ∀ k, k < 0 → parseFieldDescriptor (TJ7 k).2.2.1 = some (tyJ7 k) := by decide +kernel
abbrev cJ7_fill_53178 : ByteArray := prog_34_method_103_code
def yJ7_fill_53178 : MethodName := ⟨RJ7, "fill", "([II)V"⟩
abbrev cJ7_copyOf_1904c : ByteArray := prog_34_method_119_code
def yJ7_copyOf_1904c : MethodName := ⟨RJ7, "copyOf", "([Ljava/lang/Object;I)[Ljava/lang/Object;"⟩
abbrev cJ7_copyOf_6403c : ByteArray := prog_34_method_120_code
def yJ7_copyOf_6403c : MethodName := ⟨RJ7, "copyOf", "([Ljava/lang/Object;ILjava/lang/Class;)[Ljava/lang/Object;"⟩
abbrev cJ7_copyOf_9075b : ByteArray := prog_34_method_121_code
def yJ7_copyOf_9075b : MethodName := ⟨RJ7, "copyOf", "([BI)[B"⟩
abbrev cJ7_checkLength_df160 : ByteArray := prog_34_method_131_code
def yJ7_checkLength_df160 : MethodName := ⟨RJ7, "checkLength", "(II)V"⟩
abbrev cJ7_copyOfRange_39247 : ByteArray := prog_34_method_132_code
def yJ7_copyOfRange_39247 : MethodName := ⟨RJ7, "copyOfRange", "([BII)[B"⟩
abbrev cJ7_copyOfRangeByte_39247 : ByteArray := prog_34_method_133_code
def yJ7_copyOfRangeByte_39247 : MethodName := ⟨RJ7, "copyOfRangeByte", "([BII)[B"⟩
def RJ15 : String := "java/util/Objects"
def TJ15 : u_T := fun k => match k with
  | _ => ("", "", "", false)
def tyJ15 : Nat → FieldType := fun k => match k with
  | _ => .int
theorem nmJ15 : ∀ a, a < 0 → ∀ b, b < 0 → a ≠ b → (TJ15 a).2.1 ≠ (TJ15 b).2.1 := by decide +kernel
theorem tyJ15_ok : ∀ k, k < 0 → parseFieldDescriptor (TJ15 k).2.2.1 = some (tyJ15 k) := by decide +kernel
abbrev cJ15_checkIndex_7cf53 : ByteArray := prog_37_method_17_code
def yJ15_checkIndex_7cf53 : MethodName := ⟨RJ15, "checkIndex", "(II)I"⟩
def RJ8 : String := "jdk/internal/util/ArraysSupport"
def TJ8 : u_T := fun k => match k with
  | _ => ("", "", "", false)
def tyJ8 : Nat → FieldType := fun k => match k with
  | _ => .int
theorem nmJ8 : ∀ a, a < 0 → ∀ b, b < 0 → a ≠ b → (TJ8 a).2.1 ≠ (TJ8 b).2.1 := by decide +kernel
theorem tyJ8_ok : ∀ k, k < 0 → parseFieldDescriptor (TJ8 k).2.2.1 = some (tyJ8 k) := by decide +kernel
abbrev cJ8_newLength_cabcc : ByteArray := prog_40_method_27_code
def yJ8_newLength_cabcc : MethodName := ⟨RJ8, "newLength", "(III)I"⟩
abbrev cJ8_hugeLength_7cf53 : ByteArray := prog_40_method_28_code
def yJ8_hugeLength_7cf53 : MethodName := ⟨RJ8, "hugeLength", "(II)I"⟩
def RJ3 : String := "jdk/internal/util/Preconditions"
def TJ3 : u_T := fun k => match k with
  | _ => ("", "", "", false)
def tyJ3 : Nat → FieldType := fun k => match k with
  | _ => .int
theorem nmJ3 : ∀ a, a < 0 → ∀ b, b < 0 → a ≠ b → (TJ3 a).2.1 ≠ (TJ3 b).2.1 := by decide +kernel
theorem tyJ3_ok : ∀ k, k < 0 → parseFieldDescriptor (TJ3 k).2.2.1 = some (tyJ3 k) := by decide +kernel
abbrev cJ3_checkIndex_8e157 : ByteArray := prog_41_method_11_code
def yJ3_checkIndex_8e157 : MethodName := ⟨RJ3, "checkIndex", "(IILjava/util/function/BiFunction;)I"⟩
abbrev cJ3_checkFromToIndex_8c36e : ByteArray := prog_41_method_12_code
def yJ3_checkFromToIndex_8c36e : MethodName := ⟨RJ3, "checkFromToIndex", "(IIILjava/util/function/BiFunction;)I"⟩
abbrev cJ3_checkFromIndexSize_8c36e : ByteArray := prog_41_method_13_code
def yJ3_checkFromIndexSize_8c36e : MethodName := ⟨RJ3, "checkFromIndexSize", "(IIILjava/util/function/BiFunction;)I"⟩
def RL : String := "PathListsLaw"
abbrev cL_pin : ByteArray := method_3_code
def yL_pin : MethodName := ⟨RL, "pin", "(LPathLists;[J)I"⟩
abbrev cL_arc : ByteArray := method_4_code
def yL_arc : MethodName := ⟨RL, "arc", "(LPathLists;IID[J)I"⟩
abbrev cL_end : ByteArray := method_5_code
def yL_end : MethodName := ⟨RL, "end", "(LPathLists;ID[J)I"⟩
abbrev cL_start : ByteArray := method_6_code
def yL_start : MethodName := ⟨RL, "start", "(LPathLists;ID[J)I"⟩
abbrev cL_through : ByteArray := method_7_code
def yL_through : MethodName := ⟨RL, "through", "(LPathLists;II[J)I"⟩
abbrev cL_run : ByteArray := method_8_code
def yL_run : MethodName := ⟨RL, "run", "(LPathLists;I[J)I"⟩
abbrev cL_slack : ByteArray := method_9_code
def yL_slack : MethodName := ⟨RL, "slack", "(LPathLists;I[D)I"⟩
abbrev cL_at : ByteArray := method_10_code
def yL_at : MethodName := ⟨RL, "at", "(LPathLists;II[J)I"⟩
abbrev cL_group : ByteArray := method_11_code
def yL_group : MethodName := ⟨RL, "group", "(LPathLists;II[J)I"⟩
abbrev cL_model : ByteArray := method_12_code
def yL_model : MethodName := ⟨RL, "model", "(LPathLists;I[J)I"⟩
abbrev cL_into : ByteArray := method_13_code
def yL_into : MethodName := ⟨RL, "into", "(LPathLists;II[J)I"⟩
abbrev cL_reduced : ByteArray := method_14_code
def yL_reduced : MethodName := ⟨RL, "reduced", "(LPathLists;III[D)I"⟩
abbrev cL_budget : ByteArray := method_15_code
def yL_budget : MethodName := ⟨RL, "budget", "(LPathLists;II[D)I"⟩
abbrev cL_whatIf : ByteArray := method_16_code
def yL_whatIf : MethodName := ⟨RL, "whatIf", "(LPathLists;ID[J)I"⟩
abbrev cL_law : ByteArray := code
def yL_law : MethodName := ⟨RL, "law", "([I)Z"⟩
theorem inX0 : ∀ w ∈ wsX00, w ∈ lw_tbl ∧ goodWord w = true := by decide +kernel
theorem inX1 : ∀ w ∈ wsX10, w ∈ lw_tbl ∧ goodWord w = true := by decide +kernel
theorem inX2 : ∀ w ∈ wsX20, w ∈ lw_tbl ∧ goodWord w = true := by decide +kernel
theorem inX3 : ∀ w ∈ wsX30, w ∈ lw_tbl ∧ goodWord w = true := by decide +kernel
theorem inX4 : ∀ w ∈ wsX40, w ∈ lw_tbl ∧ goodWord w = true := by decide +kernel
theorem inX5 : ∀ w ∈ wsX50, w ∈ lw_tbl ∧ goodWord w = true := by decide +kernel
theorem inJx4a65c : ∀ w ∈ wsJx4a65c0, w ∈ lw_tbl ∧ goodWord w = true := by decide +kernel
end
section
/-! ===== BEGIN words of one list among another's, by their places ===== -/
theorem goodIn_r {big : List Cond} (ws : List Cond) (ps : List Nat) (hp : ws = ps.filterMap (fun i => big[i]?)) (h : ws.all goodWord = true) : GoodIn big ws := by
  intro w hw
  have h1 := List.all_eq_true.mp h w hw
  rw [hp] at hw
  obtain ⟨i, -, hi⟩ := List.mem_filterMap.mp hw
  have hm : w ∈ big := by first | exact List.mem_of_getElem? hi | exact List.getElem?_mem hi
  exact ⟨hm, good_of_word h1⟩
theorem goodIn_app {big a b : List Cond} (ha : GoodIn big a) (hb : GoodIn big b) : GoodIn big (a ++ b) := fun w h => (List.mem_append.mp h).elim (ha w) (hb w)
theorem goodIn_ca {big a b : List Cond} {c : Cond} (ha : GoodIn big (c :: a)) (hb : GoodIn big b) : GoodIn big (c :: (a ++ b)) := fun w h => (List.mem_cons.mp h).elim (fun e => ha w (List.mem_cons.mpr (Or.inl e))) (fun h => (List.mem_append.mp h).elim (fun h => ha w (List.mem_cons.mpr (Or.inr h))) (hb w))
theorem goodIn_sub {big ws : List Cond} (hm : ∀ w ∈ ws, w ∈ big) (h : ws.all goodWord = true) : GoodIn big ws := fun w hw => ⟨hm w hw, good_of_word (List.all_eq_true.mp h w hw)⟩
/-! ===== END ===== -/

/-! ===== BEGIN exceptions that leave a method, and their catching by the caller (launches without stack traces) ===== -/
section VXA
/-! The laws vx_back, vx_callV, vx_callS, vx_callSW, vx_throw0, vx_throwS follow proofs of the library, with one case more: JvmDerived/Free/Laws.lean (Back.of_free), Shelf42/LK1.lean (callV, callS), Shelf/KitTraced.lean (throwNew0V, throwNewS). -/
/-- where a method has thrown q: the class by its name, the cell, what was written, the world -/
def vx_T (XC : String → State → State → Prop) (st : State) (q : Addr) (t : State) (mc ms : Nat) (free : Addr → Prop) : Prop :=
  ∃ (E : String) (ce : Cell) (L : List Loc), XC E st t ∧ t.heap[q]? = some ce ∧ ce.vm = .none ∧ st.vm.findClass E = some ce.cls ∧ st.WarmedH t.vm ∧ st.sameButNew ({ t with vm := st.vm } : State) L mc ms ∧ ∀ z ∈ L, free z.base
def vx_Q (Qc : Array Value → State → Outcome → State → Prop) (XC : String → State → State → Prop) (mc ms : Nat) (free : Addr → Prop) : Array Value → State → Outcome → State → Prop := fun a st o t =>
  (Qc a st o t ∧ ∃ L, FrameEnd st o t L mc ms ∧ ∀ q ∈ L, free q.base) ∨ ∃ q, o = .threw q ∧ vx_T XC st q t mc ms free
/-- a callee that returns or throws -/
def vx_Met (l : Launch) (y : MethodName) (ws : List Cond) (rm : Room) (Pc : Array Value → State → Prop) (Qc : Array Value → State → Outcome → State → Prop) (XC : String → State → State → Prop) (mc ms : Nat) (free : Addr → Prop) : Prop :=
  MetFree l y (headSpec ws rm) Pc (fun _ _ _ _ _ => True) (vx_Q Qc XC mc ms free)
def vx_Post (XC : String → State → State → Prop) (mc ms : Nat) (free : Addr → Prop) : Pt → Array Value → Addr → Pt → Prop := fun A a q B =>
  ∃ (g : JFrame) (mk : MethodId) (t : State) (L : List Loc) (E : String) (ce : Cell), B.U.heap = t.heap ∧ B.U.vm = t.vm ∧ XC E (A.U.calling g mk a) t ∧ t.heap[q]? = some ce ∧ ce.vm = .none ∧ A.U.vm.findClass E = some ce.cls ∧ B.locs = A.locs ++ L ∧ (∀ z ∈ L, free z.base) ∧ B.cells = A.cells + mc ∧ B.slots = A.slots + ms
def vx_Back (l : Launch) (R : Room) (p : Program) (e : Env) (below : List Frame) (s : State) (sargs : Array Value) (y : MethodName) (len W9 : Nat)
    (Pre : Pt → Array Value → Prop) (Post : Pt → Array Value → Option Value → Pt → Prop) (PostX : Pt → Array Value → Addr → Pt → Prop) : Prop :=
  ∀ (m : MethodId) (meth : Method) (c : Code) (A : Pt) (g : JFrame) (ig : Instr) (mk : MethodId) (a : Array Value),
    Stand p l e R s m sargs below meth c A.U A.locs A.cells A.slots → g.method = m → g.locals.size = c.maxLocals → decode c.code g.pc = .ok (ig, len) →
    2 * g.monitorRoom + (g.stack.map fun v => v.category).sum ≤ W9 → A.U.methodNamed? y = some mk → Pre A a →
    (∃ (v : Option Value) (B : Pt), Stand p l e R s m sargs below meth c B.U B.locs B.cells B.slots ∧ Post A a v B ∧
      Steps p.tables e below (doInvoke e (A.U.setTop g) [] mk a).1 (B.U.setTop { g with pc := g.pc + len, stack := v.toList ++ g.stack })) ∨
    (∃ (q : Addr) (B : Pt), Stand p l e R s m sargs below meth c B.U B.locs B.cells B.slots ∧ PostX A a q B ∧
      Steps p.tables e below (doInvoke e (A.U.setTop g) [] mk a).1 ((B.U.setTop g).pushFrame (.throwing q)))
section Payer
variable {l : Launch} {R : Room} {p : Program} {e : Env} {below : List Frame} {s : State} {sargs : Array Value} {y : MethodName} {len W9 : Nat}
theorem vx_back {ws : List Cond} {rm : Room} {Pc : Array Value → State → Prop} {Qc : Array Value → State → Outcome → State → Prop} {XC : String → State → State → Prop} {mc ms : Nat} {free : Addr → Prop} {bytes : ByteArray} {maxL : Nat} {ret : Option FieldType}
    (hM : vx_Met l y ws rm Pc Qc XC mc ms free) (hblind : FrameBlind Pc) (hrc : rm.cells = mc) (hrs : rm.slots = ms)
    (hframes : rm.frames + 1 ≤ R.frames) (hlocals : W9 + (maxL + 11) + rm.locals ≤ R.locals)
    (hws : ∀ w ∈ ws, ∀ a' U, s.WarmedH U.vm → w.before a' U = true) (hcode : Cond.code y bytes maxL ret ∈ ws) (hinit : ∀ a' U, s.WarmedH U.vm → (Cond.initialized y.cls).before a' U = true) :
    vx_Back l R p e below s sargs y len W9 (PreOf R mc ms Pc) (PostOf Qc mc ms free) (vx_Post XC mc ms free) := by
  intro m meth c A g ig mk a X hg hsize hdg hW hn hp
  have h1 : (headSpec ws rm).pre.before a A.U = true := atoms_intro fun w hw => hws w hw _ _ X.warmed
  have h2 : (Cond.code y bytes maxL ret).before a A.U = true := hws _ hcode _ _ X.warmed
  have h3 : (Cond.initialized y.cls).before a A.U = true := hinit _ _ X.warmed
  have h4 : A.cells + (headSpec ws rm).room.cells ≤ R.cells := by rw [show (headSpec ws rm).room.cells = mc from hrc]; exact hp.1
  have h5 : A.slots + (headSpec ws rm).room.slots ≤ R.slots := by rw [show (headSpec ws rm).room.slots = ms from hrs]; exact hp.2.1
  have hPc : Pc a (A.U.calling g mk a) := hblind _ _ _ _ hp.2.2
  obtain ⟨U, Ls, c0, s0⟩ := A
  dsimp only [Pt.U, Pt.locs, Pt.cells, Pt.slots] at h1 h2 h3 h4 h5 X hn hPc ⊢
  obtain ⟨methY, cY, hmY, hcY, -, hlY, -, -, -, -⟩ := Cond.code_spec hn h2
  obtain ⟨kY, hkY, -⟩ := className_of_methodNamed hn
  have hinitY : kY.init = .initialized := Cond.initialized_spec (findClass_of_methodNamed hn) hkY h3
  have h : At U g.method c below := by rw [hg]; exact X.here
  have hlocals9 : W9 + (maxL + 11) + (headSpec ws rm).room.locals ≤ R.locals := hlocals
  have happ : (headSpec ws rm).appliesLoose y e.platform (U.calling g mk a) = true :=
    Spec.appliesLoose_calling (g := g) h hdg hn hkY hinitY
      (X.room_calling (g := g) (R' := (headSpec ws rm).room) hsize hmY hcY hframes (by rw [hlY]; omega) h4 h5) h1
  obtain ⟨mid, hmid⟩ := h.above
  have hfr : (U.setTop g).frames = (.java g :: mid) ++ below := by rw [State.frames_setTop' g h.top, hmid]; rfl
  obtain ⟨o, s₂, hsteps, -, hend, hq⟩ := Steps.callFree hM p X.admits X.cas X.clock (acts := []) hfr happ hPc trivial
  have hq' : vx_Q Qc XC mc ms free a (U.calling g mk a) o s₂ := hq
  rw [State.frames_setTop' g h.top] at hend
  obtain ⟨g₀, hg0⟩ := Option.isSome_iff_exists.mp h.top
  obtain ⟨r, hr⟩ := State.topJava?_eq_some.mp hg0
  have hr' : (({ U with heap := s₂.heap, slotsUsed := s₂.slotsUsed } : State).setVm s₂.vm).frames = .java g₀ :: r := hr
  rcases hq' with ⟨hqc, L, hfe, hL⟩ | ⟨q, rfl, E, ce, L, hx, hce, hcv, hcl, hW₂, hsm, hL⟩
  · obtain ⟨⟨v, rfl⟩, hW₂, e2, q2, q3, q4, q5, q6⟩ := id hfe
    have e3 : s₂ = ({ (U.calling g mk a).setFrames s₂.frames with heap := s₂.heap, slotsUsed := s₂.slotsUsed } : State).setVm s₂.vm := by
      have : s₂ = ({ s₂ with vm := (U.calling g mk a).vm } : State).setVm s₂.vm := rfl
      rw [e2] at this
      exact this
    obtain ⟨c₂, i₂, len₂, hc₂, hd₂, hf₂⟩ := hend
    have hW' : U.WarmedH s₂.vm := hW₂
    have hcc : c₂ = c := by
      have h1 : s₂.code? g.method = U.code? g.method := by
        rw [State.code?_eq, State.code?_eq, hW'.alike.method?]
      exact Option.some.inj (hc₂.symm.trans (h1.trans h.code))
    subst hcc
    have hlen : len₂ = len := by rw [hdg] at hd₂; cases hd₂; rfl
    subst hlen
    have hs₂ : s₂ = (({ U with heap := s₂.heap, slotsUsed := s₂.slotsUsed } : State).setVm s₂.vm).setTop { g with pc := g.pc + len₂, stack := v.toList ++ g.stack } := by
      refine e3.trans ?_
      rw [hf₂, State.calling_eq h.top, State.setFrames_setFrames, State.setTop_of_frames _ hr', hr]
      rfl
    have hsame : U.sameButNew ({ U with heap := s₂.heap, slotsUsed := s₂.slotsUsed } : State) L mc ms := by
      refine ⟨?_, q2, q3, q4, q5, q6⟩
      obtain ⟨t, ht, -⟩ := State.frames_cons hr
      show ({ U with heap := s₂.heap, slotsUsed := s₂.slotsUsed } : State) = { U.setFrames U.frames with heap := s₂.heap, slotsUsed := s₂.slotsUsed }
      rw [State.setFrames_self ht]
    subst hg
    refine Or.inl ⟨v, ⟨(({ U with heap := s₂.heap, slotsUsed := s₂.slotsUsed } : State).setVm s₂.vm), Ls ++ L, c0 + mc, s0 + ms⟩,
      ⟨X.admits, X.cas, X.clock, X.frames, X.room, X.hears, X.method, X.code, (X.here.setHeapUsed s₂.heap s₂.slotsUsed).setVm hW'.alike, X.tail, State.WarmedH.trans X.warmed hW', X.limits, X.bytes, X.same.trans (hsame.setVm s.vm)⟩,
      ⟨g, mk, s₂, L, rfl, rfl, hqc, rfl, hL, rfl, rfl⟩, ?_⟩
    show Steps p.tables e below _ ((({ U with heap := s₂.heap, slotsUsed := s₂.slotsUsed } : State).setVm s₂.vm).setTop { g with pc := g.pc + len₂, stack := v.toList ++ g.stack })
    rw [← hs₂]
    exact hsteps
  · obtain ⟨e2, q2, q3, q4, q5, q6⟩ := id hsm
    have e3 : s₂ = ({ (U.calling g mk a).setFrames s₂.frames with heap := s₂.heap, slotsUsed := s₂.slotsUsed } : State).setVm s₂.vm := by
      have : s₂ = ({ s₂ with vm := (U.calling g mk a).vm } : State).setVm s₂.vm := rfl
      rw [e2] at this
      exact this
    have hf₂ : s₂.frames = .throwing q :: .java g :: U.frames.tail := hend
    have hW' : U.WarmedH s₂.vm := hW₂
    have hs₂ : s₂ = ((({ U with heap := s₂.heap, slotsUsed := s₂.slotsUsed } : State).setVm s₂.vm).setTop g).pushFrame (.throwing q) := by
      refine e3.trans ?_
      rw [hf₂, State.calling_eq h.top, State.setFrames_setFrames, State.pushFrame, State.frames_setTop _ hr', State.setTop_of_frames _ hr', State.setFrames_setFrames, hr]
      rfl
    have hsame : U.sameButNew ({ U with heap := s₂.heap, slotsUsed := s₂.slotsUsed } : State) L mc ms := by
      refine ⟨?_, q2, q3, q4, q5, q6⟩
      obtain ⟨t, ht, -⟩ := State.frames_cons hr
      show ({ U with heap := s₂.heap, slotsUsed := s₂.slotsUsed } : State) = { U.setFrames U.frames with heap := s₂.heap, slotsUsed := s₂.slotsUsed }
      rw [State.setFrames_self ht]
    subst hg
    refine Or.inr ⟨q, ⟨(({ U with heap := s₂.heap, slotsUsed := s₂.slotsUsed } : State).setVm s₂.vm), Ls ++ L, c0 + mc, s0 + ms⟩,
      ⟨X.admits, X.cas, X.clock, X.frames, X.room, X.hears, X.method, X.code, (X.here.setHeapUsed s₂.heap s₂.slotsUsed).setVm hW'.alike, X.tail, State.WarmedH.trans X.warmed hW', X.limits, X.bytes, X.same.trans (hsame.setVm s.vm)⟩,
      ⟨g, mk, s₂, L, E, ce, rfl, rfl, hx, hce, hcv, hcl, rfl, hL, rfl, rfl⟩, ?_⟩
    show Steps p.tables e below _ (((({ U with heap := s₂.heap, slotsUsed := s₂.slotsUsed } : State).setVm s₂.vm).setTop g).pushFrame (.throwing q))
    rw [← hs₂]
    exact hsteps
end Payer
section Calls
variable {p : Program} {l : Launch} {e : Env} {R : Room} {s : State} {m : MethodId} {args : Array Value} {below : List Frame} {meth : Method} {c : Code} {T : State} {locs : List Loc} {cells slots : Nat}
theorem vx_callV (X : Stand p l e R s m args below meth c T locs cells slots) (hexec : p.tables.exec = Jvm.exec) {own C : String} {index : Nat} {y : MethodName} {bytes : ByteArray} {maxL : Nat} {ret : Option FieldType}
    (hown : s.vm.findClass own = some m.cls) (hlink : (Cond.methodLink own index y).before args s = true) (hinst : (Cond.instanceMethod y).before args s = true) (hsel : (Cond.selects C y y).before args s = true)
    (hcode : (Cond.code y bytes maxL ret).before args s = true) (hy : y.cls ≠ "java/lang/invoke/MethodHandle" ∧ y.cls ≠ "java/lang/invoke/VarHandle")
    {W9 : Nat} {Pre : Pt → Array Value → Prop} {Post : Pt → Array Value → Option Value → Pt → Prop} {PostX : Pt → Array Value → Addr → Pt → Prop} (hK : vx_Back l R p e below s args y 3 W9 Pre Post PostX)
    {b : Addr} {cellB : Cell} (hcell : T.heap[b]? = some cellB) (hobj : cellB.vm.isStatics = false) (hcls : s.vm.findClass C = some cellB.cls)
    {g : JFrame} (hg : g.method = m) (hsize : g.locals.size = c.maxLocals) {argsL rest : List Value} (hlen : ∀ sig, parseMethodDescriptor y.desc = some sig → argsL.length = sig.parameters.length)
    (hstack : g.stack = argsL.reverse ++ .ref b :: rest) (hW : 2 * g.monitorRoom + (rest.map fun v => v.category).sum ≤ W9) (hdg : decode c.code g.pc = .ok (.invokevirtual index, 3))
    (hpre : ∀ vm₁, s.WarmedH vm₁ → Pre ⟨T.setVm vm₁, locs, cells, slots⟩ (Value.ref b :: argsL).toArray) :
    (∃ (v : Option Value) (vm₁ : Vm) (B : Pt), s.WarmedH vm₁ ∧ Stand p l e R s m args below meth c B.U B.locs B.cells B.slots ∧ Post ⟨T.setVm vm₁, locs, cells, slots⟩ (Value.ref b :: argsL).toArray v B ∧
      ∀ target, Steps p.tables e below (B.U.setTop { g with pc := g.pc + 3, stack := v.toList ++ rest }) target → Steps p.tables e below (T.setTop g) target) ∨
    (∃ (q : Addr) (vm₁ : Vm) (B : Pt), s.WarmedH vm₁ ∧ Stand p l e R s m args below meth c B.U B.locs B.cells B.slots ∧ PostX ⟨T.setVm vm₁, locs, cells, slots⟩ (Value.ref b :: argsL).toArray q B ∧
      Steps p.tables e below (T.setTop g) ((B.U.setTop { g with stack := rest }).pushFrame (.throwing q))) := by
  obtain ⟨mk, methM, hnamed, hmethM, hstM, habM⟩ := Cond.instanceMethod_spec hinst
  obtain ⟨methM', cM, hmethM', -, -, -, -, -, -, hsigM⟩ := Cond.code_spec hnamed hcode
  cases hmethM.symm.trans hmethM'
  obtain ⟨c2, r2, m2, q1, q2, q3, q4, kP, hkP, hkPi⟩ := Cond.selects_spec hsel
  cases hcls.symm.trans q1
  cases (State.methodFound?_of_named hnamed hy).symm.trans q2
  cases hnamed.symm.trans q3
  have hselP : selectMethod e.platform s.vm cellB.cls mk = .method mk := by rw [Launch.admits_selectMethod X.admits]; exact q4
  obtain ⟨vm₁, X₁, hstep₁⟩ := X.invokevirtual hexec hown hlink hnamed hmethM hstM hkP hkPi hy (a := b) (cell := cellB) hcell
    (fun z h => by rw [h] at hobj; cases hobj) hselP hmethM habM hkP hkPi (g := g) hg (argsL := argsL) (rest := rest) (hlen _ hsigM) hstack hdg
  rcases hK m meth c ⟨T.setVm vm₁, locs, cells, slots⟩ { g with stack := rest } (.invokevirtual index) mk (Value.ref b :: argsL).toArray X₁ hg hsize hdg hW (X₁.named hnamed) (hpre vm₁ X₁.warmed) with ⟨v, B, X', hpost, hsteps⟩ | ⟨q, B, X', hpost, hsteps⟩
  · exact Or.inl ⟨v, vm₁, B, X₁.warmed, X', hpost, fun target h => hstep₁ _ fun acts => by rw [doInvoke_state]; exact hsteps.trans h⟩
  · exact Or.inr ⟨q, vm₁, B, X₁.warmed, X', hpost, hstep₁ _ fun acts => by rw [doInvoke_state]; exact hsteps⟩
theorem vx_callS (X : Stand p l e R s m args below meth c T locs cells slots) (hexec : p.tables.exec = Jvm.exec) {own : String} {index : Nat} {y : MethodName} {bytes : ByteArray} {maxL : Nat} {ret : Option FieldType}
    (hown : s.vm.findClass own = some m.cls) (hlink : (Cond.methodLink own index y).before args s = true) (hstat : (Cond.static y).before args s = true) (hinit : (Cond.initialized y.cls).before args s = true)
    (hcode : (Cond.code y bytes maxL ret).before args s = true) (hy : y.cls ≠ "java/lang/invoke/MethodHandle" ∧ y.cls ≠ "java/lang/invoke/VarHandle")
    {W9 : Nat} {Pre : Pt → Array Value → Prop} {Post : Pt → Array Value → Option Value → Pt → Prop} {PostX : Pt → Array Value → Addr → Pt → Prop} (hK : vx_Back l R p e below s args y 3 W9 Pre Post PostX)
    {g : JFrame} (hg : g.method = m) (hsize : g.locals.size = c.maxLocals) {argsL rest : List Value} (hlen : ∀ sig, parseMethodDescriptor y.desc = some sig → argsL.length = sig.parameters.length)
    (hstack : g.stack = argsL.reverse ++ rest) (hW : 2 * g.monitorRoom + (rest.map fun v => v.category).sum ≤ W9) (hdg : decode c.code g.pc = .ok (.invokestatic index, 3))
    (hpre : ∀ vm₁, s.WarmedH vm₁ → Pre ⟨T.setVm vm₁, locs, cells, slots⟩ argsL.toArray) :
    (∃ (v : Option Value) (vm₁ : Vm) (B : Pt), s.WarmedH vm₁ ∧ Stand p l e R s m args below meth c B.U B.locs B.cells B.slots ∧ Post ⟨T.setVm vm₁, locs, cells, slots⟩ argsL.toArray v B ∧
      ∀ target, Steps p.tables e below (B.U.setTop { g with pc := g.pc + 3, stack := v.toList ++ rest }) target → Steps p.tables e below (T.setTop g) target) ∨
    (∃ (q : Addr) (vm₁ : Vm) (B : Pt), s.WarmedH vm₁ ∧ Stand p l e R s m args below meth c B.U B.locs B.cells B.slots ∧ PostX ⟨T.setVm vm₁, locs, cells, slots⟩ argsL.toArray q B ∧
      Steps p.tables e below (T.setTop g) ((B.U.setTop { g with stack := rest }).pushFrame (.throwing q))) := by
  obtain ⟨mk, hnamed⟩ := Cond.code_named hcode
  obtain ⟨methM, cM, hmethM, -, -, -, -, -, -, hsigM⟩ := Cond.code_spec hnamed hcode
  have hstatic : methM.isStatic = true := Cond.static_spec hnamed hmethM hstat
  obtain ⟨kP, hkP, -⟩ := className_of_methodNamed hnamed
  have hinitP : kP.init = .initialized := Cond.initialized_spec (findClass_of_methodNamed hnamed) hkP hinit
  obtain ⟨vm₁, X₁, hstep₁⟩ := X.invokestatic hexec hown hlink hnamed hmethM hstatic hkP hinitP hy (g := g) hg (argsL := argsL) (rest := rest) (hlen _ hsigM) hstack hdg
  rcases hK m meth c ⟨T.setVm vm₁, locs, cells, slots⟩ { g with stack := rest } (.invokestatic index) mk argsL.toArray X₁ hg hsize hdg hW (X₁.named hnamed) (hpre vm₁ X₁.warmed) with ⟨v, B, X', hpost, hsteps⟩ | ⟨q, B, X', hpost, hsteps⟩
  · exact Or.inl ⟨v, vm₁, B, X₁.warmed, X', hpost, fun target h => hstep₁ _ fun acts => by rw [doInvoke_state]; exact hsteps.trans h⟩
  · exact Or.inr ⟨q, vm₁, B, X₁.warmed, X', hpost, hstep₁ _ fun acts => by rw [doInvoke_state]; exact hsteps⟩
end Calls
theorem vx_cls {s : State} {T : State} {vm₁ : Vm} {E : String} {k : ClassId} (hW : s.WarmedH vm₁) (h : (T.setVm vm₁).vm.findClass E = some k) : s.vm.findClass E = some k := by
  have h1 : vm₁.findClass E = some k := h
  rw [hW.alike.findClass] at h1
  exact h1
/-- the method's frame g, with q thrown over it -/
def vx_W (p : Program) (l : Launch) (e : Env) (R : Room) (s : State) (m : MethodId) (args : Array Value) (below : List Frame) (meth : Method) (c : Code) (H : Heap) (locs : List Loc) (cells slots : Nat) (Q : State → Prop) (g : JFrame) (q : Addr) : Prop :=
  ∀ T : State, T.heap = H → Stand p l e R s m args below meth c T locs cells slots → ∃ t, Steps p.tables e below ((T.setTop g).pushFrame (.throwing q)) t ∧ Q t
def vx_Run (p : Program) (l : Launch) (e : Env) (R : Room) (s : State) (m : MethodId) (args : Array Value) (below : List Frame) (meth : Method) (c : Code) (H : Heap) (locs : List Loc) (cells slots mc ms : Nat) (g : JFrame) (rest : List Value) (Qa : State → Outcome → State → Prop) (XC : String → State → State → Prop) (free : Addr → Prop) : Prop :=
  ∀ T : State, T.heap = H → Stand p l e R s m args below meth c T locs cells slots →
    (∃ (v : Option Value) (st₀ t T' : State) (L : List Loc), st₀.heap = H ∧ Stand p l e R s m args below meth c T' (locs ++ L) (cells + mc) (slots + ms) ∧ (∀ q ∈ L, free q.base) ∧ T'.heap = t.heap ∧ T'.vm = t.vm ∧ Qa st₀ (.returned v) t ∧
      Goes p e below T g T' { g with pc := g.pc + 3, stack := v.toList ++ rest }) ∨
    (∃ (q : Addr) (st₀ t T' : State) (L : List Loc) (E : String) (ce : Cell), st₀.heap = H ∧ Stand p l e R s m args below meth c T' (locs ++ L) (cells + mc) (slots + ms) ∧ (∀ z ∈ L, free z.base) ∧ T'.heap = t.heap ∧ T'.vm = t.vm ∧ XC E st₀ t ∧ t.heap[q]? = some ce ∧ ce.vm = .none ∧ s.vm.findClass E = some ce.cls ∧
      Steps p.tables e below (T.setTop g) ((T'.setTop { g with stack := rest }).pushFrame (.throwing q)))
def vx_X {S : Type} (px : S → Prop) (B : String → S → State → Prop) (A : Nat → Prop) : String → State → State → Prop := fun E st t => ∃ u : S, px u ∧ B E u t ∧ va_F A st t
section Runs
variable {p : Program} {l : Launch} {e : Env} {R : Room} {s : State} {m : MethodId} {args : Array Value} {below : List Frame} {meth : Method} {c : Code} {H : Heap} {locs : List Loc} {cells slots : Nat}
variable {y : MethodName} {bytes cc : ByteArray} {maxL nL mc ms n index : Nat} {ret : Option FieldType} {ws : List Cond} {rm : Room} {Pc : Array Value → State → Prop} {Qc : Array Value → State → Outcome → State → Prop} {XC : String → State → State → Prop} {free : Addr → Prop} {Ts : List Cond} {own C : String} {b : Addr} {As rest : List Value} {g : JFrame}
theorem vx_callBack (cb : CallB R s args own index y bytes maxL ret ws rm mc ms n) (hM : vx_Met l y ws rm Pc Qc XC mc ms free) (hbl : FrameBlind Pc) : vx_Back l R p e below s args y 3 8 (PreOf R mc ms Pc) (PostOf Qc mc ms free) (vx_Post XC mc ms free) := by
  obtain ⟨hrc, hrs, hfr, hlo, hws, hcw, -, hini, -⟩ := cb
  exact vx_back (bytes := bytes) (maxL := maxL) (ret := ret) hM hbl hrc hrs hfr hlo hws hcw (fun a' U hW => word_at hW (Or.inl (by first | rfl | simp [Cond.onTables, Cond.keeps, Cond.steady])) hini)
theorem vx_runV (S : CallFix p m c cc nL s args Ts own) (hM : vx_Met l y ws rm Pc Qc XC mc ms free) (cw : CallW R s args own C index y bytes maxL ret ws rm mc ms n) (hp : PreV s H C b Pc As)
    (hg : g.method = m) (hn : As.length = n) (hsize : g.locals.size = nL) (hstack : g.stack = As.reverse ++ .ref b :: rest) (hW : 2 * g.monitorRoom + (rest.map fun v => v.category).sum ≤ 8) (hdg : decode cc g.pc = .ok (.invokevirtual index, 3)) (hf : cells + mc ≤ R.cells ∧ slots + ms ≤ R.slots) :
    vx_Run p l e R s m args below meth c H locs cells slots mc ms g rest (Qc (Value.ref b :: As).toArray) XC free := by
  have hK : vx_Back l R p e below s args y 3 8 (PreOf R mc ms Pc) (PostOf Qc mc ms free) (vx_Post XC mc ms free) := vx_callBack cw.1 hM hp.1
  obtain ⟨⟨-, -, -, -, -, -, hcode, -, hy, hlen, hl⟩, hin, hse⟩ := cw
  obtain ⟨hx, hb, hml, ho, -⟩ := S
  obtain ⟨-, ⟨cellB, hcB, hoB, hclB⟩, hPc⟩ := hp
  intro T hT X
  rcases vx_callV X hx (C := C) (bytes := bytes) (maxL := maxL) (ret := ret) ho hl hin hse hcode hy hK (by rw [hT]; exact hcB) hoB hclB hg (hsize.trans hml.symm) (argsL := As) (rest := rest) (fun sig h => hn.trans (hlen sig h)) hstack hW (by rw [hb]; exact hdg)
    (fun vm₁ hW₁ => ⟨hf.1, hf.2, hPc (T.setVm vm₁) hT hW₁⟩) with ⟨v, vm₁, ⟨U', l2, c2, s2⟩, hW₁, X', ⟨g', mk, t, L, e1, e2, hq, h1, hL, h2, h3⟩, st⟩ | ⟨q, vm₁, ⟨U', l2, c2, s2⟩, hW₁, X', ⟨g', mk, t, L, E, ce, e1, e2, hq, hce, hcv, hcl, h1, hL, h2, h3⟩, st⟩
  · dsimp only [Pt.U, Pt.locs, Pt.cells, Pt.slots] at X' e1 e2 h1 h2 h3 st
    subst h1; subst h2; subst h3
    exact Or.inl ⟨v, (T.setVm vm₁).calling g' mk (Value.ref b :: As).toArray, t, U', L, hT, X', hL, e1, e2, hq, st⟩
  · dsimp only [Pt.U, Pt.locs, Pt.cells, Pt.slots] at X' e1 e2 h1 h2 h3 st hcl
    subst h1; subst h2; subst h3
    exact Or.inr ⟨q, (T.setVm vm₁).calling g' mk (Value.ref b :: As).toArray, t, U', L, E, ce, hT, X', hL, e1, e2, hq, hce, hcv, vx_cls hW₁ hcl, st⟩
theorem vx_runS (S : CallFix p m c cc nL s args Ts own) (hM : vx_Met l y ws rm Pc Qc XC mc ms free) (cw : CallB R s args own index y bytes maxL ret ws rm mc ms n ∧ (Cond.static y).before args s = true) (hp : PreS s H Pc As)
    (hg : g.method = m) (hn : As.length = n) (hsize : g.locals.size = nL) (hstack : g.stack = As.reverse ++ rest) (hW : 2 * g.monitorRoom + (rest.map fun v => v.category).sum ≤ 8) (hdg : decode cc g.pc = .ok (.invokestatic index, 3)) (hf : cells + mc ≤ R.cells ∧ slots + ms ≤ R.slots) :
    vx_Run p l e R s m args below meth c H locs cells slots mc ms g rest (Qc As.toArray) XC free := by
  have hK : vx_Back l R p e below s args y 3 8 (PreOf R mc ms Pc) (PostOf Qc mc ms free) (vx_Post XC mc ms free) := vx_callBack cw.1 hM hp.1
  obtain ⟨⟨-, -, -, -, -, -, hcode, hini, hy, hlen, hl⟩, hstt⟩ := cw
  obtain ⟨hx, hb, hml, ho, -⟩ := S
  intro T hT X
  rcases vx_callS X hx (bytes := bytes) (maxL := maxL) (ret := ret) ho hl hstt hini hcode hy hK hg (hsize.trans hml.symm) (argsL := As) (rest := rest) (fun sig h => hn.trans (hlen sig h)) hstack hW (by rw [hb]; exact hdg)
    (fun vm₁ hW₁ => ⟨hf.1, hf.2, hp.2 (T.setVm vm₁) hT hW₁⟩) with ⟨v, vm₁, ⟨U', l2, c2, s2⟩, hW₁, X', ⟨g', mk, t, L, e1, e2, hq, h1, hL, h2, h3⟩, st⟩ | ⟨q, vm₁, ⟨U', l2, c2, s2⟩, hW₁, X', ⟨g', mk, t, L, E, ce, e1, e2, hq, hce, hcv, hcl, h1, hL, h2, h3⟩, st⟩
  · dsimp only [Pt.U, Pt.locs, Pt.cells, Pt.slots] at X' e1 e2 h1 h2 h3 st
    subst h1; subst h2; subst h3
    exact Or.inl ⟨v, (T.setVm vm₁).calling g' mk As.toArray, t, U', L, hT, X', hL, e1, e2, hq, st⟩
  · dsimp only [Pt.U, Pt.locs, Pt.cells, Pt.slots] at X' e1 e2 h1 h2 h3 st hcl
    subst h1; subst h2; subst h3
    exact Or.inr ⟨q, (T.setVm vm₁).calling g' mk As.toArray, t, U', L, E, ce, hT, X', hL, e1, e2, hq, hce, hcv, vx_cls hW₁ hcl, st⟩
end Runs
section Rows
variable {p : Program} {l : Launch} {e : Env} {R : Room} {s : State} {m : MethodId} {args : Array Value} {below : List Frame} {meth : Method} {c : Code} {H : Heap} {locs : List Loc} {cells slots : Nat} {Q : State → Prop}
variable {mc ms : Nat} {free : Addr → Prop} {A0 A1 : Nat → Prop} {H0 : Heap} {a : Array Value} {pc : Nat} {ls : Array Slot} {st0 rest : List Value}
theorem vx_keep {st₀ t T' : State} {L : List Loc} (h0 : st₀.heap = H) (e1 : T'.heap = t.heap) (hS : va_S A0 H0 H locs) (hA : ∀ q, q < H.size → A1 q → A0 q) (hf : ∀ q, free q → A0 q) (hL : ∀ q ∈ L, free q.base) (hF : va_F A1 st₀ t) :
    H.size ≤ T'.heap.size ∧ (∀ q : Nat, q < H.size → ¬ A1 q → T'.heap[q]? = H[q]?) ∧ va_S A0 H0 T'.heap (locs ++ L) := by
  obtain ⟨hz, hk⟩ := hF
  rw [h0] at hz hk
  exact ⟨by rw [e1]; exact hz, fun q h1 h2 => by rw [e1]; exact hk q h1 h2,
    ⟨Nat.le_trans hS.1 (by rw [e1]; exact hz), fun q h1 h2 => by rw [e1, hk q (Nat.lt_of_lt_of_le h1 hS.1) (fun z => h2 (hA q (Nat.lt_of_lt_of_le h1 hS.1) z))]; exact hS.2.1 q h1 h2, fun q hq => by
      rcases List.mem_append.mp hq with h | h
      · exact hS.2.2 q h
      · exact hf _ (hL q h)⟩⟩
theorem vx_calli {S SX : Type} {post : Int32 → S → Prop} {px : SX → Prop} {B : S → State → Prop} {BX : String → SX → State → Prop} {AX : Nat → Prop} (hr : vx_Run p l e R s m args below meth c H locs cells slots mc ms (F0 m pc ls st0) rest (va_Qi post B A1 a) (vx_X px BX AX) free) (hS : va_S A0 H0 H locs) (hA : ∀ q, q < H.size → A1 q → A0 q) (hf : ∀ q, free q → A0 q) (hAX : ∀ q, q < H.size → AX q → A0 q)
    (kx : ∀ (E : String) (ce : Cell) (q9 : Addr) (u : SX) (t : State) (H1 : Heap) (locs1 : List Loc), t.heap = H1 → s.vm.Alike t.vm → px u → BX E u t → H.size ≤ H1.size → (∀ q : Nat, q < H.size → ¬ AX q → H1[q]? = H[q]?) → va_S A0 H0 H1 locs1 → H1[q9]? = some ce → ce.vm = .none → s.vm.findClass E = some ce.cls → vx_W p l e R s m args below meth c H1 locs1 (cells + mc) (slots + ms) Q (F0 m pc ls rest) q9)
    (kk : ∀ (r : Int32) (u : S) (t : State) (H1 : Heap) (locs1 : List Loc), t.heap = H1 → s.vm.Alike t.vm → post r u → B u t → H.size ≤ H1.size → (∀ q : Nat, q < H.size → ¬ A1 q → H1[q]? = H[q]?) → va_S A0 H0 H1 locs1 → W p l e R s m args below meth c H1 locs1 (cells + mc) (slots + ms) Q (F0 m (pc + 3) ls (.int r :: rest))) : W p l e R s m args below meth c H locs cells slots Q (F0 m pc ls st0) := by
  intro T hT X
  rcases hr T hT X with ⟨v, st₀, t, T', L, h0, X', hL, e1, e2, ⟨⟨r, u, hv, hp, hb⟩, hF⟩, st⟩ | ⟨q, st₀, t, T', L, E, ce, h0, X', hL, e1, e2, ⟨u, hp, hb, hF⟩, hce, hcv, hcl, st⟩
  · cases hv
    obtain ⟨k1, k2, k3⟩ := vx_keep h0 e1 hS hA hf hL hF
    obtain ⟨t2, a1, b1⟩ := kk r u t T'.heap (locs ++ L) e1.symm (by rw [← e2]; exact X'.warmed.alike) hp hb k1 k2 k3 T' rfl X'
    exact ⟨t2, st t2 a1, b1⟩
  · obtain ⟨k1, k2, k3⟩ := vx_keep h0 e1 hS hAX hf hL hF
    obtain ⟨t2, a1, b1⟩ := kx E ce q u t T'.heap (locs ++ L) e1.symm (by rw [← e2]; exact X'.warmed.alike) hp hb k1 k2 k3 (by rw [e1]; exact hce) hcv hcl T' rfl X'
    exact ⟨t2, st.trans a1, b1⟩
theorem vx_calll {S SX : Type} {post : Int64 → S → Prop} {px : SX → Prop} {B : S → State → Prop} {BX : String → SX → State → Prop} {AX : Nat → Prop} (hr : vx_Run p l e R s m args below meth c H locs cells slots mc ms (F0 m pc ls st0) rest (va_Ql post B A1 a) (vx_X px BX AX) free) (hS : va_S A0 H0 H locs) (hA : ∀ q, q < H.size → A1 q → A0 q) (hf : ∀ q, free q → A0 q) (hAX : ∀ q, q < H.size → AX q → A0 q)
    (kx : ∀ (E : String) (ce : Cell) (q9 : Addr) (u : SX) (t : State) (H1 : Heap) (locs1 : List Loc), t.heap = H1 → s.vm.Alike t.vm → px u → BX E u t → H.size ≤ H1.size → (∀ q : Nat, q < H.size → ¬ AX q → H1[q]? = H[q]?) → va_S A0 H0 H1 locs1 → H1[q9]? = some ce → ce.vm = .none → s.vm.findClass E = some ce.cls → vx_W p l e R s m args below meth c H1 locs1 (cells + mc) (slots + ms) Q (F0 m pc ls rest) q9)
    (kk : ∀ (r : Int64) (u : S) (t : State) (H1 : Heap) (locs1 : List Loc), t.heap = H1 → s.vm.Alike t.vm → post r u → B u t → H.size ≤ H1.size → (∀ q : Nat, q < H.size → ¬ A1 q → H1[q]? = H[q]?) → va_S A0 H0 H1 locs1 → W p l e R s m args below meth c H1 locs1 (cells + mc) (slots + ms) Q (F0 m (pc + 3) ls (.long r :: rest))) : W p l e R s m args below meth c H locs cells slots Q (F0 m pc ls st0) := by
  intro T hT X
  rcases hr T hT X with ⟨v, st₀, t, T', L, h0, X', hL, e1, e2, ⟨⟨r, u, hv, hp, hb⟩, hF⟩, st⟩ | ⟨q, st₀, t, T', L, E, ce, h0, X', hL, e1, e2, ⟨u, hp, hb, hF⟩, hce, hcv, hcl, st⟩
  · cases hv
    obtain ⟨k1, k2, k3⟩ := vx_keep h0 e1 hS hA hf hL hF
    obtain ⟨t2, a1, b1⟩ := kk r u t T'.heap (locs ++ L) e1.symm (by rw [← e2]; exact X'.warmed.alike) hp hb k1 k2 k3 T' rfl X'
    exact ⟨t2, st t2 a1, b1⟩
  · obtain ⟨k1, k2, k3⟩ := vx_keep h0 e1 hS hAX hf hL hF
    obtain ⟨t2, a1, b1⟩ := kx E ce q u t T'.heap (locs ++ L) e1.symm (by rw [← e2]; exact X'.warmed.alike) hp hb k1 k2 k3 (by rw [e1]; exact hce) hcv hcl T' rfl X'
    exact ⟨t2, st.trans a1, b1⟩
theorem vx_callf {S SX : Type} {post : UInt32 → S → Prop} {px : SX → Prop} {B : S → State → Prop} {BX : String → SX → State → Prop} {AX : Nat → Prop} (hr : vx_Run p l e R s m args below meth c H locs cells slots mc ms (F0 m pc ls st0) rest (va_Qf post B A1 a) (vx_X px BX AX) free) (hS : va_S A0 H0 H locs) (hA : ∀ q, q < H.size → A1 q → A0 q) (hf : ∀ q, free q → A0 q) (hAX : ∀ q, q < H.size → AX q → A0 q)
    (kx : ∀ (E : String) (ce : Cell) (q9 : Addr) (u : SX) (t : State) (H1 : Heap) (locs1 : List Loc), t.heap = H1 → s.vm.Alike t.vm → px u → BX E u t → H.size ≤ H1.size → (∀ q : Nat, q < H.size → ¬ AX q → H1[q]? = H[q]?) → va_S A0 H0 H1 locs1 → H1[q9]? = some ce → ce.vm = .none → s.vm.findClass E = some ce.cls → vx_W p l e R s m args below meth c H1 locs1 (cells + mc) (slots + ms) Q (F0 m pc ls rest) q9)
    (kk : ∀ (r : UInt32) (u : S) (t : State) (H1 : Heap) (locs1 : List Loc), t.heap = H1 → s.vm.Alike t.vm → post r u → B u t → H.size ≤ H1.size → (∀ q : Nat, q < H.size → ¬ A1 q → H1[q]? = H[q]?) → va_S A0 H0 H1 locs1 → W p l e R s m args below meth c H1 locs1 (cells + mc) (slots + ms) Q (F0 m (pc + 3) ls (.float r :: rest))) : W p l e R s m args below meth c H locs cells slots Q (F0 m pc ls st0) := by
  intro T hT X
  rcases hr T hT X with ⟨v, st₀, t, T', L, h0, X', hL, e1, e2, ⟨⟨r, u, hv, hp, hb⟩, hF⟩, st⟩ | ⟨q, st₀, t, T', L, E, ce, h0, X', hL, e1, e2, ⟨u, hp, hb, hF⟩, hce, hcv, hcl, st⟩
  · cases hv
    obtain ⟨k1, k2, k3⟩ := vx_keep h0 e1 hS hA hf hL hF
    obtain ⟨t2, a1, b1⟩ := kk r u t T'.heap (locs ++ L) e1.symm (by rw [← e2]; exact X'.warmed.alike) hp hb k1 k2 k3 T' rfl X'
    exact ⟨t2, st t2 a1, b1⟩
  · obtain ⟨k1, k2, k3⟩ := vx_keep h0 e1 hS hAX hf hL hF
    obtain ⟨t2, a1, b1⟩ := kx E ce q u t T'.heap (locs ++ L) e1.symm (by rw [← e2]; exact X'.warmed.alike) hp hb k1 k2 k3 (by rw [e1]; exact hce) hcv hcl T' rfl X'
    exact ⟨t2, st.trans a1, b1⟩
theorem vx_calld {S SX : Type} {post : UInt64 → S → Prop} {px : SX → Prop} {B : S → State → Prop} {BX : String → SX → State → Prop} {AX : Nat → Prop} (hr : vx_Run p l e R s m args below meth c H locs cells slots mc ms (F0 m pc ls st0) rest (va_Qd post B A1 a) (vx_X px BX AX) free) (hS : va_S A0 H0 H locs) (hA : ∀ q, q < H.size → A1 q → A0 q) (hf : ∀ q, free q → A0 q) (hAX : ∀ q, q < H.size → AX q → A0 q)
    (kx : ∀ (E : String) (ce : Cell) (q9 : Addr) (u : SX) (t : State) (H1 : Heap) (locs1 : List Loc), t.heap = H1 → s.vm.Alike t.vm → px u → BX E u t → H.size ≤ H1.size → (∀ q : Nat, q < H.size → ¬ AX q → H1[q]? = H[q]?) → va_S A0 H0 H1 locs1 → H1[q9]? = some ce → ce.vm = .none → s.vm.findClass E = some ce.cls → vx_W p l e R s m args below meth c H1 locs1 (cells + mc) (slots + ms) Q (F0 m pc ls rest) q9)
    (kk : ∀ (r : UInt64) (u : S) (t : State) (H1 : Heap) (locs1 : List Loc), t.heap = H1 → s.vm.Alike t.vm → post r u → B u t → H.size ≤ H1.size → (∀ q : Nat, q < H.size → ¬ A1 q → H1[q]? = H[q]?) → va_S A0 H0 H1 locs1 → W p l e R s m args below meth c H1 locs1 (cells + mc) (slots + ms) Q (F0 m (pc + 3) ls (.double r :: rest))) : W p l e R s m args below meth c H locs cells slots Q (F0 m pc ls st0) := by
  intro T hT X
  rcases hr T hT X with ⟨v, st₀, t, T', L, h0, X', hL, e1, e2, ⟨⟨r, u, hv, hp, hb⟩, hF⟩, st⟩ | ⟨q, st₀, t, T', L, E, ce, h0, X', hL, e1, e2, ⟨u, hp, hb, hF⟩, hce, hcv, hcl, st⟩
  · cases hv
    obtain ⟨k1, k2, k3⟩ := vx_keep h0 e1 hS hA hf hL hF
    obtain ⟨t2, a1, b1⟩ := kk r u t T'.heap (locs ++ L) e1.symm (by rw [← e2]; exact X'.warmed.alike) hp hb k1 k2 k3 T' rfl X'
    exact ⟨t2, st t2 a1, b1⟩
  · obtain ⟨k1, k2, k3⟩ := vx_keep h0 e1 hS hAX hf hL hF
    obtain ⟨t2, a1, b1⟩ := kx E ce q u t T'.heap (locs ++ L) e1.symm (by rw [← e2]; exact X'.warmed.alike) hp hb k1 k2 k3 (by rw [e1]; exact hce) hcv hcl T' rfl X'
    exact ⟨t2, st.trans a1, b1⟩
theorem vx_callv {S SX : Type} {post : S → Prop} {px : SX → Prop} {B : S → State → Prop} {BX : String → SX → State → Prop} {AX : Nat → Prop} (hr : vx_Run p l e R s m args below meth c H locs cells slots mc ms (F0 m pc ls st0) rest (va_Qv post B A1 a) (vx_X px BX AX) free) (hS : va_S A0 H0 H locs) (hA : ∀ q, q < H.size → A1 q → A0 q) (hf : ∀ q, free q → A0 q) (hAX : ∀ q, q < H.size → AX q → A0 q)
    (kx : ∀ (E : String) (ce : Cell) (q9 : Addr) (u : SX) (t : State) (H1 : Heap) (locs1 : List Loc), t.heap = H1 → s.vm.Alike t.vm → px u → BX E u t → H.size ≤ H1.size → (∀ q : Nat, q < H.size → ¬ AX q → H1[q]? = H[q]?) → va_S A0 H0 H1 locs1 → H1[q9]? = some ce → ce.vm = .none → s.vm.findClass E = some ce.cls → vx_W p l e R s m args below meth c H1 locs1 (cells + mc) (slots + ms) Q (F0 m pc ls rest) q9)
    (kk : ∀ (u : S) (t : State) (H1 : Heap) (locs1 : List Loc), t.heap = H1 → s.vm.Alike t.vm → post u → B u t → H.size ≤ H1.size → (∀ q : Nat, q < H.size → ¬ A1 q → H1[q]? = H[q]?) → va_S A0 H0 H1 locs1 → W p l e R s m args below meth c H1 locs1 (cells + mc) (slots + ms) Q (F0 m (pc + 3) ls (rest))) : W p l e R s m args below meth c H locs cells slots Q (F0 m pc ls st0) := by
  intro T hT X
  rcases hr T hT X with ⟨v, st₀, t, T', L, h0, X', hL, e1, e2, ⟨⟨u, hv, hp, hb⟩, hF⟩, st⟩ | ⟨q, st₀, t, T', L, E, ce, h0, X', hL, e1, e2, ⟨u, hp, hb, hF⟩, hce, hcv, hcl, st⟩
  · cases hv
    obtain ⟨k1, k2, k3⟩ := vx_keep h0 e1 hS hA hf hL hF
    obtain ⟨t2, a1, b1⟩ := kk u t T'.heap (locs ++ L) e1.symm (by rw [← e2]; exact X'.warmed.alike) hp hb k1 k2 k3 T' rfl X'
    exact ⟨t2, st t2 a1, b1⟩
  · obtain ⟨k1, k2, k3⟩ := vx_keep h0 e1 hS hAX hf hL hF
    obtain ⟨t2, a1, b1⟩ := kx E ce q u t T'.heap (locs ++ L) e1.symm (by rw [← e2]; exact X'.warmed.alike) hp hb k1 k2 k3 (by rw [e1]; exact hce) hcv hcl T' rfl X'
    exact ⟨t2, st.trans a1, b1⟩
/-- caught by the row x of this method's table; the rows ahead don't take it -/
theorem vx_catch {own name : String} {E : String} {ce : Cell} {q : Addr} (hown : s.vm.findClass own = some m.cls) (pre : List ExceptionTableEntry) (x : ExceptionTableEntry) (suf : List ExceptionTableEntry) (hsplit : c.exceptionTable.toList = pre ++ x :: suf)
    (hpass : ∀ z ∈ pre, covers z pc = false ∨ (z.catchType ≠ 0 ∧ ∃ nm : String, (Cond.classLink own z.catchType nm).before args s = true ∧ va_Nc E nm s)) (hx : covers x pc = true) (h0 : x.catchType ≠ 0)
    (hlink : (Cond.classLink own x.catchType name).before args s = true) (hcast : (Cond.castable E name).before args s = true) (hcell : H[q]? = some ce) (hv : ce.vm = .none) (hcl : s.vm.findClass E = some ce.cls)
    (kk : W p l e R s m args below meth c H locs cells slots Q (F0 m x.handlerPc ls [.ref q])) : vx_W p l e R s m args below meth c H locs cells slots Q (F0 m pc ls rest) q := by
  intro T hT X
  have hpl : e.platform.magicAccessors = ({} : Platform).magicAccessors := by rw [X.admits.platform]
  obtain ⟨c3, c4, hc3, hc4, hasg⟩ := Cond.castable_spec hcast
  cases Option.some.inj (hc3.symm.trans hcl)
  obtain ⟨c5, hc5, hcl5⟩ := Cond.classLink_spec hown hlink e.platform hpl
  cases Option.some.inj (hc4.symm.trans hc5)
  obtain ⟨vm', X', st⟩ := X.thenCaughtThrough q (g := F0 m pc ls rest) rfl (Steps.refl _) (by rw [hT]; exact hcell) (by rw [hv]; rfl) (by obtain ⟨k9, h9, -⟩ := Vm.findClass_spec hcl; exact ⟨k9, h9⟩) pre x suf hsplit
    (fun z hz => by
      rcases hpass z hz with h | ⟨hz0, nm, hl1, hn1⟩
      · exact Or.inl h
      · obtain ⟨c6, hc6, hcl6⟩ := Cond.classLink_spec hown hl1 e.platform hpl
        obtain ⟨a8, b8, h1, h2, h3⟩ := hn1
        cases Option.some.inj (h1.symm.trans hcl)
        cases Option.some.inj (h2.symm.trans hc6)
        exact Or.inr ⟨hz0, _, hcl6, h3⟩) hx (Or.inr ⟨h0, c4, hcl5, hasg⟩)
  obtain ⟨t, a1, b1⟩ := kk (T.setVm vm') hT X'
  exact ⟨t, st.trans a1, b1⟩
end Rows
section Ends
variable {p : Program} {l : Launch} {e : Env} {R : Room} {s : State} {m : MethodId} {args : Array Value} {below : List Frame} {meth : Method} {c : Code} {H : Heap} {locs : List Loc} {cells slots : Nat} {Q : State → Prop}
variable {mc ms : Nat} {free : Addr → Prop} {A0 A1 : Nat → Prop} {H0 : Heap} {a : Array Value} {ls : Array Slot} {st0 rest : List Value}
variable {Qc : Array Value → State → Outcome → State → Prop} {XC : String → State → State → Prop}
/-- what a body that may throw owes at its end -/
def vx_MQ (below : List Frame) (Qc : Array Value → State → Outcome → State → Prop) (XC : String → State → State → Prop) (a : Array Value) (s : State) (mc ms : Nat) (free : Addr → Prop) : State → Prop := fun t =>
  ∃ o, t.status = .running ∧ Ended t below o ∧ vx_Q Qc XC mc ms free a s o t
theorem vx_ret {g : JFrame} {mc ms : Nat} (k : W p l e R s m args below meth c H locs cells slots (MQ below Qc args s mc ms free) g) : W p l e R s m args below meth c H locs cells slots (vx_MQ below Qc XC args s mc ms free) g := by
  intro T hT X
  obtain ⟨t, a1, o, b1, b2, b3, b4⟩ := k T hT X
  exact ⟨t, a1, o, b1, b2, Or.inl ⟨b3, b4⟩⟩
/-- not caught here: it goes on to the caller -/
theorem vx_widen {g : JFrame} {q : Addr} {k n : Nat} (h1 : cells ≤ k) (h2 : slots ≤ n) (kk : vx_W p l e R s m args below meth c H locs k n Q g q) : vx_W p l e R s m args below meth c H locs cells slots Q g q := fun T hT X => kk T hT (stand_widen X h1 h2)
theorem vx_out {pc : Nat} {E : String} {ce : Cell} {q : Addr} {mc ms : Nat} (hout : ∀ x ∈ c.exceptionTable.toList, covers x pc = false) (hlocks : meth.locks = false) (hcell : H[q]? = some ce) (hv : ce.vm = .none) (hcl : s.vm.findClass E = some ce.cls)
    (hx : ∀ t : State, t.heap = H → s.vm.Alike t.vm → XC E s t) (hf : ∀ z ∈ locs, free z.base) (hc : cells ≤ mc) (hs : slots ≤ ms) :
    vx_W p l e R s m args below meth c H locs cells slots (vx_MQ below Qc XC args s mc ms free) (F0 m pc ls rest) q := by
  intro T hT X
  obtain ⟨st1, hrun, hend, hW, hsm⟩ := X.leaveThrown q (g := F0 m pc ls rest) rfl rfl rfl hout hlocks
  have hcell9 : (T.setFrames (.throwing q :: below)).heap[q]? = some ce := by
    show T.heap[q]? = some ce
    rw [hT]; exact hcell
  exact ⟨_, st1, .threw q, hrun, hend, Or.inr ⟨q, rfl, E, ce, locs, hx _ hT hW.alike, hcell9, hv, hcl, hW, hsm.mono hc hs, hf⟩⟩
theorem vx_frame {U : State} {k n : Nat} (h : s.sameButNew ({ U with vm := s.vm } : State) locs k n) : s.heap.size ≤ U.heap.size ∧ ∀ q : Nat, q < s.heap.size → (∀ z ∈ locs, z.base ≠ q) → U.heap[q]? = s.heap[q]? := by
  obtain ⟨-, h2, -, -, -, h6⟩ := h
  refine ⟨h2, fun q hq hz => ?_⟩
  obtain ⟨c9, e1, e2, e3, e4⟩ := h6 q _ (Array.getElem?_eq_getElem hq)
  have hs : c9.slots = (s.heap[q]).slots := Array.ext_getElem? fun i => e4 i fun hm => hz _ hm rfl
  have h9 : c9 = s.heap[q] := by
    rw [hs] at e2
    exact e2
  have e5 : U.heap[q]? = some c9 := e1
  rw [e5, h9, Array.getElem?_eq_getElem hq]
/-- the words of a throw but the four that speak of the heap -/
def vx_no (w : Cond) : Bool := decide (w ≠ .isRef (.static Bundle.tN "UNASSIGNED_STACK" Bundle.steD)) && decide (w ≠ .isRef (.static Bundle.tN "SUPPRESSED_SENTINEL" Bundle.listD)) && decide (w ≠ .laysStatic Bundle.tN "UNASSIGNED_STACK" Bundle.steD) && decide (w ≠ .laysStatic Bundle.tN "SUPPRESSED_SENTINEL" Bundle.listD)
def vx_at0 (own : String) (ic : Nat) (X : String) (names : List String) : List Cond := (Bundle.ownAtoms0 own ic X names).filter vx_no
def vx_atS (own : String) (ic : Nat) (X : String) (names : List String) : List Cond := (Bundle.ownAtoms own ic X names).filter vx_no
/-- a word that the tables alone decide, or a good one -/
def vx_ot (w : Cond) : Bool := w.onTables || goodWord w
theorem vx_ot_at {args a' : Array Value} {s U : State} {w : Cond} (hW : s.WarmedH U.vm) (hvm : s.vm = U.vm) (hg : vx_ot w = true) (h : w.before args s = true) : w.before a' U = true := by
  simp only [vx_ot, Bool.or_eq_true] at hg
  rcases hg with hg | hg
  · exact va_tabs hg hvm h
  · exact word_at hW (good_of_word hg) h
/-- a list's words: the good ones out of the method's own list, the others by premises of their own -/
theorem vx_hat {args : Array Value} {s : State} {L B : List Cond} (h1 : ∀ w ∈ L.filter goodWord, w.before args s = true) (h2 : ∀ w ∈ L.filter (fun w => !goodWord w), w ∈ B) (h3 : ∀ w ∈ B, w.before args s = true) : ∀ w ∈ L, w.before args s = true := by
  intro w hw
  by_cases g : goodWord w = true
  · exact h1 w (List.mem_filter.mpr ⟨hw, g⟩)
  · refine h3 w (h2 w (List.mem_filter.mpr ⟨hw, ?_⟩))
    show (!goodWord w) = true
    cases hgw : goodWord w
    · rfl
    · exact absurd hgw g
theorem vx_c {args : Array Value} {s : State} {w : Cond} {B : List Cond} (h : w.before args s = true) (t : ∀ w ∈ B, w.before args s = true) : ∀ w' ∈ w :: B, w'.before args s = true := fun w' h' => (List.mem_cons.mp h').elim (fun e => by rw [e]; exact h) (t w')
theorem vx_n {args : Array Value} {s : State} : ∀ w ∈ ([] : List Cond), w.before args s = true := fun _ h => nomatch h
theorem vx_own {args : Array Value} {s : State} {L : List Cond} (h1 : ∀ w ∈ L.filter vx_no, w.before args s = true)
    (hU : (Cond.isRef (.static Bundle.tN "UNASSIGNED_STACK" Bundle.steD)).before args s = true) (hN : (Cond.isRef (.static Bundle.tN "SUPPRESSED_SENTINEL" Bundle.listD)).before args s = true)
    (lU : (Cond.laysStatic Bundle.tN "UNASSIGNED_STACK" Bundle.steD).before args s = true) (lN : (Cond.laysStatic Bundle.tN "SUPPRESSED_SENTINEL" Bundle.listD).before args s = true) : ∀ w ∈ L, w.before args s = true := by
  intro w hw
  by_cases e1 : w = .isRef (.static Bundle.tN "UNASSIGNED_STACK" Bundle.steD)
  · rw [e1]; exact hU
  · by_cases e2 : w = .isRef (.static Bundle.tN "SUPPRESSED_SENTINEL" Bundle.listD)
    · rw [e2]; exact hN
    · by_cases e3 : w = .laysStatic Bundle.tN "UNASSIGNED_STACK" Bundle.steD
      · rw [e3]; exact lU
      · by_cases e4 : w = .laysStatic Bundle.tN "SUPPRESSED_SENTINEL" Bundle.listD
        · rw [e4]; exact lN
        · exact h1 w (List.mem_filter.mpr ⟨hw, by unfold vx_no; rw [decide_eq_true e1, decide_eq_true e2, decide_eq_true e3, decide_eq_true e4]; rfl⟩)
/-- where a static field lies, its class's statics cell in H -/
def vx_L (C n d : String) (A : Nat → Prop) (U : State) (H : Heap) : Prop := ∃ (c : ClassId) (k : Class) (i : Nat) (f : Field) (a : Nat) (cell : Cell), U.vm.findClass C = some c ∧ U.fieldFound? C n d = some (c, k, i, f) ∧ f.isStatic = true ∧ k.statics = some a ∧ H[a]? = some cell ∧ cell.vm.isStatics = true ∧ cell.cls = c ∧ f.slot < cell.slots.size ∧ k.staticTypes[f.slot]? = some f.type ∧ ¬ A a
theorem vx_L.moved {C n d : String} {A : Nat → Prop} {u U : State} {H : Heap} (hvm : u.vm.Alike U.vm) (h : vx_L C n d A u H) : vx_L C n d A U H := by
  obtain ⟨c, k, i, f, a, cell, h1, h2, h3, h4, h5, h6, h7, h8, h9, h10⟩ := h
  obtain ⟨k', hi', he⟩ := State.fieldFound?_setVm hvm h2
  exact ⟨c, k', i, f, a, cell, by rw [hvm.findClass]; exact h1, hi', h3, by rw [he]; exact h4, h5, h6, h7, h8, by rw [he]; exact h9, h10⟩
theorem vx_L.kept {C n d : String} {A : Nat → Prop} {U : State} {H H1 : Heap} (h : vx_L C n d A U H) (hq : ∀ a : Nat, a < H.size → ¬ A a → H1[a]? = H[a]?) : vx_L C n d A U H1 := by
  obtain ⟨c, k, i, f, a, cell, h1, h2, h3, h4, h5, h6, h7, h8, h9, h10⟩ := h
  exact ⟨c, k, i, f, a, cell, h1, h2, h3, h4, by rw [hq a (Array.getElem?_eq_some_iff.mp h5).1 h10]; exact h5, h6, h7, h8, h9, h10⟩
theorem vx_L.narrow {C n d : String} {A B : Nat → Prop} {U : State} {H : Heap} (h : vx_L C n d A U H) (hAB : ∀ q, B q → A q) : vx_L C n d B U H := by
  obtain ⟨c, k, i, f, a, cell, h1, h2, h3, h4, h5, h6, h7, h8, h9, h10⟩ := h
  exact ⟨c, k, i, f, a, cell, h1, h2, h3, h4, h5, h6, h7, h8, h9, fun z => h10 (hAB _ z)⟩
theorem vx_L.word {C n d : String} {A : Nat → Prop} {s : State} {args : Array Value} (h : vx_L C n d A s s.heap) : (Cond.laysStatic C n d).before args s = true := by
  obtain ⟨c, k, i, f, a, cell, h1, h2, h3, h4, h5, h6, h7, h8, h9, -⟩ := h
  show (Cond.laysStatic C n d).holds args s none s [] = true
  exact Cond.laysStatic_of h1 h2 h3 h4 h5 h6 h7 h8 h9
/-- .. and what it holds: null or some reference -/
def vx_Zq (C n d : String) (A : Nat → Prop) (U : State) (H : Heap) : Prop := va_Zq C n d A U H ∧ vx_L C n d A U H
theorem vx_Zq.moved {C n d : String} {A : Nat → Prop} {u U : State} {H : Heap} (hvm : u.vm.Alike U.vm) (h : vx_Zq C n d A u H) : vx_Zq C n d A U H := ⟨va_Zq.moved hvm h.1, vx_L.moved hvm h.2⟩
theorem vx_Zq.kept {C n d : String} {A : Nat → Prop} {U : State} {H H1 : Heap} (h : vx_Zq C n d A U H) (hq : ∀ a : Nat, a < H.size → ¬ A a → H1[a]? = H[a]?) : vx_Zq C n d A U H1 := ⟨va_Zq.kept h.1 hq, vx_L.kept h.2 hq⟩
theorem vx_Zq.narrow {C n d : String} {A B : Nat → Prop} {U : State} {H : Heap} (h : vx_Zq C n d A U H) (hAB : ∀ q, B q → A q) : vx_Zq C n d B U H := ⟨va_Zq.narrow h.1 hAB, vx_L.narrow h.2 hAB⟩
theorem vx_Zqof {args : Array Value} {s : State} {C n d : String} {A : Nat → Prop} (hl : (Cond.laysStatic C n d).before args s = true) (hini : (Cond.initialized C).before args s = true) (h : (Cond.isRef (.static C n d)).before args s = true) (hA : ∀ a : Nat, a < s.heap.size → ¬ A a) : vx_Zq C n d A s s.heap := by
  refine ⟨va_Zqof hl hini h hA, ?_⟩
  obtain ⟨c, k, i, f, a, cell, h1, h2, h3, h4, h5, h6, h7, h8, h9⟩ := Cond.laysStatic_spec hl
  exact ⟨c, k, i, f, a, cell, h1, h2, h3, h4, h5, h6, h7, h8, h9, hA a (Array.getElem?_eq_some_iff.mp h5).1⟩
theorem vx_isRef {C n d : String} {v : Value} {A : Nat → Prop} {s : State} {args : Array Value} (h : va_Z C n d v A s s.heap) (hv : v.isRef = true) : (Cond.isRef (.static C n d)).before args s = true := by
  obtain ⟨cf, kf, fi, f, a, cell, h1, h2, h3, h4, h5, h6, h7, -⟩ := h
  have he : (Term.static C n d).eval args s none [] s = some v := by
    simp [Term.eval, State.fieldNamed?, h1, h2, h4, h5, h6, h7]
  simp only [Cond.before, Cond.holds, Cond.value, he]
  cases v <;> simp_all [Value.isRef]
theorem vx_isRefq {C n d : String} {A : Nat → Prop} {s : State} {args : Array Value} (h : va_Zq C n d A s s.heap) : (Cond.isRef (.static C n d)).before args s = true := by
  rcases h with h | ⟨t, h⟩
  · exact vx_isRef h rfl
  · exact vx_isRef h rfl
/-- the same frame, seen from here: as if the method were called anew in this heap -/
theorem vx_rebase {T : State} (X : Stand p l e R s m args below meth c T locs cells slots) {R' : Room} (hf : R'.frames ≤ R.frames) (hl : R'.locals ≤ R.locals) (hc : cells + R'.cells ≤ R.cells) (hs : slots + R'.slots ≤ R.slots) :
    Stand p l e R' ((T.setVm s.vm).setFrames (.invoking m args :: below)) m args below meth c T [] 0 0 := by
  have htop : (T.setVm s.vm).topJava?.isSome := X.here.top
  have hF : ((T.setVm s.vm).setFrames (.invoking m args :: below)).frames = .invoking m args :: below := State.frames_setFrames _ (State.cur_lt_of_top htop)
  obtain ⟨g₀, hg0⟩ := Option.isSome_iff_exists.mp htop
  obtain ⟨r, hr⟩ := State.topJava?_eq_some.mp hg0
  have hl9 : e.platform.stackLimits (T.setVm s.vm).me = e.platform.stackLimits s.me := X.limits
  have hb9 : (T.setVm s.vm).me.stackBytes = s.me.stackBytes := X.bytes
  refine ⟨X.admits, X.cas, X.clock, hF, ?_, X.hears, X.method, X.code, X.here, X.tail, X.warmed, ?_, ?_, ?_⟩
  · have h := X.room
    have hU : ((T.setVm s.vm).setFrames (.invoking m args :: below)).localsInUse = s.localsInUse := by
      rw [State.localsInUse_invoking hF (meth := meth) (c := c) X.method X.code, State.localsInUse_invoking X.frames X.method X.code]
    simp only [State.hasRoom, Bool.and_eq_true, decide_eq_true_eq] at h ⊢
    obtain ⟨⟨⟨⟨h1, h2, h3, h4, h5, h6⟩, h7⟩, h8⟩, h9⟩ := h
    rw [X.frames, List.length_cons] at h2 h3
    have q1 := X.heapSize
    have q2 := X.used
    simp only [hF, hU, List.length_cons, State.stackLimits_setFrames, State.stackBytes_setFrames, hl9, hb9]
    refine ⟨⟨⟨⟨by omega, by omega, by omega, by omega, by omega, h6⟩, ?_⟩, ?_⟩, X.book⟩
    · show T.heap.size + R'.cells ≤ e.platform.maxCells
      omega
    · show T.slotsUsed + R'.slots ≤ e.platform.maxSlots
      omega
  · rw [State.stackLimits_setFrames]; rfl
  · rw [State.stackBytes_setFrames]; rfl
  · refine ⟨?_, Nat.le_refl _, Nat.le_refl _, ?_, ?_, fun a c9 h9 => ⟨c9, h9, rfl, rfl, fun _ _ => rfl⟩⟩
    · obtain ⟨t, ht, -⟩ := State.frames_cons hr
      show T.setVm s.vm = { ((T.setVm s.vm).setFrames (.invoking m args :: below)).setFrames (T.setVm s.vm).frames with heap := T.heap, slotsUsed := T.slotsUsed }
      rw [State.setFrames_setFrames, State.setFrames_self ht]
      rfl
    · show T.slotsUsed = T.slotsUsed + ((T.heap.toList.drop T.heap.size).map (·.slots.size)).sum
      rw [List.drop_eq_nil_of_le (Nat.le_of_eq Array.length_toList)]
      rfl
    · show ((T.heap.toList.drop T.heap.size).map (·.slots.size)).sum ≤ 0
      rw [List.drop_eq_nil_of_le (Nat.le_of_eq Array.length_toList)]
      exact Nat.le_refl _
/-- 'throw new E()': new; dup; invokespecial; athrow -/
theorem vx_throw0 {cc : ByteArray} {pc : Nat} (hexec : p.tables.exec = Jvm.exec) (hb : c.code = cc) (hl : l.stackTraces = false) {own cls : String} {names : List String} {ik ic mc ms : Nat} {A : Nat → Prop}
    (hown : s.vm.findClass own = some m.cls) (hcls : Bundle.fit cls = true) (hnames : ∀ n ∈ names, Bundle.fit n = true)
    (hk : (Cond.classLink own ik cls).before args s = true) (hini : (Cond.initialized cls).before args s = true) (hat : ∀ w ∈ vx_at0 own ic cls names, w.before args s = true)
    (hgood : ∀ w ∈ Cond.classLink own ik cls :: Cond.initialized cls :: vx_at0 own ic cls names, vx_ot w = true)
    (hU : vx_Zq Bundle.tN "UNASSIGNED_STACK" Bundle.steD A s s.heap) (hN : vx_Zq Bundle.tN "SUPPRESSED_SENTINEL" Bundle.listD A s s.heap) (hS : va_S A s.heap H locs) (hsize : ls.size = c.maxLocals)
    (d0 : decode cc pc = .ok (.new ik, 3)) (d3 : decode cc (pc + 3) = .ok (.dup, 1)) (d4 : decode cc (pc + 4) = .ok (.invokespecial ic, 3)) (d7 : decode cc (pc + 7) = .ok (.athrow, 1))
    (hout : ∀ x ∈ c.exceptionTable.toList, covers x (pc + 7) = false)
    (hRframes : names.length + 3 < R.frames) (hRlocals : (rest.map fun v => v.category).sum + (13 * (names.length + 1) + 42) ≤ R.locals) (hRcells : cells + 1 ≤ R.cells) (hRslots : slots + 6 ≤ R.slots) (hlocks : meth.locks = false)
    (hx : ∀ t : State, s.vm.Alike t.vm → H.size ≤ t.heap.size → (∀ q : Nat, q < H.size → t.heap[q]? = H[q]?) → XC cls s t)
    (hf : ∀ z ∈ locs, free z.base) (hc : cells + 1 ≤ mc) (hs : slots + 6 ≤ ms) :
    W p l e R s m args below meth c H locs cells slots (vx_MQ below Qc XC args s mc ms free) (F0 m pc ls rest) := by
  intro T hT X
  have htr : e.platform.stackTraces = false := (show e.platform.stackTraces = l.stackTraces by rw [X.admits.platform]).trans hl
  have Y := vx_rebase X (R' := { frames := R.frames, locals := R.locals, cells := 1, slots := 6 }) (Nat.le_refl _) (Nat.le_refl _) hRcells hRslots
  obtain ⟨s', hA⟩ : ∃ z, z = (T.setVm s.vm).setFrames (.invoking m args :: below) := ⟨_, rfl⟩
  rw [← hA] at Y
  have hvm : s'.vm = s.vm := by rw [hA]; rfl
  have hhp : s'.heap = H := by rw [hA]; exact hT
  have hW0 : s.WarmedH s'.vm := by rw [hvm]; exact State.WarmedH.refl s
  have hat' : ∀ w ∈ vx_at0 own ic cls names, w.before args s' = true := fun w hw => vx_ot_at hW0 hvm.symm (hgood w (List.mem_cons_of_mem _ (List.mem_cons_of_mem _ hw))) (hat w hw)
  have hk' : (Cond.classLink own ik cls).before args s' = true := vx_ot_at hW0 hvm.symm (hgood _ List.mem_cons_self) hk
  have hini' : (Cond.initialized cls).before args s' = true := vx_ot_at hW0 hvm.symm (hgood _ (List.mem_cons_of_mem _ List.mem_cons_self)) hini
  have hU' : vx_Zq Bundle.tN "UNASSIGNED_STACK" Bundle.steD A s' s'.heap := by rw [hhp]; exact vx_Zq.moved hW0.alike (hU.kept hS.2.1)
  have hN' : vx_Zq Bundle.tN "SUPPRESSED_SENTINEL" Bundle.listD A s' s'.heap := by rw [hhp]; exact vx_Zq.moved hW0.alike (hN.kept hS.2.1)
  have h : ∀ w ∈ Bundle.ownAtoms0 own ic cls names, w.before args s' = true := vx_own hat' (vx_isRefq hU'.1) (vx_isRefq hN'.1) hU'.2.word hN'.2.word
  have hown' : s'.vm.findClass own = some m.cls := by rw [hvm]; exact hown
  have hins : (Cond.instantiable cls 6).before args s' = true := h _ (by simp [Bundle.ownAtoms0])
  obtain ⟨vm₁, cX, kX, hfX, hkX, -, -, X₁, st1⟩ := Y.newCold hexec (own := own) (C := cls) (index := ik) (n := 6) hown' hk' hins hini'
    (g := F0 m pc ls rest) rfl (by rw [hb]; exact d0) (Nat.le_refl _) (Nat.le_refl _)
  generalize hT1 : (T.setVm vm₁).pushCell { cls := cX, slots := kX.instanceTypes.map defaultValue, vm := .none } = T1 at X₁ st1
  have hcat : (Value.ref T.heap.size).category = 1 := rfl
  have hcellA : T1.heap[T.heap.size]? = some (freshCell cX kX) := by rw [← hT1]; exact State.heap_pushCell_size _ _
  have d3' : decode c.code (pc + 3) = .ok (.dup, 1) := by rw [hb]; exact d3
  obtain ⟨U, hsteps, hrun, hend, hW, hsame, ce, hce, hO⟩ := X₁.ctorThrow0 hexec htr (own := own) (cls := cls) (names := names) (ic := ic) hown' hcls hnames h (fun x hx => nomatch hx) hfX hkX hcellA (by rw [hhp, hT]; exact Nat.le_refl _)
    (g := { method := m, pc := pc + 4, locals := ls, stack := .ref T.heap.size :: .ref T.heap.size :: rest, locked := none }) rfl hsize rfl rfl (rest := rest) rfl
    (by rw [hb]; exact d4) (by rw [hb]; exact d7) hout hRframes (by simp only [List.map_cons, List.sum_cons, hcat]; omega) hlocks
  obtain ⟨f1, f2⟩ := vx_frame hsame
  rw [hhp] at f1 f2
  have hWs : s.WarmedH U.vm := State.WarmedH.trans hW0 hW
  have hcl : s.vm.findClass cls = some ce.cls := by
    have h9 := hO.cls
    rw [hvm] at h9
    exact h9
  have hall : s.sameButNew ({ U with vm := s.vm } : State) locs mc ms := by
    subst hA
    obtain ⟨e1, e2⟩ := hsame
    rw [State.setFrames_setFrames] at e1
    have h2 : (T.setVm s.vm).sameButNew ({ U with vm := s.vm } : State) [] (0 + 1) (0 + 6) := ⟨e1, e2⟩
    have h3 := X.same.trans h2
    rw [List.append_nil] at h3
    exact h3.mono hc hs
  refine ⟨U, ?_, .threw T.heap.size, hrun, hend, Or.inr ⟨T.heap.size, rfl, cls, ce, locs, hx U hWs.alike f1 (fun q hq => f2 q hq (fun z hz => nomatch hz)), hce, hO.vm, hcl, hWs, hall, hf⟩⟩
  refine st1 _ ?_
  show Steps p.tables e below (T1.setTop { method := m, pc := pc + 3, locals := ls, stack := .ref T.heap.size :: rest, locked := none }) _
  jvm_step X₁.here [X₁.here.top, hexec, d3', Value.category]
  exact hsteps
/-- 'throw new E("text")': new; dup; ldc; invokespecial; athrow -/
theorem vx_throwS {cc : ByteArray} {pc : Nat} (hexec : p.tables.exec = Jvm.exec) (hb : c.code = cc) (hl : l.stackTraces = false) {own cls text : String} {names : List String} {ik is ic mc ms sa : Nat} {A : Nat → Prop}
    (hown : s.vm.findClass own = some m.cls) (hcls : Bundle.fit cls = true) (hnames : ∀ n ∈ names, Bundle.fit n = true)
    (hk : (Cond.classLink own ik cls).before args s = true) (hini : (Cond.initialized cls).before args s = true) (hstr : vk_R own is text sa s) (hat : ∀ w ∈ vx_atS own ic cls names, w.before args s = true)
    (hgood : ∀ w ∈ Cond.classLink own ik cls :: Cond.initialized cls :: vx_atS own ic cls names, vx_ot w = true)
    (hU : vx_Zq Bundle.tN "UNASSIGNED_STACK" Bundle.steD A s s.heap) (hN : vx_Zq Bundle.tN "SUPPRESSED_SENTINEL" Bundle.listD A s s.heap) (hS : va_S A s.heap H locs) (hsize : ls.size = c.maxLocals)
    (d0 : decode cc pc = .ok (.new ik, 3)) (d3 : decode cc (pc + 3) = .ok (.dup, 1)) (d4 : decode cc (pc + 4) = .ok (.ldc is, 2)) (d6 : decode cc (pc + 6) = .ok (.invokespecial ic, 3)) (d9 : decode cc (pc + 9) = .ok (.athrow, 1))
    (hout : ∀ x ∈ c.exceptionTable.toList, covers x (pc + 9) = false)
    (hRframes : names.length + 3 < R.frames) (hRlocals : (rest.map fun v => v.category).sum + (13 * (names.length + 1) + 43) ≤ R.locals) (hRcells : cells + 1 ≤ R.cells) (hRslots : slots + 6 ≤ R.slots) (hlocks : meth.locks = false)
    (hx : ∀ t : State, s.vm.Alike t.vm → H.size ≤ t.heap.size → (∀ q : Nat, q < H.size → t.heap[q]? = H[q]?) → XC cls s t)
    (hf : ∀ z ∈ locs, free z.base) (hc : cells + 1 ≤ mc) (hs : slots + 6 ≤ ms) :
    W p l e R s m args below meth c H locs cells slots (vx_MQ below Qc XC args s mc ms free) (F0 m pc ls rest) := by
  intro T hT X
  have htr : e.platform.stackTraces = false := (show e.platform.stackTraces = l.stackTraces by rw [X.admits.platform]).trans hl
  have Y := vx_rebase X (R' := { frames := R.frames, locals := R.locals, cells := 1, slots := 6 }) (Nat.le_refl _) (Nat.le_refl _) hRcells hRslots
  obtain ⟨s', hA⟩ : ∃ z, z = (T.setVm s.vm).setFrames (.invoking m args :: below) := ⟨_, rfl⟩
  rw [← hA] at Y
  have hvm : s'.vm = s.vm := by rw [hA]; rfl
  have hhp : s'.heap = H := by rw [hA]; exact hT
  have hW0 : s.WarmedH s'.vm := by rw [hvm]; exact State.WarmedH.refl s
  have hat' : ∀ w ∈ vx_atS own ic cls names, w.before args s' = true := fun w hw => vx_ot_at hW0 hvm.symm (hgood w (List.mem_cons_of_mem _ (List.mem_cons_of_mem _ hw))) (hat w hw)
  have hk' : (Cond.classLink own ik cls).before args s' = true := vx_ot_at hW0 hvm.symm (hgood _ List.mem_cons_self) hk
  have hini' : (Cond.initialized cls).before args s' = true := vx_ot_at hW0 hvm.symm (hgood _ (List.mem_cons_of_mem _ List.mem_cons_self)) hini
  have hU' : vx_Zq Bundle.tN "UNASSIGNED_STACK" Bundle.steD A s' s'.heap := by rw [hhp]; exact vx_Zq.moved hW0.alike (hU.kept hS.2.1)
  have hN' : vx_Zq Bundle.tN "SUPPRESSED_SENTINEL" Bundle.listD A s' s'.heap := by rw [hhp]; exact vx_Zq.moved hW0.alike (hN.kept hS.2.1)
  have h : ∀ w ∈ Bundle.ownAtoms own ic cls names, w.before args s' = true := vx_own hat' (vx_isRefq hU'.1) (vx_isRefq hN'.1) hU'.2.word hN'.2.word
  have hown' : s'.vm.findClass own = some m.cls := by rw [hvm]; exact hown
  have hins : (Cond.instantiable cls 6).before args s' = true := h _ (by simp [Bundle.ownAtoms])
  obtain ⟨vm₁, cX, kX, hfX, hkX, -, -, X₁, st1⟩ := Y.newCold hexec (own := own) (C := cls) (index := ik) (n := 6) hown' hk' hins hini'
    (g := F0 m pc ls rest) rfl (by rw [hb]; exact d0) (Nat.le_refl _) (Nat.le_refl _)
  generalize hT1 : (T.setVm vm₁).pushCell { cls := cX, slots := kX.instanceTypes.map defaultValue, vm := .none } = T1 at X₁ st1
  have hcat : (Value.ref T.heap.size).category = 1 := rfl
  have hcellA : T1.heap[T.heap.size]? = some (freshCell cX kX) := by rw [← hT1]; exact State.heap_pushCell_size _ _
  have d3' : decode c.code (pc + 3) = .ok (.dup, 1) := by rw [hb]; exact d3
  have d4' : decode c.code (pc + 4) = .ok (.ldc is, 2) := by rw [hb]; exact d4
  have hstr' : vk_R own is text sa s' := vk_R.warm hW0 hstr
  obtain ⟨U, hsteps, hrun, hend, hW, hsame, ce, hce, hO⟩ := X₁.ctorThrowS hexec htr (own := own) (cls := cls) (names := names) (ic := ic) hown' hcls hnames h (fun x hx => nomatch hx) hfX hkX hcellA (by rw [hhp, hT]; exact Nat.le_refl _) (msg := .ref sa) rfl
    (g := { method := m, pc := pc + 6, locals := ls, stack := .ref sa :: .ref T.heap.size :: .ref T.heap.size :: rest, locked := none }) rfl hsize rfl rfl (rest := rest) rfl
    (by rw [hb]; exact d6) (by rw [hb]; exact d9) hout hRframes (by simp only [List.map_cons, List.sum_cons, hcat]; omega) hlocks
  obtain ⟨f1, f2⟩ := vx_frame hsame
  rw [hhp] at f1 f2
  have hWs : s.WarmedH U.vm := State.WarmedH.trans hW0 hW
  have hcl : s.vm.findClass cls = some ce.cls := by
    have h9 := hO.cls
    rw [hvm] at h9
    exact h9
  have hall : s.sameButNew ({ U with vm := s.vm } : State) locs mc ms := by
    subst hA
    obtain ⟨e1, e2⟩ := hsame
    rw [State.setFrames_setFrames] at e1
    have h2 : (T.setVm s.vm).sameButNew ({ U with vm := s.vm } : State) [] (0 + 1) (0 + 6) := ⟨e1, e2⟩
    have h3 := X.same.trans h2
    rw [List.append_nil] at h3
    exact h3.mono hc hs
  refine ⟨U, ?_, .threw T.heap.size, hrun, hend, Or.inr ⟨T.heap.size, rfl, cls, ce, locs, hx U hWs.alike f1 (fun q hq => f2 q hq (fun z hz => nomatch hz)), hce, hO.vm, hcl, hWs, hall, hf⟩⟩
  refine st1 _ ?_
  show Steps p.tables e below (T1.setTop { method := m, pc := pc + 3, locals := ls, stack := .ref T.heap.size :: rest, locked := none }) _
  jvm_step X₁.here [X₁.here.top, hexec, d3', Value.category]
  exact X₁.ldcString hexec (own := own) (text := text) (index := is) (a := sa) hown' hstr'.1 hstr'.2
    (g := { method := m, pc := pc + 4, locals := ls, stack := .ref T.heap.size :: .ref T.heap.size :: rest, locked := none }) rfl d4' _ hsteps
/-- 'throw new E("text")', the text by a wide index -/
theorem vx_throwSW {cc : ByteArray} {pc : Nat} (hexec : p.tables.exec = Jvm.exec) (hb : c.code = cc) (hl : l.stackTraces = false) {own cls text : String} {names : List String} {ik is ic mc ms sa : Nat} {A : Nat → Prop}
    (hown : s.vm.findClass own = some m.cls) (hcls : Bundle.fit cls = true) (hnames : ∀ n ∈ names, Bundle.fit n = true)
    (hk : (Cond.classLink own ik cls).before args s = true) (hini : (Cond.initialized cls).before args s = true) (hstr : vk_R own is text sa s) (hat : ∀ w ∈ vx_atS own ic cls names, w.before args s = true)
    (hgood : ∀ w ∈ Cond.classLink own ik cls :: Cond.initialized cls :: vx_atS own ic cls names, vx_ot w = true)
    (hU : vx_Zq Bundle.tN "UNASSIGNED_STACK" Bundle.steD A s s.heap) (hN : vx_Zq Bundle.tN "SUPPRESSED_SENTINEL" Bundle.listD A s s.heap) (hS : va_S A s.heap H locs) (hsize : ls.size = c.maxLocals)
    (d0 : decode cc pc = .ok (.new ik, 3)) (d3 : decode cc (pc + 3) = .ok (.dup, 1)) (d4 : decode cc (pc + 4) = .ok (.ldc_w is, 3)) (d7 : decode cc (pc + 7) = .ok (.invokespecial ic, 3)) (d10 : decode cc (pc + 10) = .ok (.athrow, 1))
    (hout : ∀ x ∈ c.exceptionTable.toList, covers x (pc + 10) = false)
    (hRframes : names.length + 3 < R.frames) (hRlocals : (rest.map fun v => v.category).sum + (13 * (names.length + 1) + 43) ≤ R.locals) (hRcells : cells + 1 ≤ R.cells) (hRslots : slots + 6 ≤ R.slots) (hlocks : meth.locks = false)
    (hx : ∀ t : State, s.vm.Alike t.vm → H.size ≤ t.heap.size → (∀ q : Nat, q < H.size → t.heap[q]? = H[q]?) → XC cls s t)
    (hf : ∀ z ∈ locs, free z.base) (hc : cells + 1 ≤ mc) (hs : slots + 6 ≤ ms) :
    W p l e R s m args below meth c H locs cells slots (vx_MQ below Qc XC args s mc ms free) (F0 m pc ls rest) := by
  intro T hT X
  have htr : e.platform.stackTraces = false := (show e.platform.stackTraces = l.stackTraces by rw [X.admits.platform]).trans hl
  have Y := vx_rebase X (R' := { frames := R.frames, locals := R.locals, cells := 1, slots := 6 }) (Nat.le_refl _) (Nat.le_refl _) hRcells hRslots
  obtain ⟨s', hA⟩ : ∃ z, z = (T.setVm s.vm).setFrames (.invoking m args :: below) := ⟨_, rfl⟩
  rw [← hA] at Y
  have hvm : s'.vm = s.vm := by rw [hA]; rfl
  have hhp : s'.heap = H := by rw [hA]; exact hT
  have hW0 : s.WarmedH s'.vm := by rw [hvm]; exact State.WarmedH.refl s
  have hat' : ∀ w ∈ vx_atS own ic cls names, w.before args s' = true := fun w hw => vx_ot_at hW0 hvm.symm (hgood w (List.mem_cons_of_mem _ (List.mem_cons_of_mem _ hw))) (hat w hw)
  have hk' : (Cond.classLink own ik cls).before args s' = true := vx_ot_at hW0 hvm.symm (hgood _ List.mem_cons_self) hk
  have hini' : (Cond.initialized cls).before args s' = true := vx_ot_at hW0 hvm.symm (hgood _ (List.mem_cons_of_mem _ List.mem_cons_self)) hini
  have hU' : vx_Zq Bundle.tN "UNASSIGNED_STACK" Bundle.steD A s' s'.heap := by rw [hhp]; exact vx_Zq.moved hW0.alike (hU.kept hS.2.1)
  have hN' : vx_Zq Bundle.tN "SUPPRESSED_SENTINEL" Bundle.listD A s' s'.heap := by rw [hhp]; exact vx_Zq.moved hW0.alike (hN.kept hS.2.1)
  have h : ∀ w ∈ Bundle.ownAtoms own ic cls names, w.before args s' = true := vx_own hat' (vx_isRefq hU'.1) (vx_isRefq hN'.1) hU'.2.word hN'.2.word
  have hown' : s'.vm.findClass own = some m.cls := by rw [hvm]; exact hown
  have hins : (Cond.instantiable cls 6).before args s' = true := h _ (by simp [Bundle.ownAtoms])
  obtain ⟨vm₁, cX, kX, hfX, hkX, -, -, X₁, st1⟩ := Y.newCold hexec (own := own) (C := cls) (index := ik) (n := 6) hown' hk' hins hini'
    (g := F0 m pc ls rest) rfl (by rw [hb]; exact d0) (Nat.le_refl _) (Nat.le_refl _)
  generalize hT1 : (T.setVm vm₁).pushCell { cls := cX, slots := kX.instanceTypes.map defaultValue, vm := .none } = T1 at X₁ st1
  have hcat : (Value.ref T.heap.size).category = 1 := rfl
  have hcellA : T1.heap[T.heap.size]? = some (freshCell cX kX) := by rw [← hT1]; exact State.heap_pushCell_size _ _
  have d3' : decode c.code (pc + 3) = .ok (.dup, 1) := by rw [hb]; exact d3
  have d4' : decode c.code (pc + 4) = .ok (.ldc_w is, 3) := by rw [hb]; exact d4
  have hstr' : vk_R own is text sa s' := vk_R.warm hW0 hstr
  obtain ⟨U, hsteps, hrun, hend, hW, hsame, ce, hce, hO⟩ := X₁.ctorThrowS hexec htr (own := own) (cls := cls) (names := names) (ic := ic) hown' hcls hnames h (fun x hx => nomatch hx) hfX hkX hcellA (by rw [hhp, hT]; exact Nat.le_refl _) (msg := .ref sa) rfl
    (g := { method := m, pc := pc + 7, locals := ls, stack := .ref sa :: .ref T.heap.size :: .ref T.heap.size :: rest, locked := none }) rfl hsize rfl rfl (rest := rest) rfl
    (by rw [hb]; exact d7) (by rw [hb]; exact d10) hout hRframes (by simp only [List.map_cons, List.sum_cons, hcat]; omega) hlocks
  obtain ⟨f1, f2⟩ := vx_frame hsame
  rw [hhp] at f1 f2
  have hWs : s.WarmedH U.vm := State.WarmedH.trans hW0 hW
  have hcl : s.vm.findClass cls = some ce.cls := by
    have h9 := hO.cls
    rw [hvm] at h9
    exact h9
  have hall : s.sameButNew ({ U with vm := s.vm } : State) locs mc ms := by
    subst hA
    obtain ⟨e1, e2⟩ := hsame
    rw [State.setFrames_setFrames] at e1
    have h2 : (T.setVm s.vm).sameButNew ({ U with vm := s.vm } : State) [] (0 + 1) (0 + 6) := ⟨e1, e2⟩
    have h3 := X.same.trans h2
    rw [List.append_nil] at h3
    exact h3.mono hc hs
  refine ⟨U, ?_, .threw T.heap.size, hrun, hend, Or.inr ⟨T.heap.size, rfl, cls, ce, locs, hx U hWs.alike f1 (fun q hq => f2 q hq (fun z hz => nomatch hz)), hce, hO.vm, hcl, hWs, hall, hf⟩⟩
  refine st1 _ ?_
  show Steps p.tables e below (T1.setTop { method := m, pc := pc + 3, locals := ls, stack := .ref T.heap.size :: rest, locked := none }) _
  jvm_step X₁.here [X₁.here.top, hexec, d3', Value.category]
  exact X₁.ldcStringW hexec (own := own) (text := text) (index := is) (a := sa) hown' hstr'.1 hstr'.2
    (g := { method := m, pc := pc + 4, locals := ls, stack := .ref T.heap.size :: .ref T.heap.size :: rest, locked := none }) rfl d4' _ hsteps
end Ends
section Bodies
variable {l : Launch}
theorem vx_ofW {y : MethodName} {ws ws' : List Cond} {rm : Room} {Pc : Array Value → State → Prop} {Qc : Array Value → State → Outcome → State → Prop} {XC : String → State → State → Prop} {mc ms : Nat} {free : Addr → Prop} {cc : ByteArray} {maxL : Nat} {ret : Option FieldType}
    (hy : plainName y.cls = true) (hw : ws = Cond.code y cc maxL ret :: ws')
    (body : ∀ p e s m args below meth c s₁, BodyLoose p l y (headSpec ws rm) cc maxL ret e s m args below meth c s₁ → c.maxLocals = maxL → (∀ x ∈ c.exceptionTable.toList, False) → Pc args s →
      W p l e (headSpec ws rm).room s m args below meth c s.heap [] 0 0 (vx_MQ below Qc XC args s mc ms free) (entryFrame m args maxL)) : vx_Met l y ws rm Pc Qc XC mc ms free := by
  refine MetFree.of_bodyS (code := cc) (maxLocals := maxL) (ret := ret) hy ?_ ?_
  · intro args s m h hn
    obtain ⟨meth, c, h1, h2, h3, h4, h5, h6, -, -⟩ := Cond.code_spec hn (atoms_spec (ws := ws) h _ (by rw [hw]; exact List.mem_cons_self))
    exact ⟨meth, c, h1, h2, h3, h4, h5, h6⟩
  · intro p e s m args below meth c s₁ B hml hP _
    have hh0 : s₁.heap = s.heap := by rw [B.state]; rfl
    have ht : ∀ x ∈ c.exceptionTable.toList, False := by
      obtain ⟨meth9, c9, h1, h2, -, -, -, -, h7, -⟩ := Cond.code_spec B.named (atoms_spec (ws := ws) B.pre _ (by rw [hw]; exact List.mem_cons_self))
      cases Option.some.inj (h1.symm.trans B.method)
      cases Option.some.inj (h2.symm.trans (Stand.of_body B).code)
      intro x hx
      rw [Array.isEmpty_iff.mp h7] at hx
      cases hx
    obtain ⟨t, a1, o, b1, b2, b3⟩ := body p e s m args below meth c s₁ B hml ht hP s₁ hh0 (Stand.of_body B)
    exact ⟨t, o, a1, b1, b2, b3⟩
/-- the table of a body with handlers -/
theorem vx_table {p : Program} {x y : MethodName} {S : Spec} {cc bytes : ByteArray} {maxL maxL' : Nat} {ret ret' : Option FieldType} {e : Env} {s s₁ : State} {m : MethodId} {args : Array Value} {below : List Frame} {meth : Method} {c : Code} {hh : List (Nat × Nat × Nat × Nat)}
    (B : BodyLoose p l y S cc maxL ret e s m args below meth c s₁) (h : (Cond.codeWith y bytes maxL' ret' hh).before args s = true) : c.exceptionTable.toList = tableOf hh := by
  obtain ⟨m9, meth9, c9, hn9, h1, h2, -, -, h6, -⟩ := Cond.codeWith_spec h
  cases Option.some.inj (hn9.symm.trans B.named)
  cases Option.some.inj (h1.symm.trans B.method)
  cases Option.some.inj (h2.symm.trans (Stand.of_body B).code)
  rw [← h6, table_eq]
end Bodies
end VXA
/-! ===== END ===== -/
/-! ===== BEGIN a static call of a method with an exception table ===== -/
section VXS
variable {p : Program} {l : Launch} {e : Env} {R : Room} {s : State} {m : MethodId} {args : Array Value} {below : List Frame} {meth : Method} {c : Code} {T : State} {H : Heap} {locs : List Loc} {cells slots : Nat}
abbrev vx_CSW (R : Room) (s : State) (args : Array Value) (own : String) (index : Nat) (y : MethodName) (bytes : ByteArray) (maxL : Nat) (ret : Option FieldType) (hh : List (Nat × Nat × Nat × Nat)) (ws : List Cond) (rm : Room) (mc ms n : Nat) : Prop :=
  (rm.cells = mc ∧ rm.slots = ms ∧ rm.frames + 1 ≤ R.frames ∧ 8 + (maxL + 11) + rm.locals ≤ R.locals ∧ (∀ w ∈ ws, ∀ (a' : Array Value) (U : State), s.WarmedH U.vm → w.before a' U = true) ∧ Cond.codeWith y bytes maxL ret hh ∈ ws) ∧
  (Cond.codeWith y bytes maxL ret hh).before args s = true ∧ (Cond.initialized y.cls).before args s = true ∧ (y.cls ≠ "java/lang/invoke/MethodHandle" ∧ y.cls ≠ "java/lang/invoke/VarHandle") ∧
  (∀ sig, parseMethodDescriptor y.desc = some sig → n = sig.parameters.length) ∧ (Cond.methodLink own index y).before args s = true ∧ (Cond.static y).before args s = true
theorem vx_cwSW {own : String} {index maxL mc ms : Nat} {y : MethodName} {bytes : ByteArray} {ret : Option FieldType} {hh : List (Nat × Nat × Nat × Nat)} {Ts ws ws' : List Cond} {rm : Room} (n : Nat) (ht : ∀ w ∈ Ts, w.before args s = true) (hT : GoodIn Ts (va_wsS own index y ws)) (hw : ws = Cond.codeWith y bytes maxL ret hh :: ws') (hrc : rm.cells = mc) (hrs : rm.slots = ms)
    (hd : y.cls ≠ "java/lang/invoke/MethodHandle" ∧ y.cls ≠ "java/lang/invoke/VarHandle" ∧ (parseMethodDescriptor y.desc).map (fun d => d.parameters.length) = some n) (hR : rm.frames + 1 ≤ R.frames ∧ 8 + (maxL + 11) + rm.locals ≤ R.locals) :
    vx_CSW R s args own index y bytes maxL ret hh ws rm mc ms n := by
  have ok : ∀ w ∈ va_wsS own index y ws, w.before args s = true := fun w h => ht w (hT w h).1
  have hG : GoodIn Ts ws := fun w h => hT w (by unfold va_wsS; exact List.mem_append_right _ h)
  have hc : Cond.codeWith y bytes maxL ret hh ∈ ws := by rw [hw]; exact List.mem_cons_self
  refine ⟨⟨hrc, hrs, hR.1, hR.2, pay_in ht hG, hc⟩, ht _ (hG _ hc).1, ok _ (by simp [va_wsS]), ⟨hd.1, hd.2.1⟩, fun sig h => ?_, ok _ (by simp [va_wsS]), ok _ (by simp [va_wsS])⟩
  have h2 := hd.2.2
  rw [h] at h2
  exact (Option.some.inj h2).symm
theorem vx_callSW (X : Stand p l e R s m args below meth c T locs cells slots) (hexec : p.tables.exec = Jvm.exec) {own : String} {index : Nat} {y : MethodName} {bytes : ByteArray} {maxL : Nat} {ret : Option FieldType} {hh : List (Nat × Nat × Nat × Nat)}
    (hown : s.vm.findClass own = some m.cls) (hlink : (Cond.methodLink own index y).before args s = true) (hstat : (Cond.static y).before args s = true) (hinit : (Cond.initialized y.cls).before args s = true)
    (hcode : (Cond.codeWith y bytes maxL ret hh).before args s = true) (hy : y.cls ≠ "java/lang/invoke/MethodHandle" ∧ y.cls ≠ "java/lang/invoke/VarHandle")
    {W9 : Nat} {Pre : Pt → Array Value → Prop} {Post : Pt → Array Value → Option Value → Pt → Prop} (hK : Back l R p e below s args y 3 W9 Pre Post)
    {g : JFrame} (hg : g.method = m) (hsize : g.locals.size = c.maxLocals) {argsL rest : List Value} (hlen : ∀ sig, parseMethodDescriptor y.desc = some sig → argsL.length = sig.parameters.length)
    (hstack : g.stack = argsL.reverse ++ rest) (hW : 2 * g.monitorRoom + (rest.map fun v => v.category).sum ≤ W9) (hdg : decode c.code g.pc = .ok (.invokestatic index, 3))
    (hpre : ∀ vm₁, s.WarmedH vm₁ → Pre ⟨T.setVm vm₁, locs, cells, slots⟩ argsL.toArray) :
    ∃ (v : Option Value) (vm₁ : Vm) (B : Pt), s.WarmedH vm₁ ∧ Stand p l e R s m args below meth c B.U B.locs B.cells B.slots ∧ Post ⟨T.setVm vm₁, locs, cells, slots⟩ argsL.toArray v B ∧
      ∀ target, Steps p.tables e below (B.U.setTop { g with pc := g.pc + 3, stack := v.toList ++ rest }) target → Steps p.tables e below (T.setTop g) target := by
  obtain ⟨mk, methM, cM, hnamed, hmethM, -, -, -, -, -, -, hsigM⟩ := Cond.codeWith_spec hcode
  have hstatic : methM.isStatic = true := Cond.static_spec hnamed hmethM hstat
  obtain ⟨kP, hkP, -⟩ := className_of_methodNamed hnamed
  have hinitP : kP.init = .initialized := Cond.initialized_spec (findClass_of_methodNamed hnamed) hkP hinit
  obtain ⟨vm₁, X₁, hstep₁⟩ := X.invokestatic hexec hown hlink hnamed hmethM hstatic hkP hinitP hy (g := g) hg (argsL := argsL) (rest := rest) (hlen _ hsigM) hstack hdg
  obtain ⟨v, B, X', hpost, hsteps⟩ := hK m meth c ⟨T.setVm vm₁, locs, cells, slots⟩ { g with stack := rest } (.invokestatic index) mk argsL.toArray X₁ hg hsize hdg hW (X₁.named hnamed) (hpre vm₁ X₁.warmed)
  exact ⟨v, vm₁, B, X₁.warmed, X', hpost, fun target h => hstep₁ _ fun acts => by rw [doInvoke_state]; exact hsteps.trans h⟩
theorem vx_runSW {y : MethodName} {bytes cc : ByteArray} {maxL nL mc ms n index : Nat} {ret : Option FieldType} {hh : List (Nat × Nat × Nat × Nat)} {ws : List Cond} {rm : Room} {Pc : Array Value → State → Prop} {Qc : Array Value → State → Outcome → State → Prop} {free : Addr → Prop} {Ts : List Cond} {own : String} {As rest : List Value} {g : JFrame}
    (S : CallFix p m c cc nL s args Ts own) (hM : Met l y ws rm Pc Qc mc ms free) (cw : vx_CSW R s args own index y bytes maxL ret hh ws rm mc ms n) (hp : PreS s H Pc As)
    (hg : g.method = m) (hn : As.length = n) (hsize : g.locals.size = nL) (hstack : g.stack = As.reverse ++ rest) (hW : 2 * g.monitorRoom + (rest.map fun v => v.category).sum ≤ 8) (hdg : decode cc g.pc = .ok (.invokestatic index, 3)) (hf : cells + mc ≤ R.cells ∧ slots + ms ≤ R.slots) :
    va_Run p l e R s m args below meth c H locs cells slots mc ms g rest (Qc As.toArray) (free) := by
  obtain ⟨⟨hrc, hrs, hfr, hlo, hws, hcw⟩, hcode, hini, hy, hlen, hl, hstt⟩ := cw
  have hK : Back l R p e below s args y 3 8 (PreOf R mc ms Pc) (PostOf Qc mc ms free) := va_backW (hh := hh) (bytes := bytes) (maxL := maxL) (ret := ret) hM hp.1 hrc hrs hfr hlo hws hcw (fun a' U hW => word_at hW (Or.inl (by first | rfl | simp [Cond.onTables, Cond.keeps, Cond.steady])) hini)
  obtain ⟨hx, hb, hml, ho, -⟩ := S
  intro T hT X
  obtain ⟨v, vm₁, ⟨U', l2, c2, s2⟩, hW₁, X', ⟨g', mk, t, L, e1, e2, hq, h1, hL, h2, h3⟩, st⟩ := vx_callSW X hx (hh := hh) (bytes := bytes) (maxL := maxL) (ret := ret) ho hl hstt hini hcode hy hK hg (hsize.trans hml.symm) (argsL := As) (rest := rest) (fun sig h => hn.trans (hlen sig h)) hstack hW (by rw [hb]; exact hdg)
    (fun vm₁ hW₁ => ⟨hf.1, hf.2, hp.2 (T.setVm vm₁) hT hW₁⟩)
  dsimp only [Pt.U, Pt.locs, Pt.cells, Pt.slots] at X' e1 e2 h1 h2 h3 st
  subst h1; subst h2; subst h3
  exact ⟨v, (T.setVm vm₁).calling g' mk As.toArray, t, U', L, hT, X', hL, e1, e2, hq, st⟩
/-- not caught here, past rows that name other classes: it goes on to the caller -/
theorem vx_outP {p : Program} {l : Launch} {e : Env} {R : Room} {s : State} {m : MethodId} {args : Array Value} {below : List Frame} {meth : Method} {c : Code} {H : Heap} {locs : List Loc} {cells slots : Nat} {free : Addr → Prop} {ls : Array Slot} {rest : List Value} {Qc : Array Value → State → Outcome → State → Prop} {XC : String → State → State → Prop}
    {pc : Nat} {own E : String} {ce : Cell} {q : Addr} {mc ms : Nat} (hown : s.vm.findClass own = some m.cls) (hlocks : meth.locks = false)
    (hpass : ∀ z ∈ c.exceptionTable.toList, covers z pc = false ∨ (z.catchType ≠ 0 ∧ ∃ nm : String, (Cond.classLink own z.catchType nm).before args s = true ∧ va_Nc E nm s)) (hcell : H[q]? = some ce) (hv : ce.vm = .none) (hcl : s.vm.findClass E = some ce.cls)
    (hx : ∀ t : State, t.heap = H → s.vm.Alike t.vm → XC E s t) (hf : ∀ z ∈ locs, free z.base) (hc : cells ≤ mc) (hs : slots ≤ ms) :
    vx_W p l e R s m args below meth c H locs cells slots (vx_MQ below Qc XC args s mc ms free) (F0 m pc ls rest) q := by
  intro T hT X
  have hpl : e.platform.magicAccessors = ({} : Platform).magicAccessors := by rw [X.admits.platform]
  obtain ⟨vm', hW', X', st⟩ := X.outThrough hlocks q (g := F0 m pc ls rest) rfl rfl rfl (cell := ce) (by rw [hT]; exact hcell) (by rw [hv]; rfl)
    (by obtain ⟨k9, h9, -⟩ := Vm.findClass_spec hcl; exact ⟨k9, h9⟩) (fun z hz => by
      rcases hpass z hz with h | ⟨hz0, nm, hl1, hn1⟩
      · exact Or.inl h
      · obtain ⟨c6, hc6, hcl6⟩ := Cond.classLink_spec hown hl1 e.platform hpl
        obtain ⟨a8, b8, h1, h2, h3⟩ := hn1
        cases Option.some.inj (h1.symm.trans hcl)
        cases Option.some.inj (h2.symm.trans hc6)
        exact Or.inr ⟨hz0, _, hcl6, h3⟩)
  obtain ⟨g₀, hfr⟩ := X'.frames_eq
  have hcell9 : ((T.setVm vm').setFrames (.throwing q :: below)).heap[q]? = some ce := by
    show T.heap[q]? = some ce
    rw [hT]; exact hcell
  have hend : Ended ((T.setVm vm').setFrames (.throwing q :: below)) below (.threw q) := State.frames_setFrames _ (State.cur_lt_of_frames hfr)
  refine ⟨(T.setVm vm').setFrames (.throwing q :: below), ?_, .threw q, X'.here.running, hend, Or.inr ⟨q, rfl, E, ce, locs, hx _ hT (X'.ends _).1.alike, hcell9, hv, hcl, (X'.ends _).1, (X'.ends _).2.mono hc hs, hf⟩⟩
  rw [X.pushThrowing_eq]
  exact st
/-- a thing of a world lies in the heap -/
theorem vx_lt {D : va_G} {cl : List vw_C} {ws : va_W} {H1 : Heap} (h : va_P D cl ws H1) {k : Nat} {q : Nat × va_E} (hk : ws[k]? = some q) : q.1 < H1.size := (h k q hk).lt
end VXS
/-! ===== END ===== -/
/-! ===== BEGIN methods with a table of their own: called by a name, returning or throwing ===== -/
section VXH
/-! vx_backW, vx_callVX, vx_callSX, vx_callVW, vx_runVW, vx_runVX, vx_runSX, vx_ofWH follow the same proofs as their sisters above (Free/Laws.lean, Shelf42/LK1.lean); vx_outP calls Shelf42/NT130.lean (outThrough). -/
section
variable {l : Launch} {R : Room} {p : Program} {e : Env} {below : List Frame} {s : State} {sargs : Array Value} {y : MethodName} {len W9 : Nat}
theorem vx_backW {ws : List Cond} {rm : Room} {Pc : Array Value → State → Prop} {Qc : Array Value → State → Outcome → State → Prop} {XC : String → State → State → Prop} {mc ms : Nat} {free : Addr → Prop} {bytes : ByteArray} {maxL : Nat} {ret : Option FieldType} {hh : List (Nat × Nat × Nat × Nat)}
    (hM : vx_Met l y ws rm Pc Qc XC mc ms free) (hblind : FrameBlind Pc) (hrc : rm.cells = mc) (hrs : rm.slots = ms)
    (hframes : rm.frames + 1 ≤ R.frames) (hlocals : W9 + (maxL + 11) + rm.locals ≤ R.locals)
    (hws : ∀ w ∈ ws, ∀ a' U, s.WarmedH U.vm → w.before a' U = true) (hcode : Cond.codeWith y bytes maxL ret hh ∈ ws) (hinit : ∀ a' U, s.WarmedH U.vm → (Cond.initialized y.cls).before a' U = true) :
    vx_Back l R p e below s sargs y len W9 (PreOf R mc ms Pc) (PostOf Qc mc ms free) (vx_Post XC mc ms free) := by
  intro m meth c A g ig mk a X hg hsize hdg hW hn hp
  have h1 : (headSpec ws rm).pre.before a A.U = true := atoms_intro fun w hw => hws w hw _ _ X.warmed
  have h2 : (Cond.codeWith y bytes maxL ret hh).before a A.U = true := hws _ hcode _ _ X.warmed
  have h3 : (Cond.initialized y.cls).before a A.U = true := hinit _ _ X.warmed
  have h4 : A.cells + (headSpec ws rm).room.cells ≤ R.cells := by rw [show (headSpec ws rm).room.cells = mc from hrc]; exact hp.1
  have h5 : A.slots + (headSpec ws rm).room.slots ≤ R.slots := by rw [show (headSpec ws rm).room.slots = ms from hrs]; exact hp.2.1
  have hPc : Pc a (A.U.calling g mk a) := hblind _ _ _ _ hp.2.2
  obtain ⟨U, Ls, c0, s0⟩ := A
  dsimp only [Pt.U, Pt.locs, Pt.cells, Pt.slots] at h1 h2 h3 h4 h5 X hn hPc ⊢
  obtain ⟨m9, methY, cY, hn9, hmY, hcY, -, hlY, -⟩ := Cond.codeWith_spec h2
  cases Option.some.inj (hn9.symm.trans hn)
  obtain ⟨kY, hkY, -⟩ := className_of_methodNamed hn
  have hinitY : kY.init = .initialized := Cond.initialized_spec (findClass_of_methodNamed hn) hkY h3
  have h : At U g.method c below := by rw [hg]; exact X.here
  have hlocals9 : W9 + (maxL + 11) + (headSpec ws rm).room.locals ≤ R.locals := hlocals
  have happ : (headSpec ws rm).appliesLoose y e.platform (U.calling g mk a) = true :=
    Spec.appliesLoose_calling (g := g) h hdg hn hkY hinitY
      (X.room_calling (g := g) (R' := (headSpec ws rm).room) hsize hmY hcY hframes (by rw [hlY]; omega) h4 h5) h1
  obtain ⟨mid, hmid⟩ := h.above
  have hfr : (U.setTop g).frames = (.java g :: mid) ++ below := by rw [State.frames_setTop' g h.top, hmid]; rfl
  obtain ⟨o, s₂, hsteps, -, hend, hq⟩ := Steps.callFree hM p X.admits X.cas X.clock (acts := []) hfr happ hPc trivial
  have hq' : vx_Q Qc XC mc ms free a (U.calling g mk a) o s₂ := hq
  rw [State.frames_setTop' g h.top] at hend
  obtain ⟨g₀, hg0⟩ := Option.isSome_iff_exists.mp h.top
  obtain ⟨r, hr⟩ := State.topJava?_eq_some.mp hg0
  have hr' : (({ U with heap := s₂.heap, slotsUsed := s₂.slotsUsed } : State).setVm s₂.vm).frames = .java g₀ :: r := hr
  rcases hq' with ⟨hqc, L, hfe, hL⟩ | ⟨q, rfl, E, ce, L, hx, hce, hcv, hcl, hW₂, hsm, hL⟩
  · obtain ⟨⟨v, rfl⟩, hW₂, e2, q2, q3, q4, q5, q6⟩ := id hfe
    have e3 : s₂ = ({ (U.calling g mk a).setFrames s₂.frames with heap := s₂.heap, slotsUsed := s₂.slotsUsed } : State).setVm s₂.vm := by
      have : s₂ = ({ s₂ with vm := (U.calling g mk a).vm } : State).setVm s₂.vm := rfl
      rw [e2] at this
      exact this
    obtain ⟨c₂, i₂, len₂, hc₂, hd₂, hf₂⟩ := hend
    have hW' : U.WarmedH s₂.vm := hW₂
    have hcc : c₂ = c := by
      have h1 : s₂.code? g.method = U.code? g.method := by
        rw [State.code?_eq, State.code?_eq, hW'.alike.method?]
      exact Option.some.inj (hc₂.symm.trans (h1.trans h.code))
    subst hcc
    have hlen : len₂ = len := by rw [hdg] at hd₂; cases hd₂; rfl
    subst hlen
    have hs₂ : s₂ = (({ U with heap := s₂.heap, slotsUsed := s₂.slotsUsed } : State).setVm s₂.vm).setTop { g with pc := g.pc + len₂, stack := v.toList ++ g.stack } := by
      refine e3.trans ?_
      rw [hf₂, State.calling_eq h.top, State.setFrames_setFrames, State.setTop_of_frames _ hr', hr]
      rfl
    have hsame : U.sameButNew ({ U with heap := s₂.heap, slotsUsed := s₂.slotsUsed } : State) L mc ms := by
      refine ⟨?_, q2, q3, q4, q5, q6⟩
      obtain ⟨t, ht, -⟩ := State.frames_cons hr
      show ({ U with heap := s₂.heap, slotsUsed := s₂.slotsUsed } : State) = { U.setFrames U.frames with heap := s₂.heap, slotsUsed := s₂.slotsUsed }
      rw [State.setFrames_self ht]
    subst hg
    refine Or.inl ⟨v, ⟨(({ U with heap := s₂.heap, slotsUsed := s₂.slotsUsed } : State).setVm s₂.vm), Ls ++ L, c0 + mc, s0 + ms⟩,
      ⟨X.admits, X.cas, X.clock, X.frames, X.room, X.hears, X.method, X.code, (X.here.setHeapUsed s₂.heap s₂.slotsUsed).setVm hW'.alike, X.tail, State.WarmedH.trans X.warmed hW', X.limits, X.bytes, X.same.trans (hsame.setVm s.vm)⟩,
      ⟨g, mk, s₂, L, rfl, rfl, hqc, rfl, hL, rfl, rfl⟩, ?_⟩
    show Steps p.tables e below _ ((({ U with heap := s₂.heap, slotsUsed := s₂.slotsUsed } : State).setVm s₂.vm).setTop { g with pc := g.pc + len₂, stack := v.toList ++ g.stack })
    rw [← hs₂]
    exact hsteps
  · obtain ⟨e2, q2, q3, q4, q5, q6⟩ := id hsm
    have e3 : s₂ = ({ (U.calling g mk a).setFrames s₂.frames with heap := s₂.heap, slotsUsed := s₂.slotsUsed } : State).setVm s₂.vm := by
      have : s₂ = ({ s₂ with vm := (U.calling g mk a).vm } : State).setVm s₂.vm := rfl
      rw [e2] at this
      exact this
    have hf₂ : s₂.frames = .throwing q :: .java g :: U.frames.tail := hend
    have hW' : U.WarmedH s₂.vm := hW₂
    have hs₂ : s₂ = ((({ U with heap := s₂.heap, slotsUsed := s₂.slotsUsed } : State).setVm s₂.vm).setTop g).pushFrame (.throwing q) := by
      refine e3.trans ?_
      rw [hf₂, State.calling_eq h.top, State.setFrames_setFrames, State.pushFrame, State.frames_setTop _ hr', State.setTop_of_frames _ hr', State.setFrames_setFrames, hr]
      rfl
    have hsame : U.sameButNew ({ U with heap := s₂.heap, slotsUsed := s₂.slotsUsed } : State) L mc ms := by
      refine ⟨?_, q2, q3, q4, q5, q6⟩
      obtain ⟨t, ht, -⟩ := State.frames_cons hr
      show ({ U with heap := s₂.heap, slotsUsed := s₂.slotsUsed } : State) = { U.setFrames U.frames with heap := s₂.heap, slotsUsed := s₂.slotsUsed }
      rw [State.setFrames_self ht]
    subst hg
    refine Or.inr ⟨q, ⟨(({ U with heap := s₂.heap, slotsUsed := s₂.slotsUsed } : State).setVm s₂.vm), Ls ++ L, c0 + mc, s0 + ms⟩,
      ⟨X.admits, X.cas, X.clock, X.frames, X.room, X.hears, X.method, X.code, (X.here.setHeapUsed s₂.heap s₂.slotsUsed).setVm hW'.alike, X.tail, State.WarmedH.trans X.warmed hW', X.limits, X.bytes, X.same.trans (hsame.setVm s.vm)⟩,
      ⟨g, mk, s₂, L, E, ce, rfl, rfl, hx, hce, hcv, hcl, rfl, hL, rfl, rfl⟩, ?_⟩
    show Steps p.tables e below _ (((({ U with heap := s₂.heap, slotsUsed := s₂.slotsUsed } : State).setVm s₂.vm).setTop g).pushFrame (.throwing q))
    rw [← hs₂]
    exact hsteps
end
variable {p : Program} {l : Launch} {e : Env} {R : Room} {s : State} {m : MethodId} {args : Array Value} {below : List Frame} {meth : Method} {c : Code} {T : State} {H : Heap} {locs : List Loc} {cells slots : Nat}
theorem vx_callVX (X : Stand p l e R s m args below meth c T locs cells slots) (hexec : p.tables.exec = Jvm.exec) {own C : String} {index : Nat} {y : MethodName} {bytes : ByteArray} {maxL : Nat} {ret : Option FieldType} {hh : List (Nat × Nat × Nat × Nat)}
    (hown : s.vm.findClass own = some m.cls) (hlink : (Cond.methodLink own index y).before args s = true) (hinst : (Cond.instanceMethod y).before args s = true) (hsel : (Cond.selects C y y).before args s = true)
    (hcode : (Cond.codeWith y bytes maxL ret hh).before args s = true) (hy : y.cls ≠ "java/lang/invoke/MethodHandle" ∧ y.cls ≠ "java/lang/invoke/VarHandle")
    {W9 : Nat} {Pre : Pt → Array Value → Prop} {Post : Pt → Array Value → Option Value → Pt → Prop} {PostX : Pt → Array Value → Addr → Pt → Prop} (hK : vx_Back l R p e below s args y 3 W9 Pre Post PostX)
    {b : Addr} {cellB : Cell} (hcell : T.heap[b]? = some cellB) (hobj : cellB.vm.isStatics = false) (hcls : s.vm.findClass C = some cellB.cls)
    {g : JFrame} (hg : g.method = m) (hsize : g.locals.size = c.maxLocals) {argsL rest : List Value} (hlen : ∀ sig, parseMethodDescriptor y.desc = some sig → argsL.length = sig.parameters.length)
    (hstack : g.stack = argsL.reverse ++ .ref b :: rest) (hW : 2 * g.monitorRoom + (rest.map fun v => v.category).sum ≤ W9) (hdg : decode c.code g.pc = .ok (.invokevirtual index, 3))
    (hpre : ∀ vm₁, s.WarmedH vm₁ → Pre ⟨T.setVm vm₁, locs, cells, slots⟩ (Value.ref b :: argsL).toArray) :
    (∃ (v : Option Value) (vm₁ : Vm) (B : Pt), s.WarmedH vm₁ ∧ Stand p l e R s m args below meth c B.U B.locs B.cells B.slots ∧ Post ⟨T.setVm vm₁, locs, cells, slots⟩ (Value.ref b :: argsL).toArray v B ∧
      ∀ target, Steps p.tables e below (B.U.setTop { g with pc := g.pc + 3, stack := v.toList ++ rest }) target → Steps p.tables e below (T.setTop g) target) ∨
    (∃ (q : Addr) (vm₁ : Vm) (B : Pt), s.WarmedH vm₁ ∧ Stand p l e R s m args below meth c B.U B.locs B.cells B.slots ∧ PostX ⟨T.setVm vm₁, locs, cells, slots⟩ (Value.ref b :: argsL).toArray q B ∧
      Steps p.tables e below (T.setTop g) ((B.U.setTop { g with stack := rest }).pushFrame (.throwing q))) := by
  obtain ⟨mk, methM, hnamed, hmethM, hstM, habM⟩ := Cond.instanceMethod_spec hinst
  obtain ⟨m8, methM', cM, hn8, hmethM', -, -, -, -, -, -, hsigM⟩ := Cond.codeWith_spec hcode
  cases Option.some.inj (hn8.symm.trans hnamed)
  cases hmethM.symm.trans hmethM'
  obtain ⟨c2, r2, m2, q1, q2, q3, q4, kP, hkP, hkPi⟩ := Cond.selects_spec hsel
  cases hcls.symm.trans q1
  cases (State.methodFound?_of_named hnamed hy).symm.trans q2
  cases hnamed.symm.trans q3
  have hselP : selectMethod e.platform s.vm cellB.cls mk = .method mk := by rw [Launch.admits_selectMethod X.admits]; exact q4
  obtain ⟨vm₁, X₁, hstep₁⟩ := X.invokevirtual hexec hown hlink hnamed hmethM hstM hkP hkPi hy (a := b) (cell := cellB) hcell
    (fun z h => by rw [h] at hobj; cases hobj) hselP hmethM habM hkP hkPi (g := g) hg (argsL := argsL) (rest := rest) (hlen _ hsigM) hstack hdg
  rcases hK m meth c ⟨T.setVm vm₁, locs, cells, slots⟩ { g with stack := rest } (.invokevirtual index) mk (Value.ref b :: argsL).toArray X₁ hg hsize hdg hW (X₁.named hnamed) (hpre vm₁ X₁.warmed) with ⟨v, B, X', hpost, hsteps⟩ | ⟨q, B, X', hpost, hsteps⟩
  · exact Or.inl ⟨v, vm₁, B, X₁.warmed, X', hpost, fun target h => hstep₁ _ fun acts => by rw [doInvoke_state]; exact hsteps.trans h⟩
  · exact Or.inr ⟨q, vm₁, B, X₁.warmed, X', hpost, hstep₁ _ fun acts => by rw [doInvoke_state]; exact hsteps⟩
theorem vx_callSX (X : Stand p l e R s m args below meth c T locs cells slots) (hexec : p.tables.exec = Jvm.exec) {own : String} {index : Nat} {y : MethodName} {bytes : ByteArray} {maxL : Nat} {ret : Option FieldType} {hh : List (Nat × Nat × Nat × Nat)}
    (hown : s.vm.findClass own = some m.cls) (hlink : (Cond.methodLink own index y).before args s = true) (hstat : (Cond.static y).before args s = true) (hinit : (Cond.initialized y.cls).before args s = true)
    (hcode : (Cond.codeWith y bytes maxL ret hh).before args s = true) (hy : y.cls ≠ "java/lang/invoke/MethodHandle" ∧ y.cls ≠ "java/lang/invoke/VarHandle")
    {W9 : Nat} {Pre : Pt → Array Value → Prop} {Post : Pt → Array Value → Option Value → Pt → Prop} {PostX : Pt → Array Value → Addr → Pt → Prop} (hK : vx_Back l R p e below s args y 3 W9 Pre Post PostX)
    {g : JFrame} (hg : g.method = m) (hsize : g.locals.size = c.maxLocals) {argsL rest : List Value} (hlen : ∀ sig, parseMethodDescriptor y.desc = some sig → argsL.length = sig.parameters.length)
    (hstack : g.stack = argsL.reverse ++ rest) (hW : 2 * g.monitorRoom + (rest.map fun v => v.category).sum ≤ W9) (hdg : decode c.code g.pc = .ok (.invokestatic index, 3))
    (hpre : ∀ vm₁, s.WarmedH vm₁ → Pre ⟨T.setVm vm₁, locs, cells, slots⟩ argsL.toArray) :
    (∃ (v : Option Value) (vm₁ : Vm) (B : Pt), s.WarmedH vm₁ ∧ Stand p l e R s m args below meth c B.U B.locs B.cells B.slots ∧ Post ⟨T.setVm vm₁, locs, cells, slots⟩ argsL.toArray v B ∧
      ∀ target, Steps p.tables e below (B.U.setTop { g with pc := g.pc + 3, stack := v.toList ++ rest }) target → Steps p.tables e below (T.setTop g) target) ∨
    (∃ (q : Addr) (vm₁ : Vm) (B : Pt), s.WarmedH vm₁ ∧ Stand p l e R s m args below meth c B.U B.locs B.cells B.slots ∧ PostX ⟨T.setVm vm₁, locs, cells, slots⟩ argsL.toArray q B ∧
      Steps p.tables e below (T.setTop g) ((B.U.setTop { g with stack := rest }).pushFrame (.throwing q))) := by
  obtain ⟨mk, methM, cM, hnamed, hmethM, -, -, -, -, -, -, hsigM⟩ := Cond.codeWith_spec hcode
  have hstatic : methM.isStatic = true := Cond.static_spec hnamed hmethM hstat
  obtain ⟨kP, hkP, -⟩ := className_of_methodNamed hnamed
  have hinitP : kP.init = .initialized := Cond.initialized_spec (findClass_of_methodNamed hnamed) hkP hinit
  obtain ⟨vm₁, X₁, hstep₁⟩ := X.invokestatic hexec hown hlink hnamed hmethM hstatic hkP hinitP hy (g := g) hg (argsL := argsL) (rest := rest) (hlen _ hsigM) hstack hdg
  rcases hK m meth c ⟨T.setVm vm₁, locs, cells, slots⟩ { g with stack := rest } (.invokestatic index) mk argsL.toArray X₁ hg hsize hdg hW (X₁.named hnamed) (hpre vm₁ X₁.warmed) with ⟨v, B, X', hpost, hsteps⟩ | ⟨q, B, X', hpost, hsteps⟩
  · exact Or.inl ⟨v, vm₁, B, X₁.warmed, X', hpost, fun target h => hstep₁ _ fun acts => by rw [doInvoke_state]; exact hsteps.trans h⟩
  · exact Or.inr ⟨q, vm₁, B, X₁.warmed, X', hpost, hstep₁ _ fun acts => by rw [doInvoke_state]; exact hsteps⟩
theorem vx_callVW (X : Stand p l e R s m args below meth c T locs cells slots) (hexec : p.tables.exec = Jvm.exec) {own C : String} {index : Nat} {y : MethodName} {bytes : ByteArray} {maxL : Nat} {ret : Option FieldType} {hh : List (Nat × Nat × Nat × Nat)}
    (hown : s.vm.findClass own = some m.cls) (hlink : (Cond.methodLink own index y).before args s = true) (hinst : (Cond.instanceMethod y).before args s = true) (hsel : (Cond.selects C y y).before args s = true)
    (hcode : (Cond.codeWith y bytes maxL ret hh).before args s = true) (hy : y.cls ≠ "java/lang/invoke/MethodHandle" ∧ y.cls ≠ "java/lang/invoke/VarHandle")
    {W9 : Nat} {Pre : Pt → Array Value → Prop} {Post : Pt → Array Value → Option Value → Pt → Prop} (hK : Back l R p e below s args y 3 W9 Pre Post)
    {b : Addr} {cellB : Cell} (hcell : T.heap[b]? = some cellB) (hobj : cellB.vm.isStatics = false) (hcls : s.vm.findClass C = some cellB.cls)
    {g : JFrame} (hg : g.method = m) (hsize : g.locals.size = c.maxLocals) {argsL rest : List Value} (hlen : ∀ sig, parseMethodDescriptor y.desc = some sig → argsL.length = sig.parameters.length)
    (hstack : g.stack = argsL.reverse ++ .ref b :: rest) (hW : 2 * g.monitorRoom + (rest.map fun v => v.category).sum ≤ W9) (hdg : decode c.code g.pc = .ok (.invokevirtual index, 3))
    (hpre : ∀ vm₁, s.WarmedH vm₁ → Pre ⟨T.setVm vm₁, locs, cells, slots⟩ (Value.ref b :: argsL).toArray) :
    ∃ (v : Option Value) (vm₁ : Vm) (B : Pt), s.WarmedH vm₁ ∧ Stand p l e R s m args below meth c B.U B.locs B.cells B.slots ∧ Post ⟨T.setVm vm₁, locs, cells, slots⟩ (Value.ref b :: argsL).toArray v B ∧
      ∀ target, Steps p.tables e below (B.U.setTop { g with pc := g.pc + 3, stack := v.toList ++ rest }) target → Steps p.tables e below (T.setTop g) target := by
  obtain ⟨mk, methM, hnamed, hmethM, hstM, habM⟩ := Cond.instanceMethod_spec hinst
  obtain ⟨m8, methM', cM, hn8, hmethM', -, -, -, -, -, -, hsigM⟩ := Cond.codeWith_spec hcode
  cases Option.some.inj (hn8.symm.trans hnamed)
  cases hmethM.symm.trans hmethM'
  obtain ⟨c2, r2, m2, q1, q2, q3, q4, kP, hkP, hkPi⟩ := Cond.selects_spec hsel
  cases hcls.symm.trans q1
  cases (State.methodFound?_of_named hnamed hy).symm.trans q2
  cases hnamed.symm.trans q3
  have hselP : selectMethod e.platform s.vm cellB.cls mk = .method mk := by rw [Launch.admits_selectMethod X.admits]; exact q4
  obtain ⟨vm₁, X₁, hstep₁⟩ := X.invokevirtual hexec hown hlink hnamed hmethM hstM hkP hkPi hy (a := b) (cell := cellB) hcell
    (fun z h => by rw [h] at hobj; cases hobj) hselP hmethM habM hkP hkPi (g := g) hg (argsL := argsL) (rest := rest) (hlen _ hsigM) hstack hdg
  obtain ⟨v, B, X', hpost, hsteps⟩ := hK m meth c ⟨T.setVm vm₁, locs, cells, slots⟩ { g with stack := rest } (.invokevirtual index) mk (Value.ref b :: argsL).toArray X₁ hg hsize hdg hW (X₁.named hnamed) (hpre vm₁ X₁.warmed)
  exact ⟨v, vm₁, B, X₁.warmed, X', hpost, fun target h => hstep₁ _ fun acts => by rw [doInvoke_state]; exact hsteps.trans h⟩
abbrev vx_CVW (R : Room) (s : State) (args : Array Value) (own C : String) (index : Nat) (y : MethodName) (bytes : ByteArray) (maxL : Nat) (ret : Option FieldType) (hh : List (Nat × Nat × Nat × Nat)) (ws : List Cond) (rm : Room) (mc ms n : Nat) : Prop :=
  (rm.cells = mc ∧ rm.slots = ms ∧ rm.frames + 1 ≤ R.frames ∧ 8 + (maxL + 11) + rm.locals ≤ R.locals ∧ (∀ w ∈ ws, ∀ (a' : Array Value) (U : State), s.WarmedH U.vm → w.before a' U = true) ∧ Cond.codeWith y bytes maxL ret hh ∈ ws) ∧
  (Cond.codeWith y bytes maxL ret hh).before args s = true ∧ (Cond.initialized y.cls).before args s = true ∧ (y.cls ≠ "java/lang/invoke/MethodHandle" ∧ y.cls ≠ "java/lang/invoke/VarHandle") ∧
  (∀ sig, parseMethodDescriptor y.desc = some sig → n = sig.parameters.length) ∧ (Cond.methodLink own index y).before args s = true ∧ (Cond.instanceMethod y).before args s = true ∧ (Cond.selects C y y).before args s = true
theorem vx_cwVW {own C : String} {index maxL mc ms : Nat} {y : MethodName} {bytes : ByteArray} {ret : Option FieldType} {hh : List (Nat × Nat × Nat × Nat)} {Ts ws ws' : List Cond} {rm : Room} (n : Nat) (ht : ∀ w ∈ Ts, w.before args s = true) (hT : GoodIn Ts (wsV own index C y ws)) (hw : ws = Cond.codeWith y bytes maxL ret hh :: ws') (hrc : rm.cells = mc) (hrs : rm.slots = ms)
    (hd : y.cls = C ∧ y.cls ≠ "java/lang/invoke/MethodHandle" ∧ y.cls ≠ "java/lang/invoke/VarHandle" ∧ (parseMethodDescriptor y.desc).map (fun d => d.parameters.length) = some n) (hR : rm.frames + 1 ≤ R.frames ∧ 8 + (maxL + 11) + rm.locals ≤ R.locals) :
    vx_CVW R s args own C index y bytes maxL ret hh ws rm mc ms n := by
  obtain ⟨hC, hd⟩ := hd
  subst hC
  have ok : ∀ w ∈ wsV own index y.cls y ws, w.before args s = true := fun w h => ht w (hT w h).1
  have hG : GoodIn Ts ws := fun w h => hT w (by unfold wsV; exact List.mem_append_right _ h)
  have hc : Cond.codeWith y bytes maxL ret hh ∈ ws := by rw [hw]; exact List.mem_cons_self
  refine ⟨⟨hrc, hrs, hR.1, hR.2, pay_in ht hG, hc⟩, ht _ (hG _ hc).1, ok _ (by simp [wsV]), ⟨hd.1, hd.2.1⟩, fun sig h => ?_, ok _ (by simp [wsV]), ok _ (by simp [wsV]), ok _ (by simp [wsV])⟩
  have h2 := hd.2.2
  rw [h] at h2
  exact (Option.some.inj h2).symm
theorem vx_runVW {y : MethodName} {bytes cc : ByteArray} {maxL nL mc ms n index : Nat} {ret : Option FieldType} {hh : List (Nat × Nat × Nat × Nat)} {ws : List Cond} {rm : Room} {Pc : Array Value → State → Prop} {Qc : Array Value → State → Outcome → State → Prop} {free : Addr → Prop} {Ts : List Cond} {own C : String} {b : Addr} {As rest : List Value} {g : JFrame}
    (S : CallFix p m c cc nL s args Ts own) (hM : Met l y ws rm Pc Qc mc ms free) (cw : vx_CVW R s args own C index y bytes maxL ret hh ws rm mc ms n) (hp : PreV s H C b Pc As)
    (hg : g.method = m) (hn : As.length = n) (hsize : g.locals.size = nL) (hstack : g.stack = As.reverse ++ .ref b :: rest) (hW : 2 * g.monitorRoom + (rest.map fun v => v.category).sum ≤ 8) (hdg : decode cc g.pc = .ok (.invokevirtual index, 3)) (hf : cells + mc ≤ R.cells ∧ slots + ms ≤ R.slots) :
    va_Run p l e R s m args below meth c H locs cells slots mc ms g rest (Qc (Value.ref b :: As).toArray) free := by
  obtain ⟨⟨hrc, hrs, hfr, hlo, hws, hcw⟩, hcode, hini, hy, hlen, hl, hin, hse⟩ := cw
  have hK : Back l R p e below s args y 3 8 (PreOf R mc ms Pc) (PostOf Qc mc ms free) := va_backW (hh := hh) (bytes := bytes) (maxL := maxL) (ret := ret) hM hp.1 hrc hrs hfr hlo hws hcw (fun a' U hW => word_at hW (Or.inl (by first | rfl | simp [Cond.onTables, Cond.keeps, Cond.steady])) hini)
  obtain ⟨hx, hb, hml, ho, -⟩ := S
  obtain ⟨-, ⟨cellB, hcB, hoB, hclB⟩, hPc⟩ := hp
  intro T hT X
  obtain ⟨v, vm₁, ⟨U', l2, c2, s2⟩, hW₁, X', ⟨g', mk, t, L, e1, e2, hq, h1, hL, h2, h3⟩, st⟩ := vx_callVW X hx (C := C) (hh := hh) (bytes := bytes) (maxL := maxL) (ret := ret) ho hl hin hse hcode hy hK (by rw [hT]; exact hcB) hoB hclB hg (hsize.trans hml.symm) (argsL := As) (rest := rest) (fun sig h => hn.trans (hlen sig h)) hstack hW (by rw [hb]; exact hdg)
    (fun vm₁ hW₁ => ⟨hf.1, hf.2, hPc (T.setVm vm₁) hT hW₁⟩)
  dsimp only [Pt.U, Pt.locs, Pt.cells, Pt.slots] at X' e1 e2 h1 h2 h3 st
  subst h1; subst h2; subst h3
  exact ⟨v, (T.setVm vm₁).calling g' mk (Value.ref b :: As).toArray, t, U', L, hT, X', hL, e1, e2, hq, st⟩
section
variable {y : MethodName} {bytes cc : ByteArray} {maxL nL mc ms n index : Nat} {ret : Option FieldType} {ws : List Cond} {rm : Room} {Pc : Array Value → State → Prop} {Qc : Array Value → State → Outcome → State → Prop} {XC : String → State → State → Prop} {free : Addr → Prop} {Ts : List Cond} {own C : String} {b : Addr} {As rest : List Value} {g : JFrame}
theorem vx_runVX {hh : List (Nat × Nat × Nat × Nat)} (S : CallFix p m c cc nL s args Ts own) (hM : vx_Met l y ws rm Pc Qc XC mc ms free) (cw : vx_CVW R s args own C index y bytes maxL ret hh ws rm mc ms n) (hp : PreV s H C b Pc As)
    (hg : g.method = m) (hn : As.length = n) (hsize : g.locals.size = nL) (hstack : g.stack = As.reverse ++ .ref b :: rest) (hW : 2 * g.monitorRoom + (rest.map fun v => v.category).sum ≤ 8) (hdg : decode cc g.pc = .ok (.invokevirtual index, 3)) (hf : cells + mc ≤ R.cells ∧ slots + ms ≤ R.slots) :
    vx_Run p l e R s m args below meth c H locs cells slots mc ms g rest (Qc (Value.ref b :: As).toArray) XC free := by
  obtain ⟨⟨hrc, hrs, hfr, hlo, hws, hcw⟩, hcode, hini, hy, hlen, hl, hin, hse⟩ := cw
  have hK : vx_Back l R p e below s args y 3 8 (PreOf R mc ms Pc) (PostOf Qc mc ms free) (vx_Post XC mc ms free) := vx_backW (hh := hh) (bytes := bytes) (maxL := maxL) (ret := ret) hM hp.1 hrc hrs hfr hlo hws hcw (fun a' U hW => word_at hW (Or.inl (by first | rfl | simp [Cond.onTables, Cond.keeps, Cond.steady])) hini)
  obtain ⟨hx, hb, hml, ho, -⟩ := S
  obtain ⟨-, ⟨cellB, hcB, hoB, hclB⟩, hPc⟩ := hp
  intro T hT X
  rcases vx_callVX X hx (C := C) (hh := hh) (bytes := bytes) (maxL := maxL) (ret := ret) ho hl hin hse hcode hy hK (by rw [hT]; exact hcB) hoB hclB hg (hsize.trans hml.symm) (argsL := As) (rest := rest) (fun sig h => hn.trans (hlen sig h)) hstack hW (by rw [hb]; exact hdg)
    (fun vm₁ hW₁ => ⟨hf.1, hf.2, hPc (T.setVm vm₁) hT hW₁⟩) with ⟨v, vm₁, ⟨U', l2, c2, s2⟩, hW₁, X', ⟨g', mk, t, L, e1, e2, hq, h1, hL, h2, h3⟩, st⟩ | ⟨q, vm₁, ⟨U', l2, c2, s2⟩, hW₁, X', ⟨g', mk, t, L, E, ce, e1, e2, hq, hce, hcv, hcl, h1, hL, h2, h3⟩, st⟩
  · dsimp only [Pt.U, Pt.locs, Pt.cells, Pt.slots] at X' e1 e2 h1 h2 h3 st
    subst h1; subst h2; subst h3
    exact Or.inl ⟨v, (T.setVm vm₁).calling g' mk (Value.ref b :: As).toArray, t, U', L, hT, X', hL, e1, e2, hq, st⟩
  · dsimp only [Pt.U, Pt.locs, Pt.cells, Pt.slots] at X' e1 e2 h1 h2 h3 st hcl
    subst h1; subst h2; subst h3
    exact Or.inr ⟨q, (T.setVm vm₁).calling g' mk (Value.ref b :: As).toArray, t, U', L, E, ce, hT, X', hL, e1, e2, hq, hce, hcv, vx_cls hW₁ hcl, st⟩
theorem vx_runSX {hh : List (Nat × Nat × Nat × Nat)} (S : CallFix p m c cc nL s args Ts own) (hM : vx_Met l y ws rm Pc Qc XC mc ms free) (cw : vx_CSW R s args own index y bytes maxL ret hh ws rm mc ms n) (hp : PreS s H Pc As)
    (hg : g.method = m) (hn : As.length = n) (hsize : g.locals.size = nL) (hstack : g.stack = As.reverse ++ rest) (hW : 2 * g.monitorRoom + (rest.map fun v => v.category).sum ≤ 8) (hdg : decode cc g.pc = .ok (.invokestatic index, 3)) (hf : cells + mc ≤ R.cells ∧ slots + ms ≤ R.slots) :
    vx_Run p l e R s m args below meth c H locs cells slots mc ms g rest (Qc As.toArray) XC free := by
  obtain ⟨⟨hrc, hrs, hfr, hlo, hws, hcw⟩, hcode, hini, hy, hlen, hl, hstt⟩ := cw
  have hK : vx_Back l R p e below s args y 3 8 (PreOf R mc ms Pc) (PostOf Qc mc ms free) (vx_Post XC mc ms free) := vx_backW (hh := hh) (bytes := bytes) (maxL := maxL) (ret := ret) hM hp.1 hrc hrs hfr hlo hws hcw (fun a' U hW => word_at hW (Or.inl (by first | rfl | simp [Cond.onTables, Cond.keeps, Cond.steady])) hini)
  obtain ⟨hx, hb, hml, ho, -⟩ := S
  intro T hT X
  rcases vx_callSX X hx (hh := hh) (bytes := bytes) (maxL := maxL) (ret := ret) ho hl hstt hini hcode hy hK hg (hsize.trans hml.symm) (argsL := As) (rest := rest) (fun sig h => hn.trans (hlen sig h)) hstack hW (by rw [hb]; exact hdg)
    (fun vm₁ hW₁ => ⟨hf.1, hf.2, hp.2 (T.setVm vm₁) hT hW₁⟩) with ⟨v, vm₁, ⟨U', l2, c2, s2⟩, hW₁, X', ⟨g', mk, t, L, e1, e2, hq, h1, hL, h2, h3⟩, st⟩ | ⟨q, vm₁, ⟨U', l2, c2, s2⟩, hW₁, X', ⟨g', mk, t, L, E, ce, e1, e2, hq, hce, hcv, hcl, h1, hL, h2, h3⟩, st⟩
  · dsimp only [Pt.U, Pt.locs, Pt.cells, Pt.slots] at X' e1 e2 h1 h2 h3 st
    subst h1; subst h2; subst h3
    exact Or.inl ⟨v, (T.setVm vm₁).calling g' mk As.toArray, t, U', L, hT, X', hL, e1, e2, hq, st⟩
  · dsimp only [Pt.U, Pt.locs, Pt.cells, Pt.slots] at X' e1 e2 h1 h2 h3 st hcl
    subst h1; subst h2; subst h3
    exact Or.inr ⟨q, (T.setVm vm₁).calling g' mk As.toArray, t, U', L, E, ce, hT, X', hL, e1, e2, hq, hce, hcv, vx_cls hW₁ hcl, st⟩
end
end VXH
theorem vx_ofWH {l : Launch} {y : MethodName} {ws ws' : List Cond} {rm : Room} {Pc : Array Value → State → Prop} {Qc : Array Value → State → Outcome → State → Prop} {XC : String → State → State → Prop} {mc ms : Nat} {free : Addr → Prop} {cc : ByteArray} {maxL : Nat} {ret : Option FieldType} {hh : List (Nat × Nat × Nat × Nat)}
    (hy : plainName y.cls = true) (hw : ws = Cond.codeWith y cc maxL ret hh :: ws')
    (body : ∀ p e s m args below meth c s₁, BodyLoose p l y (headSpec ws rm) cc maxL ret e s m args below meth c s₁ → c.maxLocals = maxL → Pc args s →
      W p l e (headSpec ws rm).room s m args below meth c s.heap [] 0 0 (vx_MQ below Qc XC args s mc ms free) (entryFrame m args maxL)) : vx_Met l y ws rm Pc Qc XC mc ms free := by
  refine MetFree.of_bodyS (code := cc) (maxLocals := maxL) (ret := ret) hy ?_ ?_
  · intro args s m h hn
    obtain ⟨m9, meth, c, hn9, h1, h2, h3, h4, -, h5, h6, -⟩ := Cond.codeWith_spec (atoms_spec (ws := ws) h _ (by rw [hw]; exact List.mem_cons_self))
    cases hn.symm.trans hn9
    exact ⟨meth, c, h1, h2, h3, h4, h5, h6⟩
  · intro p e s m args below meth c s₁ B hml hP _
    have hh0 : s₁.heap = s.heap := by rw [B.state]; rfl
    obtain ⟨t, a1, o, b1, b2, b3⟩ := body p e s m args below meth c s₁ B hml hP s₁ hh0 (Stand.of_body B)
    exact ⟨t, o, a1, b1, b2, b3⟩
/-! ===== END ===== -/
end
section
theorem dX0_init_0 : decode cX0_init 0 = .ok (.aload_n 0, 1) := by decide +kernel
theorem dX0_init_1 : decode cX0_init 1 = .ok (.invokespecial 1, 3) := by decide +kernel
theorem dX0_init_4 : decode cX0_init 4 = .ok (.aload_n 0, 1) := by decide +kernel
theorem dX0_init_5 : decode cX0_init 5 = .ok (.aload_n 1, 1) := by decide +kernel
theorem dX0_init_6 : decode cX0_init 6 = .ok (.putfield 7, 3) := by decide +kernel
theorem dX0_init_9 : decode cX0_init 9 = .ok (.aload_n 0, 1) := by decide +kernel
theorem dX0_init_10 : decode cX0_init 10 = .ok (.dload_n 2, 1) := by decide +kernel
theorem dX0_init_11 : decode cX0_init 11 = .ok (.putfield 13, 3) := by decide +kernel
theorem dX0_init_14 : decode cX0_init 14 = .ok (.return_, 1) := by decide +kernel
theorem dX1_init_0 : decode cX1_init 0 = .ok (.aload_n 0, 1) := by decide +kernel
theorem dX1_init_1 : decode cX1_init 1 = .ok (.invokespecial 3, 3) := by decide +kernel
theorem dX1_init_4 : decode cX1_init 4 = .ok (.aload_n 0, 1) := by decide +kernel
theorem dX1_init_5 : decode cX1_init 5 = .ok (.new 9, 3) := by decide +kernel
theorem dX1_init_8 : decode cX1_init 8 = .ok (.dup, 1) := by decide +kernel
theorem dX1_init_9 : decode cX1_init 9 = .ok (.invokespecial 11, 3) := by decide +kernel
theorem dX1_init_12 : decode cX1_init 12 = .ok (.putfield 12, 3) := by decide +kernel
theorem dX1_init_15 : decode cX1_init 15 = .ok (.aload_n 0, 1) := by decide +kernel
theorem dX1_init_16 : decode cX1_init 16 = .ok (.new 9, 3) := by decide +kernel
theorem dX1_init_19 : decode cX1_init 19 = .ok (.dup, 1) := by decide +kernel
theorem dX1_init_20 : decode cX1_init 20 = .ok (.invokespecial 11, 3) := by decide +kernel
theorem dX1_init_23 : decode cX1_init 23 = .ok (.putfield 18, 3) := by decide +kernel
theorem dX1_init_26 : decode cX1_init 26 = .ok (.aload_n 0, 1) := by decide +kernel
theorem dX1_init_27 : decode cX1_init 27 = .ok (.iconst 0, 1) := by decide +kernel
theorem dX1_init_28 : decode cX1_init 28 = .ok (.putfield 21, 3) := by decide +kernel
theorem dX1_init_31 : decode cX1_init 31 = .ok (.aload_n 0, 1) := by decide +kernel
theorem dX1_init_32 : decode cX1_init 32 = .ok (.iconst (-1), 1) := by decide +kernel
theorem dX1_init_33 : decode cX1_init 33 = .ok (.putfield 25, 3) := by decide +kernel
theorem dX1_init_36 : decode cX1_init 36 = .ok (.aload_n 0, 1) := by decide +kernel
theorem dX1_init_37 : decode cX1_init 37 = .ok (.ldc2_w 28, 3) := by decide +kernel
theorem dX1_init_40 : decode cX1_init 40 = .ok (.putfield 30, 3) := by decide +kernel
theorem dX1_init_43 : decode cX1_init 43 = .ok (.aload_n 0, 1) := by decide +kernel
theorem dX1_init_44 : decode cX1_init 44 = .ok (.iload_n 1, 1) := by decide +kernel
theorem dX1_init_45 : decode cX1_init 45 = .ok (.putfield 34, 3) := by decide +kernel
theorem dX1_init_48 : decode cX1_init 48 = .ok (.aload_n 0, 1) := by decide +kernel
theorem dX1_init_49 : decode cX1_init 49 = .ok (.new 37, 3) := by decide +kernel
theorem dX1_init_52 : decode cX1_init 52 = .ok (.dup, 1) := by decide +kernel
theorem dX1_init_53 : decode cX1_init 53 = .ok (.iload_n 2, 1) := by decide +kernel
theorem dX1_init_54 : decode cX1_init 54 = .ok (.invokespecial 39, 3) := by decide +kernel
theorem dX1_init_57 : decode cX1_init 57 = .ok (.putfield 42, 3) := by decide +kernel
theorem dX1_init_60 : decode cX1_init 60 = .ok (.return_, 1) := by decide +kernel
theorem dX2_init_0 : decode cX2_init 0 = .ok (.aload_n 0, 1) := by decide +kernel
theorem dX2_init_1 : decode cX2_init 1 = .ok (.invokespecial 1, 3) := by decide +kernel
theorem dX2_init_4 : decode cX2_init 4 = .ok (.aload_n 0, 1) := by decide +kernel
theorem dX2_init_5 : decode cX2_init 5 = .ok (.iconst 0, 1) := by decide +kernel
theorem dX2_init_6 : decode cX2_init 6 = .ok (.putfield 7, 3) := by decide +kernel
theorem dX2_init_9 : decode cX2_init 9 = .ok (.aload_n 0, 1) := by decide +kernel
theorem dX2_init_10 : decode cX2_init 10 = .ok (.iconst 0, 1) := by decide +kernel
theorem dX2_init_11 : decode cX2_init 11 = .ok (.putfield 13, 3) := by decide +kernel
theorem dX2_init_14 : decode cX2_init 14 = .ok (.aload_n 0, 1) := by decide +kernel
theorem dX2_init_15 : decode cX2_init 15 = .ok (.iload_n 1, 1) := by decide +kernel
theorem dX2_init_16 : decode cX2_init 16 = .ok (.putfield 16, 3) := by decide +kernel
theorem dX2_init_19 : decode cX2_init 19 = .ok (.aload_n 0, 1) := by decide +kernel
theorem dX2_init_20 : decode cX2_init 20 = .ok (.aload_n 2, 1) := by decide +kernel
theorem dX2_init_21 : decode cX2_init 21 = .ok (.putfield 19, 3) := by decide +kernel
theorem dX2_init_24 : decode cX2_init 24 = .ok (.aload_n 0, 1) := by decide +kernel
theorem dX2_init_25 : decode cX2_init 25 = .ok (.aload_n 3, 1) := by decide +kernel
theorem dX2_init_26 : decode cX2_init 26 = .ok (.putfield 23, 3) := by decide +kernel
theorem dX2_init_29 : decode cX2_init 29 = .ok (.aload_n 0, 1) := by decide +kernel
theorem dX2_init_30 : decode cX2_init 30 = .ok (.dload 4, 2) := by decide +kernel
theorem dX2_init_32 : decode cX2_init 32 = .ok (.putfield 26, 3) := by decide +kernel
theorem dX2_init_35 : decode cX2_init 35 = .ok (.return_, 1) := by decide +kernel
theorem dX3_init_0 : decode cX3_init 0 = .ok (.aload_n 0, 1) := by decide +kernel
theorem dX3_init_1 : decode cX3_init 1 = .ok (.invokespecial 1, 3) := by decide +kernel
theorem dX3_init_4 : decode cX3_init 4 = .ok (.aload_n 0, 1) := by decide +kernel
theorem dX3_init_5 : decode cX3_init 5 = .ok (.iconst 0, 1) := by decide +kernel
theorem dX3_init_6 : decode cX3_init 6 = .ok (.putfield 7, 3) := by decide +kernel
theorem dX3_init_9 : decode cX3_init 9 = .ok (.aload_n 0, 1) := by decide +kernel
theorem dX3_init_10 : decode cX3_init 10 = .ok (.iload_n 1, 1) := by decide +kernel
theorem dX3_init_11 : decode cX3_init 11 = .ok (.newarray .double, 2) := by decide +kernel
theorem dX3_init_13 : decode cX3_init 13 = .ok (.putfield 13, 3) := by decide +kernel
theorem dX3_init_16 : decode cX3_init 16 = .ok (.aload_n 0, 1) := by decide +kernel
theorem dX3_init_17 : decode cX3_init 17 = .ok (.iload_n 1, 1) := by decide +kernel
theorem dX3_init_18 : decode cX3_init 18 = .ok (.anewarray 17, 3) := by decide +kernel
theorem dX3_init_21 : decode cX3_init 21 = .ok (.putfield 19, 3) := by decide +kernel
theorem dX3_init_24 : decode cX3_init 24 = .ok (.aload_n 0, 1) := by decide +kernel
theorem dX3_init_25 : decode cX3_init 25 = .ok (.iload_n 1, 1) := by decide +kernel
theorem dX3_init_26 : decode cX3_init 26 = .ok (.newarray .int, 2) := by decide +kernel
theorem dX3_init_28 : decode cX3_init 28 = .ok (.putfield 23, 3) := by decide +kernel
theorem dX3_init_31 : decode cX3_init 31 = .ok (.aload_n 0, 1) := by decide +kernel
theorem dX3_init_32 : decode cX3_init 32 = .ok (.iload_n 1, 1) := by decide +kernel
theorem dX3_init_33 : decode cX3_init 33 = .ok (.newarray .int, 2) := by decide +kernel
theorem dX3_init_35 : decode cX3_init 35 = .ok (.putfield 27, 3) := by decide +kernel
theorem dX3_init_38 : decode cX3_init 38 = .ok (.return_, 1) := by decide +kernel
theorem dX4_init_0 : decode cX4_init 0 = .ok (.aload_n 0, 1) := by decide +kernel
theorem dX4_init_1 : decode cX4_init 1 = .ok (.invokespecial 3, 3) := by decide +kernel
theorem dX4_init_4 : decode cX4_init 4 = .ok (.aload_n 0, 1) := by decide +kernel
theorem dX4_init_5 : decode cX4_init 5 = .ok (.new 9, 3) := by decide +kernel
theorem dX4_init_8 : decode cX4_init 8 = .ok (.dup, 1) := by decide +kernel
theorem dX4_init_9 : decode cX4_init 9 = .ok (.invokespecial 11, 3) := by decide +kernel
theorem dX4_init_12 : decode cX4_init 12 = .ok (.putfield 12, 3) := by decide +kernel
theorem dX4_init_15 : decode cX4_init 15 = .ok (.aload_n 0, 1) := by decide +kernel
theorem dX4_init_16 : decode cX4_init 16 = .ok (.new 9, 3) := by decide +kernel
theorem dX4_init_19 : decode cX4_init 19 = .ok (.dup, 1) := by decide +kernel
theorem dX4_init_20 : decode cX4_init 20 = .ok (.invokespecial 11, 3) := by decide +kernel
theorem dX4_init_23 : decode cX4_init 23 = .ok (.putfield 16, 3) := by decide +kernel
theorem dX4_init_26 : decode cX4_init 26 = .ok (.aload_n 0, 1) := by decide +kernel
theorem dX4_init_27 : decode cX4_init 27 = .ok (.new 9, 3) := by decide +kernel
theorem dX4_init_30 : decode cX4_init 30 = .ok (.dup, 1) := by decide +kernel
theorem dX4_init_31 : decode cX4_init 31 = .ok (.invokespecial 11, 3) := by decide +kernel
theorem dX4_init_34 : decode cX4_init 34 = .ok (.putfield 19, 3) := by decide +kernel
theorem dX4_init_37 : decode cX4_init 37 = .ok (.aload_n 0, 1) := by decide +kernel
theorem dX4_init_38 : decode cX4_init 38 = .ok (.new 9, 3) := by decide +kernel
theorem dX4_init_41 : decode cX4_init 41 = .ok (.dup, 1) := by decide +kernel
theorem dX4_init_42 : decode cX4_init 42 = .ok (.invokespecial 11, 3) := by decide +kernel
theorem dX4_init_45 : decode cX4_init 45 = .ok (.putfield 22, 3) := by decide +kernel
theorem dX4_init_48 : decode cX4_init 48 = .ok (.aload_n 0, 1) := by decide +kernel
theorem dX4_init_49 : decode cX4_init 49 = .ok (.new 9, 3) := by decide +kernel
theorem dX4_init_52 : decode cX4_init 52 = .ok (.dup, 1) := by decide +kernel
theorem dX4_init_53 : decode cX4_init 53 = .ok (.invokespecial 11, 3) := by decide +kernel
theorem dX4_init_56 : decode cX4_init 56 = .ok (.putfield 25, 3) := by decide +kernel
theorem dX4_init_59 : decode cX4_init 59 = .ok (.aload_n 0, 1) := by decide +kernel
theorem dX4_init_60 : decode cX4_init 60 = .ok (.new 9, 3) := by decide +kernel
theorem dX4_init_63 : decode cX4_init 63 = .ok (.dup, 1) := by decide +kernel
theorem dX4_init_64 : decode cX4_init 64 = .ok (.invokespecial 11, 3) := by decide +kernel
theorem dX4_init_67 : decode cX4_init 67 = .ok (.putfield 28, 3) := by decide +kernel
theorem dX4_init_70 : decode cX4_init 70 = .ok (.aload_n 0, 1) := by decide +kernel
theorem dX4_init_71 : decode cX4_init 71 = .ok (.bipush 10, 2) := by decide +kernel
theorem dX4_init_73 : decode cX4_init 73 = .ok (.newarray .int, 2) := by decide +kernel
theorem dX4_init_75 : decode cX4_init 75 = .ok (.putfield 31, 3) := by decide +kernel
theorem dX4_init_78 : decode cX4_init 78 = .ok (.aload_n 0, 1) := by decide +kernel
theorem dX4_init_79 : decode cX4_init 79 = .ok (.new 35, 3) := by decide +kernel
theorem dX4_init_82 : decode cX4_init 82 = .ok (.dup, 1) := by decide +kernel
theorem dX4_init_83 : decode cX4_init 83 = .ok (.iconst (-1), 1) := by decide +kernel
theorem dX4_init_84 : decode cX4_init 84 = .ok (.sipush 320, 3) := by decide +kernel
theorem dX4_init_87 : decode cX4_init 87 = .ok (.invokespecial 37, 3) := by decide +kernel
theorem dX4_init_90 : decode cX4_init 90 = .ok (.putfield 40, 3) := by decide +kernel
theorem dX4_init_93 : decode cX4_init 93 = .ok (.aload_n 0, 1) := by decide +kernel
theorem dX4_init_94 : decode cX4_init 94 = .ok (.new 35, 3) := by decide +kernel
theorem dX4_init_97 : decode cX4_init 97 = .ok (.dup, 1) := by decide +kernel
theorem dX4_init_98 : decode cX4_init 98 = .ok (.bipush 60, 2) := by decide +kernel
theorem dX4_init_100 : decode cX4_init 100 = .ok (.iconst 1, 1) := by decide +kernel
theorem dX4_init_101 : decode cX4_init 101 = .ok (.invokespecial 37, 3) := by decide +kernel
theorem dX4_init_104 : decode cX4_init 104 = .ok (.putfield 44, 3) := by decide +kernel
theorem dX4_init_107 : decode cX4_init 107 = .ok (.aload_n 0, 1) := by decide +kernel
theorem dX4_init_108 : decode cX4_init 108 = .ok (.bipush 8, 2) := by decide +kernel
theorem dX4_init_110 : decode cX4_init 110 = .ok (.newarray .int, 2) := by decide +kernel
theorem dX4_init_112 : decode cX4_init 112 = .ok (.putfield 47, 3) := by decide +kernel
theorem dX4_init_115 : decode cX4_init 115 = .ok (.aload_n 0, 1) := by decide +kernel
theorem dX4_init_116 : decode cX4_init 116 = .ok (.iconst 0, 1) := by decide +kernel
theorem dX4_init_117 : decode cX4_init 117 = .ok (.putfield 50, 3) := by decide +kernel
theorem dX4_init_120 : decode cX4_init 120 = .ok (.aload_n 0, 1) := by decide +kernel
theorem dX4_init_121 : decode cX4_init 121 = .ok (.getfield 31, 3) := by decide +kernel
theorem dX4_init_124 : decode cX4_init 124 = .ok (.iconst (-1), 1) := by decide +kernel
theorem dX4_init_125 : decode cX4_init 125 = .ok (.invokestatic 54, 3) := by decide +kernel
theorem dX4_init_128 : decode cX4_init 128 = .ok (.aload_n 0, 1) := by decide +kernel
theorem dX4_init_129 : decode cX4_init 129 = .ok (.getfield 44, 3) := by decide +kernel
theorem dX4_init_132 : decode cX4_init 132 = .ok (.getfield 60, 3) := by decide +kernel
theorem dX4_init_135 : decode cX4_init 135 = .ok (.iconst 1, 1) := by decide +kernel
theorem dX4_init_136 : decode cX4_init 136 = .ok (.putfield 64, 3) := by decide +kernel
theorem dX4_init_139 : decode cX4_init 139 = .ok (.return_, 1) := by decide +kernel
theorem dX4_pin_0 : decode cX4_pin 0 = .ok (.aload_n 0, 1) := by decide +kernel
theorem dX4_pin_1 : decode cX4_pin 1 = .ok (.getfield 12, 3) := by decide +kernel
theorem dX4_pin_4 : decode cX4_pin 4 = .ok (.invokevirtual 70, 3) := by decide +kernel
theorem dX4_pin_7 : decode cX4_pin 7 = .ok (.bipush 60, 2) := by decide +kernel
theorem dX4_pin_9 : decode cX4_pin 9 = .ok (.if_icmp .lt 13, 3) := by decide +kernel
theorem dX4_pin_12 : decode cX4_pin 12 = .ok (.new 73, 3) := by decide +kernel
theorem dX4_pin_15 : decode cX4_pin 15 = .ok (.dup, 1) := by decide +kernel
theorem dX4_pin_16 : decode cX4_pin 16 = .ok (.ldc 75, 2) := by decide +kernel
theorem dX4_pin_18 : decode cX4_pin 18 = .ok (.invokespecial 77, 3) := by decide +kernel
theorem dX4_pin_21 : decode cX4_pin 21 = .ok (.athrow, 1) := by decide +kernel
theorem dX4_pin_22 : decode cX4_pin 22 = .ok (.new 35, 3) := by decide +kernel
theorem dX4_pin_25 : decode cX4_pin 25 = .ok (.dup, 1) := by decide +kernel
theorem dX4_pin_26 : decode cX4_pin 26 = .ok (.aload_n 0, 1) := by decide +kernel
theorem dX4_pin_27 : decode cX4_pin 27 = .ok (.getfield 28, 3) := by decide +kernel
theorem dX4_pin_30 : decode cX4_pin 30 = .ok (.invokevirtual 70, 3) := by decide +kernel
theorem dX4_pin_33 : decode cX4_pin 33 = .ok (.sipush 320, 3) := by decide +kernel
theorem dX4_pin_36 : decode cX4_pin 36 = .ok (.invokespecial 37, 3) := by decide +kernel
theorem dX4_pin_39 : decode cX4_pin 39 = .ok (.astore_n 1, 1) := by decide +kernel
theorem dX4_pin_40 : decode cX4_pin 40 = .ok (.aload_n 0, 1) := by decide +kernel
theorem dX4_pin_41 : decode cX4_pin 41 = .ok (.getfield 28, 3) := by decide +kernel
theorem dX4_pin_44 : decode cX4_pin 44 = .ok (.aload_n 1, 1) := by decide +kernel
theorem dX4_pin_45 : decode cX4_pin 45 = .ok (.invokevirtual 80, 3) := by decide +kernel
theorem dX4_pin_48 : decode cX4_pin 48 = .ok (.pop, 1) := by decide +kernel
theorem dX4_pin_49 : decode cX4_pin 49 = .ok (.aload_n 0, 1) := by decide +kernel
theorem dX4_pin_50 : decode cX4_pin 50 = .ok (.getfield 12, 3) := by decide +kernel
theorem dX4_pin_53 : decode cX4_pin 53 = .ok (.aload_n 1, 1) := by decide +kernel
theorem dX4_pin_54 : decode cX4_pin 54 = .ok (.invokevirtual 80, 3) := by decide +kernel
theorem dX4_pin_57 : decode cX4_pin 57 = .ok (.pop, 1) := by decide +kernel
theorem dX4_pin_58 : decode cX4_pin 58 = .ok (.aload_n 0, 1) := by decide +kernel
theorem dX4_pin_59 : decode cX4_pin 59 = .ok (.iconst 0, 1) := by decide +kernel
theorem dX4_pin_60 : decode cX4_pin 60 = .ok (.putfield 50, 3) := by decide +kernel
theorem dX4_pin_63 : decode cX4_pin 63 = .ok (.aload_n 0, 1) := by decide +kernel
theorem dX4_pin_64 : decode cX4_pin 64 = .ok (.getfield 12, 3) := by decide +kernel
theorem dX4_pin_67 : decode cX4_pin 67 = .ok (.invokevirtual 70, 3) := by decide +kernel
theorem dX4_pin_70 : decode cX4_pin 70 = .ok (.iconst 1, 1) := by decide +kernel
theorem dX4_pin_71 : decode cX4_pin 71 = .ok (.isub, 1) := by decide +kernel
theorem dX4_pin_72 : decode cX4_pin 72 = .ok (.ireturn, 1) := by decide +kernel
theorem dX4_arc_0 : decode cX4_arc 0 = .ok (.iload_n 1, 1) := by decide +kernel
theorem dX4_arc_1 : decode cX4_arc 1 = .ok (.aload_n 0, 1) := by decide +kernel
theorem dX4_arc_2 : decode cX4_arc 2 = .ok (.getfield 12, 3) := by decide +kernel
theorem dX4_arc_5 : decode cX4_arc 5 = .ok (.invokevirtual 70, 3) := by decide +kernel
theorem dX4_arc_8 : decode cX4_arc 8 = .ok (.invokestatic 84, 3) := by decide +kernel
theorem dX4_arc_11 : decode cX4_arc 11 = .ok (.iload_n 2, 1) := by decide +kernel
theorem dX4_arc_12 : decode cX4_arc 12 = .ok (.aload_n 0, 1) := by decide +kernel
theorem dX4_arc_13 : decode cX4_arc 13 = .ok (.getfield 12, 3) := by decide +kernel
theorem dX4_arc_16 : decode cX4_arc 16 = .ok (.invokevirtual 70, 3) := by decide +kernel
theorem dX4_arc_19 : decode cX4_arc 19 = .ok (.invokestatic 84, 3) := by decide +kernel
theorem dX4_arc_22 : decode cX4_arc 22 = .ok (.aload_n 0, 1) := by decide +kernel
theorem dX4_arc_23 : decode cX4_arc 23 = .ok (.getfield 16, 3) := by decide +kernel
theorem dX4_arc_26 : decode cX4_arc 26 = .ok (.invokevirtual 70, 3) := by decide +kernel
theorem dX4_arc_29 : decode cX4_arc 29 = .ok (.sipush 150, 3) := by decide +kernel
theorem dX4_arc_32 : decode cX4_arc 32 = .ok (.if_icmp .lt 13, 3) := by decide +kernel
theorem dX4_arc_35 : decode cX4_arc 35 = .ok (.new 73, 3) := by decide +kernel
theorem dX4_arc_38 : decode cX4_arc 38 = .ok (.dup, 1) := by decide +kernel
theorem dX4_arc_39 : decode cX4_arc 39 = .ok (.ldc 87, 2) := by decide +kernel
theorem dX4_arc_41 : decode cX4_arc 41 = .ok (.invokespecial 77, 3) := by decide +kernel
theorem dX4_arc_44 : decode cX4_arc 44 = .ok (.athrow, 1) := by decide +kernel
theorem dX4_arc_45 : decode cX4_arc 45 = .ok (.dload_n 3, 1) := by decide +kernel
theorem dX4_arc_46 : decode cX4_arc 46 = .ok (.invokestatic 89, 3) := by decide +kernel
theorem dX4_arc_49 : decode cX4_arc 49 = .ok (.ifCond .ne 13, 3) := by decide +kernel
theorem dX4_arc_52 : decode cX4_arc 52 = .ok (.new 93, 3) := by decide +kernel
theorem dX4_arc_55 : decode cX4_arc 55 = .ok (.dup, 1) := by decide +kernel
theorem dX4_arc_56 : decode cX4_arc 56 = .ok (.ldc 95, 2) := by decide +kernel
theorem dX4_arc_58 : decode cX4_arc 58 = .ok (.invokespecial 97, 3) := by decide +kernel
theorem dX4_arc_61 : decode cX4_arc 61 = .ok (.athrow, 1) := by decide +kernel
theorem dX4_arc_62 : decode cX4_arc 62 = .ok (.aload_n 0, 1) := by decide +kernel
theorem dX4_arc_63 : decode cX4_arc 63 = .ok (.getfield 12, 3) := by decide +kernel
theorem dX4_arc_66 : decode cX4_arc 66 = .ok (.iload_n 1, 1) := by decide +kernel
theorem dX4_arc_67 : decode cX4_arc 67 = .ok (.invokevirtual 98, 3) := by decide +kernel
theorem dX4_arc_70 : decode cX4_arc 70 = .ok (.checkcast 35, 3) := by decide +kernel
theorem dX4_arc_73 : decode cX4_arc 73 = .ok (.astore 5, 2) := by decide +kernel
theorem dX4_arc_75 : decode cX4_arc 75 = .ok (.aload_n 0, 1) := by decide +kernel
theorem dX4_arc_76 : decode cX4_arc 76 = .ok (.getfield 12, 3) := by decide +kernel
theorem dX4_arc_79 : decode cX4_arc 79 = .ok (.iload_n 2, 1) := by decide +kernel
theorem dX4_arc_80 : decode cX4_arc 80 = .ok (.invokevirtual 98, 3) := by decide +kernel
theorem dX4_arc_83 : decode cX4_arc 83 = .ok (.checkcast 35, 3) := by decide +kernel
theorem dX4_arc_86 : decode cX4_arc 86 = .ok (.astore 6, 2) := by decide +kernel
theorem dX4_arc_88 : decode cX4_arc 88 = .ok (.aload_n 0, 1) := by decide +kernel
theorem dX4_arc_89 : decode cX4_arc 89 = .ok (.aload 6, 2) := by decide +kernel
theorem dX4_arc_91 : decode cX4_arc 91 = .ok (.iconst (-1), 1) := by decide +kernel
theorem dX4_arc_92 : decode cX4_arc 92 = .ok (.invokevirtual 102, 3) := by decide +kernel
theorem dX4_arc_95 : decode cX4_arc 95 = .ok (.aload 5, 2) := by decide +kernel
theorem dX4_arc_97 : decode cX4_arc 97 = .ok (.getfield 106, 3) := by decide +kernel
theorem dX4_arc_100 : decode cX4_arc 100 = .ok (.dconst 0, 1) := by decide +kernel
theorem dX4_arc_101 : decode cX4_arc 101 = .ok (.dcmp .l, 1) := by decide +kernel
theorem dX4_arc_102 : decode cX4_arc 102 = .ok (.ifCond .lt 13, 3) := by decide +kernel
theorem dX4_arc_105 : decode cX4_arc 105 = .ok (.new 93, 3) := by decide +kernel
theorem dX4_arc_108 : decode cX4_arc 108 = .ok (.dup, 1) := by decide +kernel
theorem dX4_arc_109 : decode cX4_arc 109 = .ok (.ldc 110, 2) := by decide +kernel
theorem dX4_arc_111 : decode cX4_arc 111 = .ok (.invokespecial 97, 3) := by decide +kernel
theorem dX4_arc_114 : decode cX4_arc 114 = .ok (.athrow, 1) := by decide +kernel
theorem dX4_arc_115 : decode cX4_arc 115 = .ok (.aload_n 0, 1) := by decide +kernel
theorem dX4_arc_116 : decode cX4_arc 116 = .ok (.invokevirtual 112, 3) := by decide +kernel
theorem dX4_arc_119 : decode cX4_arc 119 = .ok (.new 115, 3) := by decide +kernel
theorem dX4_arc_122 : decode cX4_arc 122 = .ok (.dup, 1) := by decide +kernel
theorem dX4_arc_123 : decode cX4_arc 123 = .ok (.aload_n 0, 1) := by decide +kernel
theorem dX4_arc_124 : decode cX4_arc 124 = .ok (.getfield 16, 3) := by decide +kernel
theorem dX4_arc_127 : decode cX4_arc 127 = .ok (.invokevirtual 70, 3) := by decide +kernel
theorem dX4_arc_130 : decode cX4_arc 130 = .ok (.aload 5, 2) := by decide +kernel
theorem dX4_arc_132 : decode cX4_arc 132 = .ok (.aload 6, 2) := by decide +kernel
theorem dX4_arc_134 : decode cX4_arc 134 = .ok (.dload_n 3, 1) := by decide +kernel
theorem dX4_arc_135 : decode cX4_arc 135 = .ok (.invokespecial 117, 3) := by decide +kernel
theorem dX4_arc_138 : decode cX4_arc 138 = .ok (.astore 7, 2) := by decide +kernel
theorem dX4_arc_140 : decode cX4_arc 140 = .ok (.aload 5, 2) := by decide +kernel
theorem dX4_arc_142 : decode cX4_arc 142 = .ok (.getfield 120, 3) := by decide +kernel
theorem dX4_arc_145 : decode cX4_arc 145 = .ok (.aload 7, 2) := by decide +kernel
theorem dX4_arc_147 : decode cX4_arc 147 = .ok (.invokevirtual 80, 3) := by decide +kernel
theorem dX4_arc_150 : decode cX4_arc 150 = .ok (.pop, 1) := by decide +kernel
theorem dX4_arc_151 : decode cX4_arc 151 = .ok (.aload 6, 2) := by decide +kernel
theorem dX4_arc_153 : decode cX4_arc 153 = .ok (.getfield 123, 3) := by decide +kernel
theorem dX4_arc_156 : decode cX4_arc 156 = .ok (.aload 7, 2) := by decide +kernel
theorem dX4_arc_158 : decode cX4_arc 158 = .ok (.invokevirtual 80, 3) := by decide +kernel
theorem dX4_arc_161 : decode cX4_arc 161 = .ok (.pop, 1) := by decide +kernel
theorem dX4_arc_162 : decode cX4_arc 162 = .ok (.aload_n 0, 1) := by decide +kernel
theorem dX4_arc_163 : decode cX4_arc 163 = .ok (.getfield 16, 3) := by decide +kernel
theorem dX4_arc_166 : decode cX4_arc 166 = .ok (.aload 7, 2) := by decide +kernel
theorem dX4_arc_168 : decode cX4_arc 168 = .ok (.invokevirtual 80, 3) := by decide +kernel
theorem dX4_arc_171 : decode cX4_arc 171 = .ok (.pop, 1) := by decide +kernel
theorem dX4_arc_172 : decode cX4_arc 172 = .ok (.aload_n 0, 1) := by decide +kernel
theorem dX4_arc_173 : decode cX4_arc 173 = .ok (.iconst 0, 1) := by decide +kernel
theorem dX4_arc_174 : decode cX4_arc 174 = .ok (.putfield 50, 3) := by decide +kernel
theorem dX4_arc_177 : decode cX4_arc 177 = .ok (.aload 7, 2) := by decide +kernel
theorem dX4_arc_179 : decode cX4_arc 179 = .ok (.getfield 126, 3) := by decide +kernel
theorem dX4_arc_182 : decode cX4_arc 182 = .ok (.ireturn, 1) := by decide +kernel
theorem dX4_end_0 : decode cX4_end 0 = .ok (.iload_n 1, 1) := by decide +kernel
theorem dX4_end_1 : decode cX4_end 1 = .ok (.aload_n 0, 1) := by decide +kernel
theorem dX4_end_2 : decode cX4_end 2 = .ok (.getfield 12, 3) := by decide +kernel
theorem dX4_end_5 : decode cX4_end 5 = .ok (.invokevirtual 70, 3) := by decide +kernel
theorem dX4_end_8 : decode cX4_end 8 = .ok (.invokestatic 84, 3) := by decide +kernel
theorem dX4_end_11 : decode cX4_end 11 = .ok (.aload_n 0, 1) := by decide +kernel
theorem dX4_end_12 : decode cX4_end 12 = .ok (.getfield 22, 3) := by decide +kernel
theorem dX4_end_15 : decode cX4_end 15 = .ok (.invokevirtual 70, 3) := by decide +kernel
theorem dX4_end_18 : decode cX4_end 18 = .ok (.bipush 30, 2) := by decide +kernel
theorem dX4_end_20 : decode cX4_end 20 = .ok (.if_icmp .lt 13, 3) := by decide +kernel
theorem dX4_end_23 : decode cX4_end 23 = .ok (.new 73, 3) := by decide +kernel
theorem dX4_end_26 : decode cX4_end 26 = .ok (.dup, 1) := by decide +kernel
theorem dX4_end_27 : decode cX4_end 27 = .ok (.ldc 129, 2) := by decide +kernel
theorem dX4_end_29 : decode cX4_end 29 = .ok (.invokespecial 77, 3) := by decide +kernel
theorem dX4_end_32 : decode cX4_end 32 = .ok (.athrow, 1) := by decide +kernel
theorem dX4_end_33 : decode cX4_end 33 = .ok (.dload_n 2, 1) := by decide +kernel
theorem dX4_end_34 : decode cX4_end 34 = .ok (.invokestatic 131, 3) := by decide +kernel
theorem dX4_end_37 : decode cX4_end 37 = .ok (.aload_n 0, 1) := by decide +kernel
theorem dX4_end_38 : decode cX4_end 38 = .ok (.getfield 12, 3) := by decide +kernel
theorem dX4_end_41 : decode cX4_end 41 = .ok (.iload_n 1, 1) := by decide +kernel
theorem dX4_end_42 : decode cX4_end 42 = .ok (.invokevirtual 98, 3) := by decide +kernel
theorem dX4_end_45 : decode cX4_end 45 = .ok (.checkcast 35, 3) := by decide +kernel
theorem dX4_end_48 : decode cX4_end 48 = .ok (.astore 4, 2) := by decide +kernel
theorem dX4_end_50 : decode cX4_end 50 = .ok (.new 115, 3) := by decide +kernel
theorem dX4_end_53 : decode cX4_end 53 = .ok (.dup, 1) := by decide +kernel
theorem dX4_end_54 : decode cX4_end 54 = .ok (.aload_n 0, 1) := by decide +kernel
theorem dX4_end_55 : decode cX4_end 55 = .ok (.getfield 22, 3) := by decide +kernel
theorem dX4_end_58 : decode cX4_end 58 = .ok (.invokevirtual 70, 3) := by decide +kernel
theorem dX4_end_61 : decode cX4_end 61 = .ok (.aload 4, 2) := by decide +kernel
theorem dX4_end_63 : decode cX4_end 63 = .ok (.aload_n 0, 1) := by decide +kernel
theorem dX4_end_64 : decode cX4_end 64 = .ok (.getfield 44, 3) := by decide +kernel
theorem dX4_end_67 : decode cX4_end 67 = .ok (.dconst 0, 1) := by decide +kernel
theorem dX4_end_68 : decode cX4_end 68 = .ok (.dload_n 2, 1) := by decide +kernel
theorem dX4_end_69 : decode cX4_end 69 = .ok (.dsub, 1) := by decide +kernel
theorem dX4_end_70 : decode cX4_end 70 = .ok (.invokespecial 117, 3) := by decide +kernel
theorem dX4_end_73 : decode cX4_end 73 = .ok (.astore 5, 2) := by decide +kernel
theorem dX4_end_75 : decode cX4_end 75 = .ok (.aload 4, 2) := by decide +kernel
theorem dX4_end_77 : decode cX4_end 77 = .ok (.getfield 120, 3) := by decide +kernel
theorem dX4_end_80 : decode cX4_end 80 = .ok (.aload 4, 2) := by decide +kernel
theorem dX4_end_82 : decode cX4_end 82 = .ok (.getfield 135, 3) := by decide +kernel
theorem dX4_end_85 : decode cX4_end 85 = .ok (.aload 5, 2) := by decide +kernel
theorem dX4_end_87 : decode cX4_end 87 = .ok (.invokevirtual 138, 3) := by decide +kernel
theorem dX4_end_90 : decode cX4_end 90 = .ok (.aload 4, 2) := by decide +kernel
theorem dX4_end_92 : decode cX4_end 92 = .ok (.dup, 1) := by decide +kernel
theorem dX4_end_93 : decode cX4_end 93 = .ok (.getfield 135, 3) := by decide +kernel
theorem dX4_end_96 : decode cX4_end 96 = .ok (.iconst 1, 1) := by decide +kernel
theorem dX4_end_97 : decode cX4_end 97 = .ok (.iadd, 1) := by decide +kernel
theorem dX4_end_98 : decode cX4_end 98 = .ok (.putfield 135, 3) := by decide +kernel
theorem dX4_end_101 : decode cX4_end 101 = .ok (.aload_n 0, 1) := by decide +kernel
theorem dX4_end_102 : decode cX4_end 102 = .ok (.getfield 22, 3) := by decide +kernel
theorem dX4_end_105 : decode cX4_end 105 = .ok (.aload 5, 2) := by decide +kernel
theorem dX4_end_107 : decode cX4_end 107 = .ok (.invokevirtual 80, 3) := by decide +kernel
theorem dX4_end_110 : decode cX4_end 110 = .ok (.pop, 1) := by decide +kernel
theorem dX4_end_111 : decode cX4_end 111 = .ok (.aload_n 0, 1) := by decide +kernel
theorem dX4_end_112 : decode cX4_end 112 = .ok (.iconst 0, 1) := by decide +kernel
theorem dX4_end_113 : decode cX4_end 113 = .ok (.putfield 50, 3) := by decide +kernel
theorem dX4_end_116 : decode cX4_end 116 = .ok (.aload 5, 2) := by decide +kernel
theorem dX4_end_118 : decode cX4_end 118 = .ok (.getfield 126, 3) := by decide +kernel
theorem dX4_end_121 : decode cX4_end 121 = .ok (.ireturn, 1) := by decide +kernel
theorem dX4_start_0 : decode cX4_start 0 = .ok (.iload_n 1, 1) := by decide +kernel
theorem dX4_start_1 : decode cX4_start 1 = .ok (.aload_n 0, 1) := by decide +kernel
theorem dX4_start_2 : decode cX4_start 2 = .ok (.getfield 12, 3) := by decide +kernel
theorem dX4_start_5 : decode cX4_start 5 = .ok (.invokevirtual 70, 3) := by decide +kernel
theorem dX4_start_8 : decode cX4_start 8 = .ok (.invokestatic 84, 3) := by decide +kernel
theorem dX4_start_11 : decode cX4_start 11 = .ok (.aload_n 0, 1) := by decide +kernel
theorem dX4_start_12 : decode cX4_start 12 = .ok (.getfield 19, 3) := by decide +kernel
theorem dX4_start_15 : decode cX4_start 15 = .ok (.invokevirtual 70, 3) := by decide +kernel
theorem dX4_start_18 : decode cX4_start 18 = .ok (.bipush 30, 2) := by decide +kernel
theorem dX4_start_20 : decode cX4_start 20 = .ok (.if_icmp .lt 13, 3) := by decide +kernel
theorem dX4_start_23 : decode cX4_start 23 = .ok (.new 73, 3) := by decide +kernel
theorem dX4_start_26 : decode cX4_start 26 = .ok (.dup, 1) := by decide +kernel
theorem dX4_start_27 : decode cX4_start 27 = .ok (.ldc 141, 2) := by decide +kernel
theorem dX4_start_29 : decode cX4_start 29 = .ok (.invokespecial 77, 3) := by decide +kernel
theorem dX4_start_32 : decode cX4_start 32 = .ok (.athrow, 1) := by decide +kernel
theorem dX4_start_33 : decode cX4_start 33 = .ok (.dload_n 2, 1) := by decide +kernel
theorem dX4_start_34 : decode cX4_start 34 = .ok (.invokestatic 131, 3) := by decide +kernel
theorem dX4_start_37 : decode cX4_start 37 = .ok (.aload_n 0, 1) := by decide +kernel
theorem dX4_start_38 : decode cX4_start 38 = .ok (.getfield 12, 3) := by decide +kernel
theorem dX4_start_41 : decode cX4_start 41 = .ok (.iload_n 1, 1) := by decide +kernel
theorem dX4_start_42 : decode cX4_start 42 = .ok (.invokevirtual 98, 3) := by decide +kernel
theorem dX4_start_45 : decode cX4_start 45 = .ok (.checkcast 35, 3) := by decide +kernel
theorem dX4_start_48 : decode cX4_start 48 = .ok (.astore 4, 2) := by decide +kernel
theorem dX4_start_50 : decode cX4_start 50 = .ok (.new 115, 3) := by decide +kernel
theorem dX4_start_53 : decode cX4_start 53 = .ok (.dup, 1) := by decide +kernel
theorem dX4_start_54 : decode cX4_start 54 = .ok (.aload_n 0, 1) := by decide +kernel
theorem dX4_start_55 : decode cX4_start 55 = .ok (.getfield 19, 3) := by decide +kernel
theorem dX4_start_58 : decode cX4_start 58 = .ok (.invokevirtual 70, 3) := by decide +kernel
theorem dX4_start_61 : decode cX4_start 61 = .ok (.aload_n 0, 1) := by decide +kernel
theorem dX4_start_62 : decode cX4_start 62 = .ok (.getfield 40, 3) := by decide +kernel
theorem dX4_start_65 : decode cX4_start 65 = .ok (.aload 4, 2) := by decide +kernel
theorem dX4_start_67 : decode cX4_start 67 = .ok (.dload_n 2, 1) := by decide +kernel
theorem dX4_start_68 : decode cX4_start 68 = .ok (.invokespecial 117, 3) := by decide +kernel
theorem dX4_start_71 : decode cX4_start 71 = .ok (.astore 5, 2) := by decide +kernel
theorem dX4_start_73 : decode cX4_start 73 = .ok (.aload_n 0, 1) := by decide +kernel
theorem dX4_start_74 : decode cX4_start 74 = .ok (.getfield 40, 3) := by decide +kernel
theorem dX4_start_77 : decode cX4_start 77 = .ok (.getfield 120, 3) := by decide +kernel
theorem dX4_start_80 : decode cX4_start 80 = .ok (.aload 5, 2) := by decide +kernel
theorem dX4_start_82 : decode cX4_start 82 = .ok (.invokevirtual 80, 3) := by decide +kernel
theorem dX4_start_85 : decode cX4_start 85 = .ok (.pop, 1) := by decide +kernel
theorem dX4_start_86 : decode cX4_start 86 = .ok (.aload 4, 2) := by decide +kernel
theorem dX4_start_88 : decode cX4_start 88 = .ok (.getfield 123, 3) := by decide +kernel
theorem dX4_start_91 : decode cX4_start 91 = .ok (.aload 5, 2) := by decide +kernel
theorem dX4_start_93 : decode cX4_start 93 = .ok (.invokevirtual 80, 3) := by decide +kernel
theorem dX4_start_96 : decode cX4_start 96 = .ok (.pop, 1) := by decide +kernel
theorem dX4_start_97 : decode cX4_start 97 = .ok (.aload_n 0, 1) := by decide +kernel
theorem dX4_start_98 : decode cX4_start 98 = .ok (.getfield 19, 3) := by decide +kernel
theorem dX4_start_101 : decode cX4_start 101 = .ok (.aload 5, 2) := by decide +kernel
theorem dX4_start_103 : decode cX4_start 103 = .ok (.invokevirtual 80, 3) := by decide +kernel
theorem dX4_start_106 : decode cX4_start 106 = .ok (.pop, 1) := by decide +kernel
theorem dX4_start_107 : decode cX4_start 107 = .ok (.aload_n 0, 1) := by decide +kernel
theorem dX4_start_108 : decode cX4_start 108 = .ok (.iconst 0, 1) := by decide +kernel
theorem dX4_start_109 : decode cX4_start 109 = .ok (.putfield 50, 3) := by decide +kernel
theorem dX4_start_112 : decode cX4_start 112 = .ok (.aload 5, 2) := by decide +kernel
theorem dX4_start_114 : decode cX4_start 114 = .ok (.getfield 126, 3) := by decide +kernel
theorem dX4_start_117 : decode cX4_start 117 = .ok (.ireturn, 1) := by decide +kernel
theorem dX4_through_0 : decode cX4_through 0 = .ok (.iload_n 1, 1) := by decide +kernel
theorem dX4_through_1 : decode cX4_through 1 = .ok (.iconst (-1), 1) := by decide +kernel
theorem dX4_through_2 : decode cX4_through 2 = .ok (.if_icmp .eq 14, 3) := by decide +kernel
theorem dX4_through_5 : decode cX4_through 5 = .ok (.iload_n 1, 1) := by decide +kernel
theorem dX4_through_6 : decode cX4_through 6 = .ok (.aload_n 0, 1) := by decide +kernel
theorem dX4_through_7 : decode cX4_through 7 = .ok (.getfield 12, 3) := by decide +kernel
theorem dX4_through_10 : decode cX4_through 10 = .ok (.invokevirtual 70, 3) := by decide +kernel
theorem dX4_through_13 : decode cX4_through 13 = .ok (.invokestatic 84, 3) := by decide +kernel
theorem dX4_through_16 : decode cX4_through 16 = .ok (.iload_n 2, 1) := by decide +kernel
theorem dX4_through_17 : decode cX4_through 17 = .ok (.ifCond .lt 9, 3) := by decide +kernel
theorem dX4_through_20 : decode cX4_through 20 = .ok (.iload_n 2, 1) := by decide +kernel
theorem dX4_through_21 : decode cX4_through 21 = .ok (.bipush 10, 2) := by decide +kernel
theorem dX4_through_23 : decode cX4_through 23 = .ok (.if_icmp .lt 13, 3) := by decide +kernel
theorem dX4_through_26 : decode cX4_through 26 = .ok (.new 93, 3) := by decide +kernel
theorem dX4_through_29 : decode cX4_through 29 = .ok (.dup, 1) := by decide +kernel
theorem dX4_through_30 : decode cX4_through 30 = .ok (.ldc 143, 2) := by decide +kernel
theorem dX4_through_32 : decode cX4_through 32 = .ok (.invokespecial 97, 3) := by decide +kernel
theorem dX4_through_35 : decode cX4_through 35 = .ok (.athrow, 1) := by decide +kernel
theorem dX4_through_36 : decode cX4_through 36 = .ok (.aload_n 0, 1) := by decide +kernel
theorem dX4_through_37 : decode cX4_through 37 = .ok (.getfield 31, 3) := by decide +kernel
theorem dX4_through_40 : decode cX4_through 40 = .ok (.iload_n 2, 1) := by decide +kernel
theorem dX4_through_41 : decode cX4_through 41 = .ok (.iaload, 1) := by decide +kernel
theorem dX4_through_42 : decode cX4_through 42 = .ok (.iload_n 1, 1) := by decide +kernel
theorem dX4_through_43 : decode cX4_through 43 = .ok (.if_icmp .ne 5, 3) := by decide +kernel
theorem dX4_through_46 : decode cX4_through 46 = .ok (.iconst 0, 1) := by decide +kernel
theorem dX4_through_47 : decode cX4_through 47 = .ok (.ireturn, 1) := by decide +kernel
theorem dX4_through_48 : decode cX4_through 48 = .ok (.aload_n 0, 1) := by decide +kernel
theorem dX4_through_49 : decode cX4_through 49 = .ok (.getfield 31, 3) := by decide +kernel
theorem dX4_through_52 : decode cX4_through 52 = .ok (.iload_n 2, 1) := by decide +kernel
theorem dX4_through_53 : decode cX4_through 53 = .ok (.iload_n 1, 1) := by decide +kernel
theorem dX4_through_54 : decode cX4_through 54 = .ok (.iastore, 1) := by decide +kernel
theorem dX4_through_55 : decode cX4_through 55 = .ok (.aload_n 0, 1) := by decide +kernel
theorem dX4_through_56 : decode cX4_through 56 = .ok (.iconst 0, 1) := by decide +kernel
theorem dX4_through_57 : decode cX4_through 57 = .ok (.putfield 50, 3) := by decide +kernel
theorem dX4_through_60 : decode cX4_through 60 = .ok (.iconst 1, 1) := by decide +kernel
theorem dX4_through_61 : decode cX4_through 61 = .ok (.ireturn, 1) := by decide +kernel
theorem dX4_run_0 : decode cX4_run 0 = .ok (.iload_n 1, 1) := by decide +kernel
theorem dX4_run_1 : decode cX4_run 1 = .ok (.iconst 1, 1) := by decide +kernel
theorem dX4_run_2 : decode cX4_run 2 = .ok (.if_icmp .lt 9, 3) := by decide +kernel
theorem dX4_run_5 : decode cX4_run 5 = .ok (.iload_n 1, 1) := by decide +kernel
theorem dX4_run_6 : decode cX4_run 6 = .ok (.bipush 40, 2) := by decide +kernel
theorem dX4_run_8 : decode cX4_run 8 = .ok (.if_icmp .le 13, 3) := by decide +kernel
theorem dX4_run_11 : decode cX4_run 11 = .ok (.new 93, 3) := by decide +kernel
theorem dX4_run_14 : decode cX4_run 14 = .ok (.dup, 1) := by decide +kernel
theorem dX4_run_15 : decode cX4_run 15 = .ok (.ldc 145, 2) := by decide +kernel
theorem dX4_run_17 : decode cX4_run 17 = .ok (.invokespecial 97, 3) := by decide +kernel
theorem dX4_run_20 : decode cX4_run 20 = .ok (.athrow, 1) := by decide +kernel
theorem dX4_run_21 : decode cX4_run 21 = .ok (.aload_n 0, 1) := by decide +kernel
theorem dX4_run_22 : decode cX4_run 22 = .ok (.getfield 40, 3) := by decide +kernel
theorem dX4_run_25 : decode cX4_run 25 = .ok (.getfield 60, 3) := by decide +kernel
theorem dX4_run_28 : decode cX4_run 28 = .ok (.iconst 0, 1) := by decide +kernel
theorem dX4_run_29 : decode cX4_run 29 = .ok (.putfield 64, 3) := by decide +kernel
theorem dX4_run_32 : decode cX4_run 32 = .ok (.aload_n 0, 1) := by decide +kernel
theorem dX4_run_33 : decode cX4_run 33 = .ok (.invokevirtual 147, 3) := by decide +kernel
theorem dX4_run_36 : decode cX4_run 36 = .ok (.ifCond .eq 48, 3) := by decide +kernel
theorem dX4_run_39 : decode cX4_run 39 = .ok (.aload_n 0, 1) := by decide +kernel
theorem dX4_run_40 : decode cX4_run 40 = .ok (.getfield 28, 3) := by decide +kernel
theorem dX4_run_43 : decode cX4_run 43 = .ok (.invokevirtual 70, 3) := by decide +kernel
theorem dX4_run_46 : decode cX4_run 46 = .ok (.iconst 1, 1) := by decide +kernel
theorem dX4_run_47 : decode cX4_run 47 = .ok (.isub, 1) := by decide +kernel
theorem dX4_run_48 : decode cX4_run 48 = .ok (.istore_n 2, 1) := by decide +kernel
theorem dX4_run_49 : decode cX4_run 49 = .ok (.iload_n 2, 1) := by decide +kernel
theorem dX4_run_50 : decode cX4_run 50 = .ok (.ifCond .lt 25, 3) := by decide +kernel
theorem dX4_run_53 : decode cX4_run 53 = .ok (.aload_n 0, 1) := by decide +kernel
theorem dX4_run_54 : decode cX4_run 54 = .ok (.aload_n 0, 1) := by decide +kernel
theorem dX4_run_55 : decode cX4_run 55 = .ok (.getfield 28, 3) := by decide +kernel
theorem dX4_run_58 : decode cX4_run 58 = .ok (.iload_n 2, 1) := by decide +kernel
theorem dX4_run_59 : decode cX4_run 59 = .ok (.invokevirtual 98, 3) := by decide +kernel
theorem dX4_run_62 : decode cX4_run 62 = .ok (.checkcast 35, 3) := by decide +kernel
theorem dX4_run_65 : decode cX4_run 65 = .ok (.iload_n 1, 1) := by decide +kernel
theorem dX4_run_66 : decode cX4_run 66 = .ok (.invokevirtual 151, 3) := by decide +kernel
theorem dX4_run_69 : decode cX4_run 69 = .ok (.iinc 2 (-1), 3) := by decide +kernel
theorem dX4_run_72 : decode cX4_run 72 = .ok (.goto (-23), 3) := by decide +kernel
theorem dX4_run_75 : decode cX4_run 75 = .ok (.aload_n 0, 1) := by decide +kernel
theorem dX4_run_76 : decode cX4_run 76 = .ok (.aload_n 0, 1) := by decide +kernel
theorem dX4_run_77 : decode cX4_run 77 = .ok (.getfield 40, 3) := by decide +kernel
theorem dX4_run_80 : decode cX4_run 80 = .ok (.iload_n 1, 1) := by decide +kernel
theorem dX4_run_81 : decode cX4_run 81 = .ok (.invokevirtual 151, 3) := by decide +kernel
theorem dX4_run_84 : decode cX4_run 84 = .ok (.aload_n 0, 1) := by decide +kernel
theorem dX4_run_85 : decode cX4_run 85 = .ok (.iconst 1, 1) := by decide +kernel
theorem dX4_run_86 : decode cX4_run 86 = .ok (.putfield 50, 3) := by decide +kernel
theorem dX4_run_89 : decode cX4_run 89 = .ok (.aload_n 0, 1) := by decide +kernel
theorem dX4_run_90 : decode cX4_run 90 = .ok (.getfield 40, 3) := by decide +kernel
theorem dX4_run_93 : decode cX4_run 93 = .ok (.getfield 60, 3) := by decide +kernel
theorem dX4_run_96 : decode cX4_run 96 = .ok (.getfield 64, 3) := by decide +kernel
theorem dX4_run_99 : decode cX4_run 99 = .ok (.ireturn, 1) := by decide +kernel
theorem dX4_slack_0 : decode cX4_slack 0 = .ok (.aload_n 0, 1) := by decide +kernel
theorem dX4_slack_1 : decode cX4_slack 1 = .ok (.invokevirtual 154, 3) := by decide +kernel
theorem dX4_slack_4 : decode cX4_slack 4 = .ok (.iload_n 1, 1) := by decide +kernel
theorem dX4_slack_5 : decode cX4_slack 5 = .ok (.aload_n 0, 1) := by decide +kernel
theorem dX4_slack_6 : decode cX4_slack 6 = .ok (.getfield 40, 3) := by decide +kernel
theorem dX4_slack_9 : decode cX4_slack 9 = .ok (.getfield 60, 3) := by decide +kernel
theorem dX4_slack_12 : decode cX4_slack 12 = .ok (.getfield 64, 3) := by decide +kernel
theorem dX4_slack_15 : decode cX4_slack 15 = .ok (.invokestatic 84, 3) := by decide +kernel
theorem dX4_slack_18 : decode cX4_slack 18 = .ok (.aload_n 0, 1) := by decide +kernel
theorem dX4_slack_19 : decode cX4_slack 19 = .ok (.getfield 40, 3) := by decide +kernel
theorem dX4_slack_22 : decode cX4_slack 22 = .ok (.getfield 60, 3) := by decide +kernel
theorem dX4_slack_25 : decode cX4_slack 25 = .ok (.getfield 157, 3) := by decide +kernel
theorem dX4_slack_28 : decode cX4_slack 28 = .ok (.iload_n 1, 1) := by decide +kernel
theorem dX4_slack_29 : decode cX4_slack 29 = .ok (.daload, 1) := by decide +kernel
theorem dX4_slack_30 : decode cX4_slack 30 = .ok (.dreturn, 1) := by decide +kernel
theorem dX4_at_0 : decode cX4_at 0 = .ok (.aload_n 0, 1) := by decide +kernel
theorem dX4_at_1 : decode cX4_at 1 = .ok (.invokevirtual 154, 3) := by decide +kernel
theorem dX4_at_4 : decode cX4_at 4 = .ok (.iload_n 1, 1) := by decide +kernel
theorem dX4_at_5 : decode cX4_at 5 = .ok (.aload_n 0, 1) := by decide +kernel
theorem dX4_at_6 : decode cX4_at 6 = .ok (.getfield 40, 3) := by decide +kernel
theorem dX4_at_9 : decode cX4_at 9 = .ok (.getfield 60, 3) := by decide +kernel
theorem dX4_at_12 : decode cX4_at 12 = .ok (.getfield 64, 3) := by decide +kernel
theorem dX4_at_15 : decode cX4_at 15 = .ok (.invokestatic 84, 3) := by decide +kernel
theorem dX4_at_18 : decode cX4_at 18 = .ok (.aload_n 0, 1) := by decide +kernel
theorem dX4_at_19 : decode cX4_at 19 = .ok (.iload_n 1, 1) := by decide +kernel
theorem dX4_at_20 : decode cX4_at 20 = .ok (.iload_n 2, 1) := by decide +kernel
theorem dX4_at_21 : decode cX4_at 21 = .ok (.invokevirtual 161, 3) := by decide +kernel
theorem dX4_at_24 : decode cX4_at 24 = .ok (.astore_n 3, 1) := by decide +kernel
theorem dX4_at_25 : decode cX4_at 25 = .ok (.aload_n 3, 1) := by decide +kernel
theorem dX4_at_26 : decode cX4_at 26 = .ok (.ifnonnull 13, 3) := by decide +kernel
theorem dX4_at_29 : decode cX4_at 29 = .ok (.new 165, 3) := by decide +kernel
theorem dX4_at_32 : decode cX4_at 32 = .ok (.dup, 1) := by decide +kernel
theorem dX4_at_33 : decode cX4_at 33 = .ok (.ldc 167, 2) := by decide +kernel
theorem dX4_at_35 : decode cX4_at 35 = .ok (.invokespecial 169, 3) := by decide +kernel
theorem dX4_at_38 : decode cX4_at 38 = .ok (.athrow, 1) := by decide +kernel
theorem dX4_at_39 : decode cX4_at 39 = .ok (.aload_n 3, 1) := by decide +kernel
theorem dX4_at_40 : decode cX4_at 40 = .ok (.getfield 126, 3) := by decide +kernel
theorem dX4_at_43 : decode cX4_at 43 = .ok (.ireturn, 1) := by decide +kernel
theorem dX4_group_0 : decode cX4_group 0 = .ok (.iload_n 1, 1) := by decide +kernel
theorem dX4_group_1 : decode cX4_group 1 = .ok (.aload_n 0, 1) := by decide +kernel
theorem dX4_group_2 : decode cX4_group 2 = .ok (.getfield 22, 3) := by decide +kernel
theorem dX4_group_5 : decode cX4_group 5 = .ok (.invokevirtual 70, 3) := by decide +kernel
theorem dX4_group_8 : decode cX4_group 8 = .ok (.invokestatic 84, 3) := by decide +kernel
theorem dX4_group_11 : decode cX4_group 11 = .ok (.iload_n 2, 1) := by decide +kernel
theorem dX4_group_12 : decode cX4_group 12 = .ok (.ifCond .lt 9, 3) := by decide +kernel
theorem dX4_group_15 : decode cX4_group 15 = .ok (.iload_n 2, 1) := by decide +kernel
theorem dX4_group_16 : decode cX4_group 16 = .ok (.bipush 8, 2) := by decide +kernel
theorem dX4_group_18 : decode cX4_group 18 = .ok (.if_icmp .lt 13, 3) := by decide +kernel
theorem dX4_group_21 : decode cX4_group 21 = .ok (.new 93, 3) := by decide +kernel
theorem dX4_group_24 : decode cX4_group 24 = .ok (.dup, 1) := by decide +kernel
theorem dX4_group_25 : decode cX4_group 25 = .ok (.ldc 170, 2) := by decide +kernel
theorem dX4_group_27 : decode cX4_group 27 = .ok (.invokespecial 97, 3) := by decide +kernel
theorem dX4_group_30 : decode cX4_group 30 = .ok (.athrow, 1) := by decide +kernel
theorem dX4_group_31 : decode cX4_group 31 = .ok (.aload_n 0, 1) := by decide +kernel
theorem dX4_group_32 : decode cX4_group 32 = .ok (.getfield 22, 3) := by decide +kernel
theorem dX4_group_35 : decode cX4_group 35 = .ok (.iload_n 1, 1) := by decide +kernel
theorem dX4_group_36 : decode cX4_group 36 = .ok (.invokevirtual 98, 3) := by decide +kernel
theorem dX4_group_39 : decode cX4_group 39 = .ok (.checkcast 115, 3) := by decide +kernel
theorem dX4_group_42 : decode cX4_group 42 = .ok (.getfield 172, 3) := by decide +kernel
theorem dX4_group_45 : decode cX4_group 45 = .ok (.iload_n 2, 1) := by decide +kernel
theorem dX4_group_46 : decode cX4_group 46 = .ok (.if_icmp .eq 23, 3) := by decide +kernel
theorem dX4_group_49 : decode cX4_group 49 = .ok (.aload_n 0, 1) := by decide +kernel
theorem dX4_group_50 : decode cX4_group 50 = .ok (.getfield 22, 3) := by decide +kernel
theorem dX4_group_53 : decode cX4_group 53 = .ok (.iload_n 1, 1) := by decide +kernel
theorem dX4_group_54 : decode cX4_group 54 = .ok (.invokevirtual 98, 3) := by decide +kernel
theorem dX4_group_57 : decode cX4_group 57 = .ok (.checkcast 115, 3) := by decide +kernel
theorem dX4_group_60 : decode cX4_group 60 = .ok (.iload_n 2, 1) := by decide +kernel
theorem dX4_group_61 : decode cX4_group 61 = .ok (.putfield 172, 3) := by decide +kernel
theorem dX4_group_64 : decode cX4_group 64 = .ok (.aload_n 0, 1) := by decide +kernel
theorem dX4_group_65 : decode cX4_group 65 = .ok (.iconst 0, 1) := by decide +kernel
theorem dX4_group_66 : decode cX4_group 66 = .ok (.putfield 50, 3) := by decide +kernel
theorem dX4_group_69 : decode cX4_group 69 = .ok (.iconst 0, 1) := by decide +kernel
theorem dX4_group_70 : decode cX4_group 70 = .ok (.istore_n 3, 1) := by decide +kernel
theorem dX4_group_71 : decode cX4_group 71 = .ok (.iconst 0, 1) := by decide +kernel
theorem dX4_group_72 : decode cX4_group 72 = .ok (.istore 4, 2) := by decide +kernel
theorem dX4_group_74 : decode cX4_group 74 = .ok (.iload 4, 2) := by decide +kernel
theorem dX4_group_76 : decode cX4_group 76 = .ok (.aload_n 0, 1) := by decide +kernel
theorem dX4_group_77 : decode cX4_group 77 = .ok (.getfield 22, 3) := by decide +kernel
theorem dX4_group_80 : decode cX4_group 80 = .ok (.invokevirtual 70, 3) := by decide +kernel
theorem dX4_group_83 : decode cX4_group 83 = .ok (.if_icmp .ge 31, 3) := by decide +kernel
theorem dX4_group_86 : decode cX4_group 86 = .ok (.aload_n 0, 1) := by decide +kernel
theorem dX4_group_87 : decode cX4_group 87 = .ok (.getfield 22, 3) := by decide +kernel
theorem dX4_group_90 : decode cX4_group 90 = .ok (.iload 4, 2) := by decide +kernel
theorem dX4_group_92 : decode cX4_group 92 = .ok (.invokevirtual 98, 3) := by decide +kernel
theorem dX4_group_95 : decode cX4_group 95 = .ok (.checkcast 115, 3) := by decide +kernel
theorem dX4_group_98 : decode cX4_group 98 = .ok (.getfield 172, 3) := by decide +kernel
theorem dX4_group_101 : decode cX4_group 101 = .ok (.iload_n 2, 1) := by decide +kernel
theorem dX4_group_102 : decode cX4_group 102 = .ok (.if_icmp .ne 6, 3) := by decide +kernel
theorem dX4_group_105 : decode cX4_group 105 = .ok (.iinc 3 1, 3) := by decide +kernel
theorem dX4_group_108 : decode cX4_group 108 = .ok (.iinc 4 1, 3) := by decide +kernel
theorem dX4_group_111 : decode cX4_group 111 = .ok (.goto (-37), 3) := by decide +kernel
theorem dX4_group_114 : decode cX4_group 114 = .ok (.iload_n 3, 1) := by decide +kernel
theorem dX4_group_115 : decode cX4_group 115 = .ok (.ireturn, 1) := by decide +kernel
theorem dX4_model_0 : decode cX4_model 0 = .ok (.iload_n 1, 1) := by decide +kernel
theorem dX4_model_1 : decode cX4_model 1 = .ok (.bipush 8, 2) := by decide +kernel
theorem dX4_model_3 : decode cX4_model 3 = .ok (.invokestatic 84, 3) := by decide +kernel
theorem dX4_model_6 : decode cX4_model 6 = .ok (.iconst 0, 1) := by decide +kernel
theorem dX4_model_7 : decode cX4_model 7 = .ok (.istore_n 2, 1) := by decide +kernel
theorem dX4_model_8 : decode cX4_model 8 = .ok (.iconst 0, 1) := by decide +kernel
theorem dX4_model_9 : decode cX4_model 9 = .ok (.istore_n 3, 1) := by decide +kernel
theorem dX4_model_10 : decode cX4_model 10 = .ok (.iload_n 3, 1) := by decide +kernel
theorem dX4_model_11 : decode cX4_model 11 = .ok (.aload_n 0, 1) := by decide +kernel
theorem dX4_model_12 : decode cX4_model 12 = .ok (.getfield 12, 3) := by decide +kernel
theorem dX4_model_15 : decode cX4_model 15 = .ok (.invokevirtual 70, 3) := by decide +kernel
theorem dX4_model_18 : decode cX4_model 18 = .ok (.if_icmp .ge 46, 3) := by decide +kernel
theorem dX4_model_21 : decode cX4_model 21 = .ok (.aload_n 0, 1) := by decide +kernel
theorem dX4_model_22 : decode cX4_model 22 = .ok (.getfield 12, 3) := by decide +kernel
theorem dX4_model_25 : decode cX4_model 25 = .ok (.iload_n 3, 1) := by decide +kernel
theorem dX4_model_26 : decode cX4_model 26 = .ok (.invokevirtual 98, 3) := by decide +kernel
theorem dX4_model_29 : decode cX4_model 29 = .ok (.checkcast 35, 3) := by decide +kernel
theorem dX4_model_32 : decode cX4_model 32 = .ok (.astore 4, 2) := by decide +kernel
theorem dX4_model_34 : decode cX4_model 34 = .ok (.aload 4, 2) := by decide +kernel
theorem dX4_model_36 : decode cX4_model 36 = .ok (.iload_n 1, 1) := by decide +kernel
theorem dX4_model_37 : decode cX4_model 37 = .ok (.invokestatic 175, 3) := by decide +kernel
theorem dX4_model_40 : decode cX4_model 40 = .ok (.ifCond .eq 18, 3) := by decide +kernel
theorem dX4_model_43 : decode cX4_model 43 = .ok (.aload_n 0, 1) := by decide +kernel
theorem dX4_model_44 : decode cX4_model 44 = .ok (.aload 4, 2) := by decide +kernel
theorem dX4_model_46 : decode cX4_model 46 = .ok (.iload_n 1, 1) := by decide +kernel
theorem dX4_model_47 : decode cX4_model 47 = .ok (.invokevirtual 102, 3) := by decide +kernel
theorem dX4_model_50 : decode cX4_model 50 = .ok (.iload_n 2, 1) := by decide +kernel
theorem dX4_model_51 : decode cX4_model 51 = .ok (.aload_n 0, 1) := by decide +kernel
theorem dX4_model_52 : decode cX4_model 52 = .ok (.iload_n 1, 1) := by decide +kernel
theorem dX4_model_53 : decode cX4_model 53 = .ok (.invokevirtual 179, 3) := by decide +kernel
theorem dX4_model_56 : decode cX4_model 56 = .ok (.iadd, 1) := by decide +kernel
theorem dX4_model_57 : decode cX4_model 57 = .ok (.istore_n 2, 1) := by decide +kernel
theorem dX4_model_58 : decode cX4_model 58 = .ok (.iinc 3 1, 3) := by decide +kernel
theorem dX4_model_61 : decode cX4_model 61 = .ok (.goto (-51), 3) := by decide +kernel
theorem dX4_model_64 : decode cX4_model 64 = .ok (.iload_n 2, 1) := by decide +kernel
theorem dX4_model_65 : decode cX4_model 65 = .ok (.ireturn, 1) := by decide +kernel
theorem dX4_into_0 : decode cX4_into 0 = .ok (.iload_n 1, 1) := by decide +kernel
theorem dX4_into_1 : decode cX4_into 1 = .ok (.aload_n 0, 1) := by decide +kernel
theorem dX4_into_2 : decode cX4_into 2 = .ok (.getfield 12, 3) := by decide +kernel
theorem dX4_into_5 : decode cX4_into 5 = .ok (.invokevirtual 70, 3) := by decide +kernel
theorem dX4_into_8 : decode cX4_into 8 = .ok (.invokestatic 84, 3) := by decide +kernel
theorem dX4_into_11 : decode cX4_into 11 = .ok (.iload_n 2, 1) := by decide +kernel
theorem dX4_into_12 : decode cX4_into 12 = .ok (.iconst (-1), 1) := by decide +kernel
theorem dX4_into_13 : decode cX4_into 13 = .ok (.if_icmp .eq 9, 3) := by decide +kernel
theorem dX4_into_16 : decode cX4_into 16 = .ok (.iload_n 2, 1) := by decide +kernel
theorem dX4_into_17 : decode cX4_into 17 = .ok (.bipush 8, 2) := by decide +kernel
theorem dX4_into_19 : decode cX4_into 19 = .ok (.invokestatic 84, 3) := by decide +kernel
theorem dX4_into_22 : decode cX4_into 22 = .ok (.aload_n 0, 1) := by decide +kernel
theorem dX4_into_23 : decode cX4_into 23 = .ok (.getfield 12, 3) := by decide +kernel
theorem dX4_into_26 : decode cX4_into 26 = .ok (.iload_n 1, 1) := by decide +kernel
theorem dX4_into_27 : decode cX4_into 27 = .ok (.invokevirtual 98, 3) := by decide +kernel
theorem dX4_into_30 : decode cX4_into 30 = .ok (.checkcast 35, 3) := by decide +kernel
theorem dX4_into_33 : decode cX4_into 33 = .ok (.astore_n 3, 1) := by decide +kernel
theorem dX4_into_34 : decode cX4_into 34 = .ok (.aload_n 3, 1) := by decide +kernel
theorem dX4_into_35 : decode cX4_into 35 = .ok (.getfield 183, 3) := by decide +kernel
theorem dX4_into_38 : decode cX4_into 38 = .ok (.iload_n 2, 1) := by decide +kernel
theorem dX4_into_39 : decode cX4_into 39 = .ok (.if_icmp .eq 7, 3) := by decide +kernel
theorem dX4_into_42 : decode cX4_into 42 = .ok (.iconst 1, 1) := by decide +kernel
theorem dX4_into_43 : decode cX4_into 43 = .ok (.goto 4, 3) := by decide +kernel
theorem dX4_into_46 : decode cX4_into 46 = .ok (.iconst 0, 1) := by decide +kernel
theorem dX4_into_47 : decode cX4_into 47 = .ok (.istore 4, 2) := by decide +kernel
theorem dX4_into_49 : decode cX4_into 49 = .ok (.aload_n 3, 1) := by decide +kernel
theorem dX4_into_50 : decode cX4_into 50 = .ok (.iload_n 2, 1) := by decide +kernel
theorem dX4_into_51 : decode cX4_into 51 = .ok (.putfield 183, 3) := by decide +kernel
theorem dX4_into_54 : decode cX4_into 54 = .ok (.iload 4, 2) := by decide +kernel
theorem dX4_into_56 : decode cX4_into 56 = .ok (.ireturn, 1) := by decide +kernel
theorem dX4_reduced_0 : decode cX4_reduced 0 = .ok (.iload_n 1, 1) := by decide +kernel
theorem dX4_reduced_1 : decode cX4_reduced 1 = .ok (.bipush 8, 2) := by decide +kernel
theorem dX4_reduced_3 : decode cX4_reduced 3 = .ok (.invokestatic 84, 3) := by decide +kernel
theorem dX4_reduced_6 : decode cX4_reduced 6 = .ok (.iload_n 2, 1) := by decide +kernel
theorem dX4_reduced_7 : decode cX4_reduced 7 = .ok (.aload_n 0, 1) := by decide +kernel
theorem dX4_reduced_8 : decode cX4_reduced 8 = .ok (.getfield 12, 3) := by decide +kernel
theorem dX4_reduced_11 : decode cX4_reduced 11 = .ok (.invokevirtual 70, 3) := by decide +kernel
theorem dX4_reduced_14 : decode cX4_reduced 14 = .ok (.invokestatic 84, 3) := by decide +kernel
theorem dX4_reduced_17 : decode cX4_reduced 17 = .ok (.iload_n 3, 1) := by decide +kernel
theorem dX4_reduced_18 : decode cX4_reduced 18 = .ok (.aload_n 0, 1) := by decide +kernel
theorem dX4_reduced_19 : decode cX4_reduced 19 = .ok (.getfield 12, 3) := by decide +kernel
theorem dX4_reduced_22 : decode cX4_reduced 22 = .ok (.invokevirtual 70, 3) := by decide +kernel
theorem dX4_reduced_25 : decode cX4_reduced 25 = .ok (.invokestatic 84, 3) := by decide +kernel
theorem dX4_reduced_28 : decode cX4_reduced 28 = .ok (.aload_n 0, 1) := by decide +kernel
theorem dX4_reduced_29 : decode cX4_reduced 29 = .ok (.getfield 12, 3) := by decide +kernel
theorem dX4_reduced_32 : decode cX4_reduced 32 = .ok (.iload_n 2, 1) := by decide +kernel
theorem dX4_reduced_33 : decode cX4_reduced 33 = .ok (.invokevirtual 98, 3) := by decide +kernel
theorem dX4_reduced_36 : decode cX4_reduced 36 = .ok (.checkcast 35, 3) := by decide +kernel
theorem dX4_reduced_39 : decode cX4_reduced 39 = .ok (.astore 4, 2) := by decide +kernel
theorem dX4_reduced_41 : decode cX4_reduced 41 = .ok (.aload_n 0, 1) := by decide +kernel
theorem dX4_reduced_42 : decode cX4_reduced 42 = .ok (.getfield 12, 3) := by decide +kernel
theorem dX4_reduced_45 : decode cX4_reduced 45 = .ok (.iload_n 3, 1) := by decide +kernel
theorem dX4_reduced_46 : decode cX4_reduced 46 = .ok (.invokevirtual 98, 3) := by decide +kernel
theorem dX4_reduced_49 : decode cX4_reduced 49 = .ok (.checkcast 35, 3) := by decide +kernel
theorem dX4_reduced_52 : decode cX4_reduced 52 = .ok (.astore 5, 2) := by decide +kernel
theorem dX4_reduced_54 : decode cX4_reduced 54 = .ok (.aload 4, 2) := by decide +kernel
theorem dX4_reduced_56 : decode cX4_reduced 56 = .ok (.iload_n 1, 1) := by decide +kernel
theorem dX4_reduced_57 : decode cX4_reduced 57 = .ok (.invokestatic 175, 3) := by decide +kernel
theorem dX4_reduced_60 : decode cX4_reduced 60 = .ok (.ifCond .eq 12, 3) := by decide +kernel
theorem dX4_reduced_63 : decode cX4_reduced 63 = .ok (.aload 5, 2) := by decide +kernel
theorem dX4_reduced_65 : decode cX4_reduced 65 = .ok (.iload_n 1, 1) := by decide +kernel
theorem dX4_reduced_66 : decode cX4_reduced 66 = .ok (.invokestatic 186, 3) := by decide +kernel
theorem dX4_reduced_69 : decode cX4_reduced 69 = .ok (.ifCond .ne 7, 3) := by decide +kernel
theorem dX4_reduced_72 : decode cX4_reduced 72 = .ok (.ldc2_w 189, 3) := by decide +kernel
theorem dX4_reduced_75 : decode cX4_reduced 75 = .ok (.dreturn, 1) := by decide +kernel
theorem dX4_reduced_76 : decode cX4_reduced 76 = .ok (.aload_n 0, 1) := by decide +kernel
theorem dX4_reduced_77 : decode cX4_reduced 77 = .ok (.aload 4, 2) := by decide +kernel
theorem dX4_reduced_79 : decode cX4_reduced 79 = .ok (.iload_n 1, 1) := by decide +kernel
theorem dX4_reduced_80 : decode cX4_reduced 80 = .ok (.invokevirtual 102, 3) := by decide +kernel
theorem dX4_reduced_83 : decode cX4_reduced 83 = .ok (.aload 5, 2) := by decide +kernel
theorem dX4_reduced_85 : decode cX4_reduced 85 = .ok (.getfield 106, 3) := by decide +kernel
theorem dX4_reduced_88 : decode cX4_reduced 88 = .ok (.dreturn, 1) := by decide +kernel
theorem dX4_budget_0 : decode cX4_budget 0 = .ok (.aload_n 0, 1) := by decide +kernel
theorem dX4_budget_1 : decode cX4_budget 1 = .ok (.invokevirtual 154, 3) := by decide +kernel
theorem dX4_budget_4 : decode cX4_budget 4 = .ok (.iload_n 1, 1) := by decide +kernel
theorem dX4_budget_5 : decode cX4_budget 5 = .ok (.bipush 8, 2) := by decide +kernel
theorem dX4_budget_7 : decode cX4_budget 7 = .ok (.invokestatic 84, 3) := by decide +kernel
theorem dX4_budget_10 : decode cX4_budget 10 = .ok (.iload_n 2, 1) := by decide +kernel
theorem dX4_budget_11 : decode cX4_budget 11 = .ok (.aload_n 0, 1) := by decide +kernel
theorem dX4_budget_12 : decode cX4_budget 12 = .ok (.getfield 40, 3) := by decide +kernel
theorem dX4_budget_15 : decode cX4_budget 15 = .ok (.getfield 60, 3) := by decide +kernel
theorem dX4_budget_18 : decode cX4_budget 18 = .ok (.getfield 64, 3) := by decide +kernel
theorem dX4_budget_21 : decode cX4_budget 21 = .ok (.invokestatic 84, 3) := by decide +kernel
theorem dX4_budget_24 : decode cX4_budget 24 = .ok (.dconst 0, 1) := by decide +kernel
theorem dX4_budget_25 : decode cX4_budget 25 = .ok (.dstore_n 3, 1) := by decide +kernel
theorem dX4_budget_26 : decode cX4_budget 26 = .ok (.dconst 0, 1) := by decide +kernel
theorem dX4_budget_27 : decode cX4_budget 27 = .ok (.dstore 5, 2) := by decide +kernel
theorem dX4_budget_29 : decode cX4_budget 29 = .ok (.iconst 1, 1) := by decide +kernel
theorem dX4_budget_30 : decode cX4_budget 30 = .ok (.istore 7, 2) := by decide +kernel
theorem dX4_budget_32 : decode cX4_budget 32 = .ok (.iload 7, 2) := by decide +kernel
theorem dX4_budget_34 : decode cX4_budget 34 = .ok (.sipush 150, 3) := by decide +kernel
theorem dX4_budget_37 : decode cX4_budget 37 = .ok (.if_icmp .gt 68, 3) := by decide +kernel
theorem dX4_budget_40 : decode cX4_budget 40 = .ok (.aload_n 0, 1) := by decide +kernel
theorem dX4_budget_41 : decode cX4_budget 41 = .ok (.iload_n 2, 1) := by decide +kernel
theorem dX4_budget_42 : decode cX4_budget 42 = .ok (.iload 7, 2) := by decide +kernel
theorem dX4_budget_44 : decode cX4_budget 44 = .ok (.invokevirtual 161, 3) := by decide +kernel
theorem dX4_budget_47 : decode cX4_budget 47 = .ok (.astore 8, 2) := by decide +kernel
theorem dX4_budget_49 : decode cX4_budget 49 = .ok (.aload 8, 2) := by decide +kernel
theorem dX4_budget_51 : decode cX4_budget 51 = .ok (.ifnull 54, 3) := by decide +kernel
theorem dX4_budget_54 : decode cX4_budget 54 = .ok (.aload 8, 2) := by decide +kernel
theorem dX4_budget_56 : decode cX4_budget 56 = .ok (.getfield 191, 3) := by decide +kernel
theorem dX4_budget_59 : decode cX4_budget 59 = .ok (.aload_n 0, 1) := by decide +kernel
theorem dX4_budget_60 : decode cX4_budget 60 = .ok (.getfield 44, 3) := by decide +kernel
theorem dX4_budget_63 : decode cX4_budget 63 = .ok (.if_acmp .ne 6, 3) := by decide +kernel
theorem dX4_budget_66 : decode cX4_budget 66 = .ok (.goto 39, 3) := by decide +kernel
theorem dX4_budget_69 : decode cX4_budget 69 = .ok (.dload_n 3, 1) := by decide +kernel
theorem dX4_budget_70 : decode cX4_budget 70 = .ok (.aload 8, 2) := by decide +kernel
theorem dX4_budget_72 : decode cX4_budget 72 = .ok (.getfield 194, 3) := by decide +kernel
theorem dX4_budget_75 : decode cX4_budget 75 = .ok (.dadd, 1) := by decide +kernel
theorem dX4_budget_76 : decode cX4_budget 76 = .ok (.dstore_n 3, 1) := by decide +kernel
theorem dX4_budget_77 : decode cX4_budget 77 = .ok (.aload 8, 2) := by decide +kernel
theorem dX4_budget_79 : decode cX4_budget 79 = .ok (.getfield 191, 3) := by decide +kernel
theorem dX4_budget_82 : decode cX4_budget 82 = .ok (.getfield 183, 3) := by decide +kernel
theorem dX4_budget_85 : decode cX4_budget 85 = .ok (.iload_n 1, 1) := by decide +kernel
theorem dX4_budget_86 : decode cX4_budget 86 = .ok (.if_icmp .ne 13, 3) := by decide +kernel
theorem dX4_budget_89 : decode cX4_budget 89 = .ok (.dload 5, 2) := by decide +kernel
theorem dX4_budget_91 : decode cX4_budget 91 = .ok (.aload 8, 2) := by decide +kernel
theorem dX4_budget_93 : decode cX4_budget 93 = .ok (.getfield 194, 3) := by decide +kernel
theorem dX4_budget_96 : decode cX4_budget 96 = .ok (.dadd, 1) := by decide +kernel
theorem dX4_budget_97 : decode cX4_budget 97 = .ok (.dstore 5, 2) := by decide +kernel
theorem dX4_budget_99 : decode cX4_budget 99 = .ok (.iinc 7 1, 3) := by decide +kernel
theorem dX4_budget_102 : decode cX4_budget 102 = .ok (.goto (-70), 3) := by decide +kernel
theorem dX4_budget_105 : decode cX4_budget 105 = .ok (.dload_n 3, 1) := by decide +kernel
theorem dX4_budget_106 : decode cX4_budget 106 = .ok (.dconst 0, 1) := by decide +kernel
theorem dX4_budget_107 : decode cX4_budget 107 = .ok (.dcmp .l, 1) := by decide +kernel
theorem dX4_budget_108 : decode cX4_budget 108 = .ok (.ifCond .le 23, 3) := by decide +kernel
theorem dX4_budget_111 : decode cX4_budget 111 = .ok (.aload_n 0, 1) := by decide +kernel
theorem dX4_budget_112 : decode cX4_budget 112 = .ok (.getfield 40, 3) := by decide +kernel
theorem dX4_budget_115 : decode cX4_budget 115 = .ok (.getfield 60, 3) := by decide +kernel
theorem dX4_budget_118 : decode cX4_budget 118 = .ok (.getfield 157, 3) := by decide +kernel
theorem dX4_budget_121 : decode cX4_budget 121 = .ok (.iload_n 2, 1) := by decide +kernel
theorem dX4_budget_122 : decode cX4_budget 122 = .ok (.daload, 1) := by decide +kernel
theorem dX4_budget_123 : decode cX4_budget 123 = .ok (.dload 5, 2) := by decide +kernel
theorem dX4_budget_125 : decode cX4_budget 125 = .ok (.dmul, 1) := by decide +kernel
theorem dX4_budget_126 : decode cX4_budget 126 = .ok (.dload_n 3, 1) := by decide +kernel
theorem dX4_budget_127 : decode cX4_budget 127 = .ok (.ddiv, 1) := by decide +kernel
theorem dX4_budget_128 : decode cX4_budget 128 = .ok (.goto 4, 3) := by decide +kernel
theorem dX4_budget_131 : decode cX4_budget 131 = .ok (.dconst 0, 1) := by decide +kernel
theorem dX4_budget_132 : decode cX4_budget 132 = .ok (.dreturn, 1) := by decide +kernel
theorem dX4_whatIf_0 : decode cX4_whatIf 0 = .ok (.iload_n 1, 1) := by decide +kernel
theorem dX4_whatIf_1 : decode cX4_whatIf 1 = .ok (.aload_n 0, 1) := by decide +kernel
theorem dX4_whatIf_2 : decode cX4_whatIf 2 = .ok (.getfield 16, 3) := by decide +kernel
theorem dX4_whatIf_5 : decode cX4_whatIf 5 = .ok (.invokevirtual 70, 3) := by decide +kernel
theorem dX4_whatIf_8 : decode cX4_whatIf 8 = .ok (.invokestatic 84, 3) := by decide +kernel
theorem dX4_whatIf_11 : decode cX4_whatIf 11 = .ok (.aload_n 0, 1) := by decide +kernel
theorem dX4_whatIf_12 : decode cX4_whatIf 12 = .ok (.getfield 25, 3) := by decide +kernel
theorem dX4_whatIf_15 : decode cX4_whatIf 15 = .ok (.invokevirtual 70, 3) := by decide +kernel
theorem dX4_whatIf_18 : decode cX4_whatIf 18 = .ok (.bipush 50, 2) := by decide +kernel
theorem dX4_whatIf_20 : decode cX4_whatIf 20 = .ok (.if_icmp .lt 13, 3) := by decide +kernel
theorem dX4_whatIf_23 : decode cX4_whatIf 23 = .ok (.new 73, 3) := by decide +kernel
theorem dX4_whatIf_26 : decode cX4_whatIf 26 = .ok (.dup, 1) := by decide +kernel
theorem dX4_whatIf_27 : decode cX4_whatIf 27 = .ok (.ldc 197, 2) := by decide +kernel
theorem dX4_whatIf_29 : decode cX4_whatIf 29 = .ok (.invokespecial 77, 3) := by decide +kernel
theorem dX4_whatIf_32 : decode cX4_whatIf 32 = .ok (.athrow, 1) := by decide +kernel
theorem dX4_whatIf_33 : decode cX4_whatIf 33 = .ok (.dload_n 2, 1) := by decide +kernel
theorem dX4_whatIf_34 : decode cX4_whatIf 34 = .ok (.invokestatic 89, 3) := by decide +kernel
theorem dX4_whatIf_37 : decode cX4_whatIf 37 = .ok (.ifCond .ne 13, 3) := by decide +kernel
theorem dX4_whatIf_40 : decode cX4_whatIf 40 = .ok (.new 93, 3) := by decide +kernel
theorem dX4_whatIf_43 : decode cX4_whatIf 43 = .ok (.dup, 1) := by decide +kernel
theorem dX4_whatIf_44 : decode cX4_whatIf 44 = .ok (.ldc 95, 2) := by decide +kernel
theorem dX4_whatIf_46 : decode cX4_whatIf 46 = .ok (.invokespecial 97, 3) := by decide +kernel
theorem dX4_whatIf_49 : decode cX4_whatIf 49 = .ok (.athrow, 1) := by decide +kernel
theorem dX4_whatIf_50 : decode cX4_whatIf 50 = .ok (.aload_n 0, 1) := by decide +kernel
theorem dX4_whatIf_51 : decode cX4_whatIf 51 = .ok (.getfield 16, 3) := by decide +kernel
theorem dX4_whatIf_54 : decode cX4_whatIf 54 = .ok (.iload_n 1, 1) := by decide +kernel
theorem dX4_whatIf_55 : decode cX4_whatIf 55 = .ok (.invokevirtual 98, 3) := by decide +kernel
theorem dX4_whatIf_58 : decode cX4_whatIf 58 = .ok (.checkcast 115, 3) := by decide +kernel
theorem dX4_whatIf_61 : decode cX4_whatIf 61 = .ok (.astore 4, 2) := by decide +kernel
theorem dX4_whatIf_63 : decode cX4_whatIf 63 = .ok (.aload 4, 2) := by decide +kernel
theorem dX4_whatIf_65 : decode cX4_whatIf 65 = .ok (.getfield 194, 3) := by decide +kernel
theorem dX4_whatIf_68 : decode cX4_whatIf 68 = .ok (.dload_n 2, 1) := by decide +kernel
theorem dX4_whatIf_69 : decode cX4_whatIf 69 = .ok (.dcmp .l, 1) := by decide +kernel
theorem dX4_whatIf_70 : decode cX4_whatIf 70 = .ok (.ifCond .ne 5, 3) := by decide +kernel
theorem dX4_whatIf_73 : decode cX4_whatIf 73 = .ok (.iconst 0, 1) := by decide +kernel
theorem dX4_whatIf_74 : decode cX4_whatIf 74 = .ok (.ireturn, 1) := by decide +kernel
theorem dX4_whatIf_75 : decode cX4_whatIf 75 = .ok (.aload_n 0, 1) := by decide +kernel
theorem dX4_whatIf_76 : decode cX4_whatIf 76 = .ok (.getfield 25, 3) := by decide +kernel
theorem dX4_whatIf_79 : decode cX4_whatIf 79 = .ok (.new 199, 3) := by decide +kernel
theorem dX4_whatIf_82 : decode cX4_whatIf 82 = .ok (.dup, 1) := by decide +kernel
theorem dX4_whatIf_83 : decode cX4_whatIf 83 = .ok (.aload 4, 2) := by decide +kernel
theorem dX4_whatIf_85 : decode cX4_whatIf 85 = .ok (.aload 4, 2) := by decide +kernel
theorem dX4_whatIf_87 : decode cX4_whatIf 87 = .ok (.getfield 194, 3) := by decide +kernel
theorem dX4_whatIf_90 : decode cX4_whatIf 90 = .ok (.invokespecial 201, 3) := by decide +kernel
theorem dX4_whatIf_93 : decode cX4_whatIf 93 = .ok (.invokevirtual 80, 3) := by decide +kernel
theorem dX4_whatIf_96 : decode cX4_whatIf 96 = .ok (.pop, 1) := by decide +kernel
theorem dX4_whatIf_97 : decode cX4_whatIf 97 = .ok (.aload 4, 2) := by decide +kernel
theorem dX4_whatIf_99 : decode cX4_whatIf 99 = .ok (.dload_n 2, 1) := by decide +kernel
theorem dX4_whatIf_100 : decode cX4_whatIf 100 = .ok (.putfield 194, 3) := by decide +kernel
theorem dX4_whatIf_103 : decode cX4_whatIf 103 = .ok (.aload_n 0, 1) := by decide +kernel
theorem dX4_whatIf_104 : decode cX4_whatIf 104 = .ok (.iconst 0, 1) := by decide +kernel
theorem dX4_whatIf_105 : decode cX4_whatIf 105 = .ok (.putfield 50, 3) := by decide +kernel
theorem dX4_whatIf_108 : decode cX4_whatIf 108 = .ok (.iconst 1, 1) := by decide +kernel
theorem dX4_whatIf_109 : decode cX4_whatIf 109 = .ok (.ireturn, 1) := by decide +kernel
theorem dX4_back_0 : decode cX4_back 0 = .ok (.aload_n 0, 1) := by decide +kernel
theorem dX4_back_1 : decode cX4_back 1 = .ok (.getfield 25, 3) := by decide +kernel
theorem dX4_back_4 : decode cX4_back 4 = .ok (.invokevirtual 204, 3) := by decide +kernel
theorem dX4_back_7 : decode cX4_back 7 = .ok (.ifCond .eq 5, 3) := by decide +kernel
theorem dX4_back_10 : decode cX4_back 10 = .ok (.iconst 0, 1) := by decide +kernel
theorem dX4_back_11 : decode cX4_back 11 = .ok (.ireturn, 1) := by decide +kernel
theorem dX4_back_12 : decode cX4_back 12 = .ok (.aload_n 0, 1) := by decide +kernel
theorem dX4_back_13 : decode cX4_back 13 = .ok (.getfield 25, 3) := by decide +kernel
theorem dX4_back_16 : decode cX4_back 16 = .ok (.aload_n 0, 1) := by decide +kernel
theorem dX4_back_17 : decode cX4_back 17 = .ok (.getfield 25, 3) := by decide +kernel
theorem dX4_back_20 : decode cX4_back 20 = .ok (.invokevirtual 70, 3) := by decide +kernel
theorem dX4_back_23 : decode cX4_back 23 = .ok (.iconst 1, 1) := by decide +kernel
theorem dX4_back_24 : decode cX4_back 24 = .ok (.isub, 1) := by decide +kernel
theorem dX4_back_25 : decode cX4_back 25 = .ok (.invokevirtual 207, 3) := by decide +kernel
theorem dX4_back_28 : decode cX4_back 28 = .ok (.checkcast 199, 3) := by decide +kernel
theorem dX4_back_31 : decode cX4_back 31 = .ok (.astore_n 1, 1) := by decide +kernel
theorem dX4_back_32 : decode cX4_back 32 = .ok (.aload_n 1, 1) := by decide +kernel
theorem dX4_back_33 : decode cX4_back 33 = .ok (.getfield 210, 3) := by decide +kernel
theorem dX4_back_36 : decode cX4_back 36 = .ok (.aload_n 1, 1) := by decide +kernel
theorem dX4_back_37 : decode cX4_back 37 = .ok (.getfield 214, 3) := by decide +kernel
theorem dX4_back_40 : decode cX4_back 40 = .ok (.putfield 194, 3) := by decide +kernel
theorem dX4_back_43 : decode cX4_back 43 = .ok (.aload_n 0, 1) := by decide +kernel
theorem dX4_back_44 : decode cX4_back 44 = .ok (.iconst 0, 1) := by decide +kernel
theorem dX4_back_45 : decode cX4_back 45 = .ok (.putfield 50, 3) := by decide +kernel
theorem dX4_back_48 : decode cX4_back 48 = .ok (.iconst 1, 1) := by decide +kernel
theorem dX4_back_49 : decode cX4_back 49 = .ok (.ireturn, 1) := by decide +kernel
theorem dX4_checkIndex_0 : decode cX4_checkIndex 0 = .ok (.iload_n 0, 1) := by decide +kernel
theorem dX4_checkIndex_1 : decode cX4_checkIndex 1 = .ok (.ifCond .lt 8, 3) := by decide +kernel
theorem dX4_checkIndex_4 : decode cX4_checkIndex 4 = .ok (.iload_n 0, 1) := by decide +kernel
theorem dX4_checkIndex_5 : decode cX4_checkIndex 5 = .ok (.iload_n 1, 1) := by decide +kernel
theorem dX4_checkIndex_6 : decode cX4_checkIndex 6 = .ok (.if_icmp .lt 13, 3) := by decide +kernel
theorem dX4_checkIndex_9 : decode cX4_checkIndex 9 = .ok (.new 165, 3) := by decide +kernel
theorem dX4_checkIndex_12 : decode cX4_checkIndex 12 = .ok (.dup, 1) := by decide +kernel
theorem dX4_checkIndex_13 : decode cX4_checkIndex 13 = .ok (.ldc 217, 2) := by decide +kernel
theorem dX4_checkIndex_15 : decode cX4_checkIndex 15 = .ok (.invokespecial 169, 3) := by decide +kernel
theorem dX4_checkIndex_18 : decode cX4_checkIndex 18 = .ok (.athrow, 1) := by decide +kernel
theorem dX4_checkIndex_19 : decode cX4_checkIndex 19 = .ok (.return_, 1) := by decide +kernel
theorem dX4_checkTime_0 : decode cX4_checkTime 0 = .ok (.dload_n 0, 1) := by decide +kernel
theorem dX4_checkTime_1 : decode cX4_checkTime 1 = .ok (.invokestatic 219, 3) := by decide +kernel
theorem dX4_checkTime_4 : decode cX4_checkTime 4 = .ok (.ifCond .ne 13, 3) := by decide +kernel
theorem dX4_checkTime_7 : decode cX4_checkTime 7 = .ok (.new 93, 3) := by decide +kernel
theorem dX4_checkTime_10 : decode cX4_checkTime 10 = .ok (.dup, 1) := by decide +kernel
theorem dX4_checkTime_11 : decode cX4_checkTime 11 = .ok (.ldc 222, 2) := by decide +kernel
theorem dX4_checkTime_13 : decode cX4_checkTime 13 = .ok (.invokespecial 97, 3) := by decide +kernel
theorem dX4_checkTime_16 : decode cX4_checkTime 16 = .ok (.athrow, 1) := by decide +kernel
theorem dX4_checkTime_17 : decode cX4_checkTime 17 = .ok (.return_, 1) := by decide +kernel
theorem dX4_checkListed_0 : decode cX4_checkListed 0 = .ok (.aload_n 0, 1) := by decide +kernel
theorem dX4_checkListed_1 : decode cX4_checkListed 1 = .ok (.getfield 50, 3) := by decide +kernel
theorem dX4_checkListed_4 : decode cX4_checkListed 4 = .ok (.ifCond .ne 13, 3) := by decide +kernel
theorem dX4_checkListed_7 : decode cX4_checkListed 7 = .ok (.new 73, 3) := by decide +kernel
theorem dX4_checkListed_10 : decode cX4_checkListed 10 = .ok (.dup, 1) := by decide +kernel
theorem dX4_checkListed_11 : decode cX4_checkListed 11 = .ok (.ldc 224, 2) := by decide +kernel
theorem dX4_checkListed_13 : decode cX4_checkListed 13 = .ok (.invokespecial 77, 3) := by decide +kernel
theorem dX4_checkListed_16 : decode cX4_checkListed 16 = .ok (.athrow, 1) := by decide +kernel
theorem dX4_checkListed_17 : decode cX4_checkListed 17 = .ok (.return_, 1) := by decide +kernel
theorem dX4_isTime_0 : decode cX4_isTime 0 = .ok (.dload_n 0, 1) := by decide +kernel
theorem dX4_isTime_1 : decode cX4_isTime 1 = .ok (.ldc2_w 226, 3) := by decide +kernel
theorem dX4_isTime_4 : decode cX4_isTime 4 = .ok (.dcmp .l, 1) := by decide +kernel
theorem dX4_isTime_5 : decode cX4_isTime 5 = .ok (.ifCond .lt 31, 3) := by decide +kernel
theorem dX4_isTime_8 : decode cX4_isTime 8 = .ok (.dload_n 0, 1) := by decide +kernel
theorem dX4_isTime_9 : decode cX4_isTime 9 = .ok (.ldc2_w 228, 3) := by decide +kernel
theorem dX4_isTime_12 : decode cX4_isTime 12 = .ok (.dcmp .g, 1) := by decide +kernel
theorem dX4_isTime_13 : decode cX4_isTime 13 = .ok (.ifCond .gt 23, 3) := by decide +kernel
theorem dX4_isTime_16 : decode cX4_isTime 16 = .ok (.dload_n 0, 1) := by decide +kernel
theorem dX4_isTime_17 : decode cX4_isTime 17 = .ok (.ldc2_w 230, 3) := by decide +kernel
theorem dX4_isTime_20 : decode cX4_isTime 20 = .ok (.dmul, 1) := by decide +kernel
theorem dX4_isTime_21 : decode cX4_isTime 21 = .ok (.dload_n 0, 1) := by decide +kernel
theorem dX4_isTime_22 : decode cX4_isTime 22 = .ok (.ldc2_w 230, 3) := by decide +kernel
theorem dX4_isTime_25 : decode cX4_isTime 25 = .ok (.dmul, 1) := by decide +kernel
theorem dX4_isTime_26 : decode cX4_isTime 26 = .ok (.d2i, 1) := by decide +kernel
theorem dX4_isTime_27 : decode cX4_isTime 27 = .ok (.i2d, 1) := by decide +kernel
theorem dX4_isTime_28 : decode cX4_isTime 28 = .ok (.dcmp .l, 1) := by decide +kernel
theorem dX4_isTime_29 : decode cX4_isTime 29 = .ok (.ifCond .ne 7, 3) := by decide +kernel
theorem dX4_isTime_32 : decode cX4_isTime 32 = .ok (.iconst 1, 1) := by decide +kernel
theorem dX4_isTime_33 : decode cX4_isTime 33 = .ok (.goto 4, 3) := by decide +kernel
theorem dX4_isTime_36 : decode cX4_isTime 36 = .ok (.iconst 0, 1) := by decide +kernel
theorem dX4_isTime_37 : decode cX4_isTime 37 = .ok (.ireturn, 1) := by decide +kernel
theorem dX4_isDelay_0 : decode cX4_isDelay 0 = .ok (.dload_n 0, 1) := by decide +kernel
theorem dX4_isDelay_1 : decode cX4_isDelay 1 = .ok (.dconst 0, 1) := by decide +kernel
theorem dX4_isDelay_2 : decode cX4_isDelay 2 = .ok (.dcmp .l, 1) := by decide +kernel
theorem dX4_isDelay_3 : decode cX4_isDelay 3 = .ok (.ifCond .lt 14, 3) := by decide +kernel
theorem dX4_isDelay_6 : decode cX4_isDelay 6 = .ok (.dload_n 0, 1) := by decide +kernel
theorem dX4_isDelay_7 : decode cX4_isDelay 7 = .ok (.invokestatic 219, 3) := by decide +kernel
theorem dX4_isDelay_10 : decode cX4_isDelay 10 = .ok (.ifCond .eq 7, 3) := by decide +kernel
theorem dX4_isDelay_13 : decode cX4_isDelay 13 = .ok (.iconst 1, 1) := by decide +kernel
theorem dX4_isDelay_14 : decode cX4_isDelay 14 = .ok (.goto 4, 3) := by decide +kernel
theorem dX4_isDelay_17 : decode cX4_isDelay 17 = .ok (.iconst 0, 1) := by decide +kernel
theorem dX4_isDelay_18 : decode cX4_isDelay 18 = .ok (.ireturn, 1) := by decide +kernel
theorem dX4_spread_0 : decode cX4_spread 0 = .ok (.iconst 0, 1) := by decide +kernel
theorem dX4_spread_1 : decode cX4_spread 1 = .ok (.istore_n 3, 1) := by decide +kernel
theorem dX4_spread_2 : decode cX4_spread 2 = .ok (.iload_n 3, 1) := by decide +kernel
theorem dX4_spread_3 : decode cX4_spread 3 = .ok (.aload_n 0, 1) := by decide +kernel
theorem dX4_spread_4 : decode cX4_spread 4 = .ok (.getfield 12, 3) := by decide +kernel
theorem dX4_spread_7 : decode cX4_spread 7 = .ok (.invokevirtual 70, 3) := by decide +kernel
theorem dX4_spread_10 : decode cX4_spread 10 = .ok (.if_icmp .ge 26, 3) := by decide +kernel
theorem dX4_spread_13 : decode cX4_spread 13 = .ok (.aload_n 0, 1) := by decide +kernel
theorem dX4_spread_14 : decode cX4_spread 14 = .ok (.getfield 12, 3) := by decide +kernel
theorem dX4_spread_17 : decode cX4_spread 17 = .ok (.iload_n 3, 1) := by decide +kernel
theorem dX4_spread_18 : decode cX4_spread 18 = .ok (.invokevirtual 98, 3) := by decide +kernel
theorem dX4_spread_21 : decode cX4_spread 21 = .ok (.checkcast 35, 3) := by decide +kernel
theorem dX4_spread_24 : decode cX4_spread 24 = .ok (.ldc2_w 189, 3) := by decide +kernel
theorem dX4_spread_27 : decode cX4_spread 27 = .ok (.putfield 106, 3) := by decide +kernel
theorem dX4_spread_30 : decode cX4_spread 30 = .ok (.iinc 3 1, 3) := by decide +kernel
theorem dX4_spread_33 : decode cX4_spread 33 = .ok (.goto (-31), 3) := by decide +kernel
theorem dX4_spread_36 : decode cX4_spread 36 = .ok (.aload_n 1, 1) := by decide +kernel
theorem dX4_spread_37 : decode cX4_spread 37 = .ok (.dconst 0, 1) := by decide +kernel
theorem dX4_spread_38 : decode cX4_spread 38 = .ok (.putfield 106, 3) := by decide +kernel
theorem dX4_spread_41 : decode cX4_spread 41 = .ok (.iconst 0, 1) := by decide +kernel
theorem dX4_spread_42 : decode cX4_spread 42 = .ok (.istore_n 3, 1) := by decide +kernel
theorem dX4_spread_43 : decode cX4_spread 43 = .ok (.iload_n 3, 1) := by decide +kernel
theorem dX4_spread_44 : decode cX4_spread 44 = .ok (.aload_n 0, 1) := by decide +kernel
theorem dX4_spread_45 : decode cX4_spread 45 = .ok (.getfield 28, 3) := by decide +kernel
theorem dX4_spread_48 : decode cX4_spread 48 = .ok (.invokevirtual 70, 3) := by decide +kernel
theorem dX4_spread_51 : decode cX4_spread 51 = .ok (.if_icmp .ge 39, 3) := by decide +kernel
theorem dX4_spread_54 : decode cX4_spread 54 = .ok (.aload_n 0, 1) := by decide +kernel
theorem dX4_spread_55 : decode cX4_spread 55 = .ok (.getfield 28, 3) := by decide +kernel
theorem dX4_spread_58 : decode cX4_spread 58 = .ok (.iload_n 3, 1) := by decide +kernel
theorem dX4_spread_59 : decode cX4_spread 59 = .ok (.invokevirtual 98, 3) := by decide +kernel
theorem dX4_spread_62 : decode cX4_spread 62 = .ok (.checkcast 35, 3) := by decide +kernel
theorem dX4_spread_65 : decode cX4_spread 65 = .ok (.astore 4, 2) := by decide +kernel
theorem dX4_spread_67 : decode cX4_spread 67 = .ok (.aload 4, 2) := by decide +kernel
theorem dX4_spread_69 : decode cX4_spread 69 = .ok (.getfield 106, 3) := by decide +kernel
theorem dX4_spread_72 : decode cX4_spread 72 = .ok (.dconst 0, 1) := by decide +kernel
theorem dX4_spread_73 : decode cX4_spread 73 = .ok (.dcmp .l, 1) := by decide +kernel
theorem dX4_spread_74 : decode cX4_spread 74 = .ok (.ifCond .lt 10, 3) := by decide +kernel
theorem dX4_spread_77 : decode cX4_spread 77 = .ok (.aload_n 0, 1) := by decide +kernel
theorem dX4_spread_78 : decode cX4_spread 78 = .ok (.aload 4, 2) := by decide +kernel
theorem dX4_spread_80 : decode cX4_spread 80 = .ok (.iload_n 2, 1) := by decide +kernel
theorem dX4_spread_81 : decode cX4_spread 81 = .ok (.invokevirtual 232, 3) := by decide +kernel
theorem dX4_spread_84 : decode cX4_spread 84 = .ok (.iinc 3 1, 3) := by decide +kernel
theorem dX4_spread_87 : decode cX4_spread 87 = .ok (.goto (-44), 3) := by decide +kernel
theorem dX4_spread_90 : decode cX4_spread 90 = .ok (.return_, 1) := by decide +kernel
theorem dX4_spreadFurther_0 : decode cX4_spreadFurther 0 = .ok (.iconst 0, 1) := by decide +kernel
theorem dX4_spreadFurther_1 : decode cX4_spreadFurther 1 = .ok (.istore_n 3, 1) := by decide +kernel
theorem dX4_spreadFurther_2 : decode cX4_spreadFurther 2 = .ok (.iload_n 3, 1) := by decide +kernel
theorem dX4_spreadFurther_3 : decode cX4_spreadFurther 3 = .ok (.aload_n 1, 1) := by decide +kernel
theorem dX4_spreadFurther_4 : decode cX4_spreadFurther 4 = .ok (.getfield 120, 3) := by decide +kernel
theorem dX4_spreadFurther_7 : decode cX4_spreadFurther 7 = .ok (.invokevirtual 70, 3) := by decide +kernel
theorem dX4_spreadFurther_10 : decode cX4_spreadFurther 10 = .ok (.if_icmp .ge 75, 3) := by decide +kernel
theorem dX4_spreadFurther_13 : decode cX4_spreadFurther 13 = .ok (.aload_n 1, 1) := by decide +kernel
theorem dX4_spreadFurther_14 : decode cX4_spreadFurther 14 = .ok (.getfield 120, 3) := by decide +kernel
theorem dX4_spreadFurther_17 : decode cX4_spreadFurther 17 = .ok (.iload_n 3, 1) := by decide +kernel
theorem dX4_spreadFurther_18 : decode cX4_spreadFurther 18 = .ok (.invokevirtual 98, 3) := by decide +kernel
theorem dX4_spreadFurther_21 : decode cX4_spreadFurther 21 = .ok (.checkcast 115, 3) := by decide +kernel
theorem dX4_spreadFurther_24 : decode cX4_spreadFurther 24 = .ok (.astore 4, 2) := by decide +kernel
theorem dX4_spreadFurther_26 : decode cX4_spreadFurther 26 = .ok (.aload_n 1, 1) := by decide +kernel
theorem dX4_spreadFurther_27 : decode cX4_spreadFurther 27 = .ok (.getfield 106, 3) := by decide +kernel
theorem dX4_spreadFurther_30 : decode cX4_spreadFurther 30 = .ok (.aload 4, 2) := by decide +kernel
theorem dX4_spreadFurther_32 : decode cX4_spreadFurther 32 = .ok (.getfield 194, 3) := by decide +kernel
theorem dX4_spreadFurther_35 : decode cX4_spreadFurther 35 = .ok (.dadd, 1) := by decide +kernel
theorem dX4_spreadFurther_36 : decode cX4_spreadFurther 36 = .ok (.dstore 5, 2) := by decide +kernel
theorem dX4_spreadFurther_38 : decode cX4_spreadFurther 38 = .ok (.iload_n 2, 1) := by decide +kernel
theorem dX4_spreadFurther_39 : decode cX4_spreadFurther 39 = .ok (.iconst (-1), 1) := by decide +kernel
theorem dX4_spreadFurther_40 : decode cX4_spreadFurther 40 = .ok (.if_icmp .eq 15, 3) := by decide +kernel
theorem dX4_spreadFurther_43 : decode cX4_spreadFurther 43 = .ok (.aload 4, 2) := by decide +kernel
theorem dX4_spreadFurther_45 : decode cX4_spreadFurther 45 = .ok (.getfield 191, 3) := by decide +kernel
theorem dX4_spreadFurther_48 : decode cX4_spreadFurther 48 = .ok (.getfield 183, 3) := by decide +kernel
theorem dX4_spreadFurther_51 : decode cX4_spreadFurther 51 = .ok (.iload_n 2, 1) := by decide +kernel
theorem dX4_spreadFurther_52 : decode cX4_spreadFurther 52 = .ok (.if_icmp .ne 27, 3) := by decide +kernel
theorem dX4_spreadFurther_55 : decode cX4_spreadFurther 55 = .ok (.dload 5, 2) := by decide +kernel
theorem dX4_spreadFurther_57 : decode cX4_spreadFurther 57 = .ok (.aload 4, 2) := by decide +kernel
theorem dX4_spreadFurther_59 : decode cX4_spreadFurther 59 = .ok (.getfield 191, 3) := by decide +kernel
theorem dX4_spreadFurther_62 : decode cX4_spreadFurther 62 = .ok (.getfield 106, 3) := by decide +kernel
theorem dX4_spreadFurther_65 : decode cX4_spreadFurther 65 = .ok (.dcmp .l, 1) := by decide +kernel
theorem dX4_spreadFurther_66 : decode cX4_spreadFurther 66 = .ok (.ifCond .le 13, 3) := by decide +kernel
theorem dX4_spreadFurther_69 : decode cX4_spreadFurther 69 = .ok (.aload 4, 2) := by decide +kernel
theorem dX4_spreadFurther_71 : decode cX4_spreadFurther 71 = .ok (.getfield 191, 3) := by decide +kernel
theorem dX4_spreadFurther_74 : decode cX4_spreadFurther 74 = .ok (.dload 5, 2) := by decide +kernel
theorem dX4_spreadFurther_76 : decode cX4_spreadFurther 76 = .ok (.putfield 106, 3) := by decide +kernel
theorem dX4_spreadFurther_79 : decode cX4_spreadFurther 79 = .ok (.iinc 3 1, 3) := by decide +kernel
theorem dX4_spreadFurther_82 : decode cX4_spreadFurther 82 = .ok (.goto (-80), 3) := by decide +kernel
theorem dX4_spreadFurther_85 : decode cX4_spreadFurther 85 = .ok (.return_, 1) := by decide +kernel
theorem dX4_placeReachedLast_0 : decode cX4_placeReachedLast 0 = .ok (.iconst 0, 1) := by decide +kernel
theorem dX4_placeReachedLast_1 : decode cX4_placeReachedLast 1 = .ok (.istore_n 1, 1) := by decide +kernel
theorem dX4_placeReachedLast_2 : decode cX4_placeReachedLast 2 = .ok (.iconst 0, 1) := by decide +kernel
theorem dX4_placeReachedLast_3 : decode cX4_placeReachedLast 3 = .ok (.istore_n 2, 1) := by decide +kernel
theorem dX4_placeReachedLast_4 : decode cX4_placeReachedLast 4 = .ok (.iload_n 2, 1) := by decide +kernel
theorem dX4_placeReachedLast_5 : decode cX4_placeReachedLast 5 = .ok (.aload_n 0, 1) := by decide +kernel
theorem dX4_placeReachedLast_6 : decode cX4_placeReachedLast 6 = .ok (.getfield 28, 3) := by decide +kernel
theorem dX4_placeReachedLast_9 : decode cX4_placeReachedLast 9 = .ok (.invokevirtual 70, 3) := by decide +kernel
theorem dX4_placeReachedLast_12 : decode cX4_placeReachedLast 12 = .ok (.if_icmp .ge 51, 3) := by decide +kernel
theorem dX4_placeReachedLast_15 : decode cX4_placeReachedLast 15 = .ok (.aload_n 0, 1) := by decide +kernel
theorem dX4_placeReachedLast_16 : decode cX4_placeReachedLast 16 = .ok (.getfield 28, 3) := by decide +kernel
theorem dX4_placeReachedLast_19 : decode cX4_placeReachedLast 19 = .ok (.iload_n 2, 1) := by decide +kernel
theorem dX4_placeReachedLast_20 : decode cX4_placeReachedLast 20 = .ok (.invokevirtual 98, 3) := by decide +kernel
theorem dX4_placeReachedLast_23 : decode cX4_placeReachedLast 23 = .ok (.checkcast 35, 3) := by decide +kernel
theorem dX4_placeReachedLast_26 : decode cX4_placeReachedLast 26 = .ok (.astore_n 3, 1) := by decide +kernel
theorem dX4_placeReachedLast_27 : decode cX4_placeReachedLast 27 = .ok (.aload_n 3, 1) := by decide +kernel
theorem dX4_placeReachedLast_28 : decode cX4_placeReachedLast 28 = .ok (.getfield 106, 3) := by decide +kernel
theorem dX4_placeReachedLast_31 : decode cX4_placeReachedLast 31 = .ok (.dconst 0, 1) := by decide +kernel
theorem dX4_placeReachedLast_32 : decode cX4_placeReachedLast 32 = .ok (.dcmp .g, 1) := by decide +kernel
theorem dX4_placeReachedLast_33 : decode cX4_placeReachedLast 33 = .ok (.ifCond .ge 24, 3) := by decide +kernel
theorem dX4_placeReachedLast_36 : decode cX4_placeReachedLast 36 = .ok (.aload_n 0, 1) := by decide +kernel
theorem dX4_placeReachedLast_37 : decode cX4_placeReachedLast 37 = .ok (.getfield 28, 3) := by decide +kernel
theorem dX4_placeReachedLast_40 : decode cX4_placeReachedLast 40 = .ok (.iload_n 2, 1) := by decide +kernel
theorem dX4_placeReachedLast_41 : decode cX4_placeReachedLast 41 = .ok (.invokevirtual 207, 3) := by decide +kernel
theorem dX4_placeReachedLast_44 : decode cX4_placeReachedLast 44 = .ok (.pop, 1) := by decide +kernel
theorem dX4_placeReachedLast_45 : decode cX4_placeReachedLast 45 = .ok (.aload_n 0, 1) := by decide +kernel
theorem dX4_placeReachedLast_46 : decode cX4_placeReachedLast 46 = .ok (.getfield 28, 3) := by decide +kernel
theorem dX4_placeReachedLast_49 : decode cX4_placeReachedLast 49 = .ok (.iload_n 1, 1) := by decide +kernel
theorem dX4_placeReachedLast_50 : decode cX4_placeReachedLast 50 = .ok (.aload_n 3, 1) := by decide +kernel
theorem dX4_placeReachedLast_51 : decode cX4_placeReachedLast 51 = .ok (.invokevirtual 138, 3) := by decide +kernel
theorem dX4_placeReachedLast_54 : decode cX4_placeReachedLast 54 = .ok (.iinc 1 1, 3) := by decide +kernel
theorem dX4_placeReachedLast_57 : decode cX4_placeReachedLast 57 = .ok (.iinc 2 1, 3) := by decide +kernel
theorem dX4_placeReachedLast_60 : decode cX4_placeReachedLast 60 = .ok (.goto (-56), 3) := by decide +kernel
theorem dX4_placeReachedLast_63 : decode cX4_placeReachedLast 63 = .ok (.iconst 0, 1) := by decide +kernel
theorem dX4_placeReachedLast_64 : decode cX4_placeReachedLast 64 = .ok (.istore_n 2, 1) := by decide +kernel
theorem dX4_placeReachedLast_65 : decode cX4_placeReachedLast 65 = .ok (.iload_n 2, 1) := by decide +kernel
theorem dX4_placeReachedLast_66 : decode cX4_placeReachedLast 66 = .ok (.aload_n 0, 1) := by decide +kernel
theorem dX4_placeReachedLast_67 : decode cX4_placeReachedLast 67 = .ok (.getfield 28, 3) := by decide +kernel
theorem dX4_placeReachedLast_70 : decode cX4_placeReachedLast 70 = .ok (.invokevirtual 70, 3) := by decide +kernel
theorem dX4_placeReachedLast_73 : decode cX4_placeReachedLast 73 = .ok (.if_icmp .ge 24, 3) := by decide +kernel
theorem dX4_placeReachedLast_76 : decode cX4_placeReachedLast 76 = .ok (.aload_n 0, 1) := by decide +kernel
theorem dX4_placeReachedLast_77 : decode cX4_placeReachedLast 77 = .ok (.getfield 28, 3) := by decide +kernel
theorem dX4_placeReachedLast_80 : decode cX4_placeReachedLast 80 = .ok (.iload_n 2, 1) := by decide +kernel
theorem dX4_placeReachedLast_81 : decode cX4_placeReachedLast 81 = .ok (.invokevirtual 98, 3) := by decide +kernel
theorem dX4_placeReachedLast_84 : decode cX4_placeReachedLast 84 = .ok (.checkcast 35, 3) := by decide +kernel
theorem dX4_placeReachedLast_87 : decode cX4_placeReachedLast 87 = .ok (.iload_n 2, 1) := by decide +kernel
theorem dX4_placeReachedLast_88 : decode cX4_placeReachedLast 88 = .ok (.putfield 235, 3) := by decide +kernel
theorem dX4_placeReachedLast_91 : decode cX4_placeReachedLast 91 = .ok (.iinc 2 1, 3) := by decide +kernel
theorem dX4_placeReachedLast_94 : decode cX4_placeReachedLast 94 = .ok (.goto (-29), 3) := by decide +kernel
theorem dX4_placeReachedLast_97 : decode cX4_placeReachedLast 97 = .ok (.return_, 1) := by decide +kernel
theorem dX4_throughRises_0 : decode cX4_throughRises 0 = .ok (.iconst (-1), 1) := by decide +kernel
theorem dX4_throughRises_1 : decode cX4_throughRises 1 = .ok (.istore_n 1, 1) := by decide +kernel
theorem dX4_throughRises_2 : decode cX4_throughRises 2 = .ok (.iconst 0, 1) := by decide +kernel
theorem dX4_throughRises_3 : decode cX4_throughRises 3 = .ok (.istore_n 2, 1) := by decide +kernel
theorem dX4_throughRises_4 : decode cX4_throughRises 4 = .ok (.iload_n 2, 1) := by decide +kernel
theorem dX4_throughRises_5 : decode cX4_throughRises 5 = .ok (.bipush 10, 2) := by decide +kernel
theorem dX4_throughRises_7 : decode cX4_throughRises 7 = .ok (.if_icmp .ge 38, 3) := by decide +kernel
theorem dX4_throughRises_10 : decode cX4_throughRises 10 = .ok (.aload_n 0, 1) := by decide +kernel
theorem dX4_throughRises_11 : decode cX4_throughRises 11 = .ok (.iload_n 2, 1) := by decide +kernel
theorem dX4_throughRises_12 : decode cX4_throughRises 12 = .ok (.invokevirtual 238, 3) := by decide +kernel
theorem dX4_throughRises_15 : decode cX4_throughRises 15 = .ok (.istore_n 3, 1) := by decide +kernel
theorem dX4_throughRises_16 : decode cX4_throughRises 16 = .ok (.iload_n 3, 1) := by decide +kernel
theorem dX4_throughRises_17 : decode cX4_throughRises 17 = .ok (.iconst (-1), 1) := by decide +kernel
theorem dX4_throughRises_18 : decode cX4_throughRises 18 = .ok (.if_icmp .eq 10, 3) := by decide +kernel
theorem dX4_throughRises_21 : decode cX4_throughRises 21 = .ok (.iload_n 3, 1) := by decide +kernel
theorem dX4_throughRises_22 : decode cX4_throughRises 22 = .ok (.iload_n 1, 1) := by decide +kernel
theorem dX4_throughRises_23 : decode cX4_throughRises 23 = .ok (.if_icmp .ge 5, 3) := by decide +kernel
theorem dX4_throughRises_26 : decode cX4_throughRises 26 = .ok (.iconst 0, 1) := by decide +kernel
theorem dX4_throughRises_27 : decode cX4_throughRises 27 = .ok (.ireturn, 1) := by decide +kernel
theorem dX4_throughRises_28 : decode cX4_throughRises 28 = .ok (.iload_n 3, 1) := by decide +kernel
theorem dX4_throughRises_29 : decode cX4_throughRises 29 = .ok (.iconst (-1), 1) := by decide +kernel
theorem dX4_throughRises_30 : decode cX4_throughRises 30 = .ok (.if_icmp .ne 7, 3) := by decide +kernel
theorem dX4_throughRises_33 : decode cX4_throughRises 33 = .ok (.iload_n 1, 1) := by decide +kernel
theorem dX4_throughRises_34 : decode cX4_throughRises 34 = .ok (.goto 4, 3) := by decide +kernel
theorem dX4_throughRises_37 : decode cX4_throughRises 37 = .ok (.iload_n 3, 1) := by decide +kernel
theorem dX4_throughRises_38 : decode cX4_throughRises 38 = .ok (.istore_n 1, 1) := by decide +kernel
theorem dX4_throughRises_39 : decode cX4_throughRises 39 = .ok (.iinc 2 1, 3) := by decide +kernel
theorem dX4_throughRises_42 : decode cX4_throughRises 42 = .ok (.goto (-38), 3) := by decide +kernel
theorem dX4_throughRises_45 : decode cX4_throughRises 45 = .ok (.iconst 1, 1) := by decide +kernel
theorem dX4_throughRises_46 : decode cX4_throughRises 46 = .ok (.ireturn, 1) := by decide +kernel
theorem dX4_placeOfOrder_0 : decode cX4_placeOfOrder 0 = .ok (.aload_n 0, 1) := by decide +kernel
theorem dX4_placeOfOrder_1 : decode cX4_placeOfOrder 1 = .ok (.getfield 31, 3) := by decide +kernel
theorem dX4_placeOfOrder_4 : decode cX4_placeOfOrder 4 = .ok (.iload_n 1, 1) := by decide +kernel
theorem dX4_placeOfOrder_5 : decode cX4_placeOfOrder 5 = .ok (.iaload, 1) := by decide +kernel
theorem dX4_placeOfOrder_6 : decode cX4_placeOfOrder 6 = .ok (.istore_n 2, 1) := by decide +kernel
theorem dX4_placeOfOrder_7 : decode cX4_placeOfOrder 7 = .ok (.iload_n 2, 1) := by decide +kernel
theorem dX4_placeOfOrder_8 : decode cX4_placeOfOrder 8 = .ok (.ifCond .lt 31, 3) := by decide +kernel
theorem dX4_placeOfOrder_11 : decode cX4_placeOfOrder 11 = .ok (.iload_n 2, 1) := by decide +kernel
theorem dX4_placeOfOrder_12 : decode cX4_placeOfOrder 12 = .ok (.aload_n 0, 1) := by decide +kernel
theorem dX4_placeOfOrder_13 : decode cX4_placeOfOrder 13 = .ok (.getfield 12, 3) := by decide +kernel
theorem dX4_placeOfOrder_16 : decode cX4_placeOfOrder 16 = .ok (.invokevirtual 70, 3) := by decide +kernel
theorem dX4_placeOfOrder_19 : decode cX4_placeOfOrder 19 = .ok (.if_icmp .ge 20, 3) := by decide +kernel
theorem dX4_placeOfOrder_22 : decode cX4_placeOfOrder 22 = .ok (.aload_n 0, 1) := by decide +kernel
theorem dX4_placeOfOrder_23 : decode cX4_placeOfOrder 23 = .ok (.getfield 12, 3) := by decide +kernel
theorem dX4_placeOfOrder_26 : decode cX4_placeOfOrder 26 = .ok (.iload_n 2, 1) := by decide +kernel
theorem dX4_placeOfOrder_27 : decode cX4_placeOfOrder 27 = .ok (.invokevirtual 98, 3) := by decide +kernel
theorem dX4_placeOfOrder_30 : decode cX4_placeOfOrder 30 = .ok (.checkcast 35, 3) := by decide +kernel
theorem dX4_placeOfOrder_33 : decode cX4_placeOfOrder 33 = .ok (.getfield 235, 3) := by decide +kernel
theorem dX4_placeOfOrder_36 : decode cX4_placeOfOrder 36 = .ok (.goto 4, 3) := by decide +kernel
theorem dX4_placeOfOrder_39 : decode cX4_placeOfOrder 39 = .ok (.iconst (-1), 1) := by decide +kernel
theorem dX4_placeOfOrder_40 : decode cX4_placeOfOrder 40 = .ok (.ireturn, 1) := by decide +kernel
theorem dX4_leavesOut_0 : decode cX4_leavesOut 0 = .ok (.iconst 0, 1) := by decide +kernel
theorem dX4_leavesOut_1 : decode cX4_leavesOut 1 = .ok (.istore_n 2, 1) := by decide +kernel
theorem dX4_leavesOut_2 : decode cX4_leavesOut 2 = .ok (.iload_n 2, 1) := by decide +kernel
theorem dX4_leavesOut_3 : decode cX4_leavesOut 3 = .ok (.bipush 10, 2) := by decide +kernel
theorem dX4_leavesOut_5 : decode cX4_leavesOut 5 = .ok (.if_icmp .ge 44, 3) := by decide +kernel
theorem dX4_leavesOut_8 : decode cX4_leavesOut 8 = .ok (.aload_n 0, 1) := by decide +kernel
theorem dX4_leavesOut_9 : decode cX4_leavesOut 9 = .ok (.iload_n 2, 1) := by decide +kernel
theorem dX4_leavesOut_10 : decode cX4_leavesOut 10 = .ok (.invokevirtual 238, 3) := by decide +kernel
theorem dX4_leavesOut_13 : decode cX4_leavesOut 13 = .ok (.istore_n 3, 1) := by decide +kernel
theorem dX4_leavesOut_14 : decode cX4_leavesOut 14 = .ok (.iload_n 3, 1) := by decide +kernel
theorem dX4_leavesOut_15 : decode cX4_leavesOut 15 = .ok (.iconst (-1), 1) := by decide +kernel
theorem dX4_leavesOut_16 : decode cX4_leavesOut 16 = .ok (.if_icmp .eq 27, 3) := by decide +kernel
theorem dX4_leavesOut_19 : decode cX4_leavesOut 19 = .ok (.aload_n 1, 1) := by decide +kernel
theorem dX4_leavesOut_20 : decode cX4_leavesOut 20 = .ok (.getfield 241, 3) := by decide +kernel
theorem dX4_leavesOut_23 : decode cX4_leavesOut 23 = .ok (.getfield 235, 3) := by decide +kernel
theorem dX4_leavesOut_26 : decode cX4_leavesOut 26 = .ok (.iload_n 3, 1) := by decide +kernel
theorem dX4_leavesOut_27 : decode cX4_leavesOut 27 = .ok (.if_icmp .ge 16, 3) := by decide +kernel
theorem dX4_leavesOut_30 : decode cX4_leavesOut 30 = .ok (.iload_n 3, 1) := by decide +kernel
theorem dX4_leavesOut_31 : decode cX4_leavesOut 31 = .ok (.aload_n 1, 1) := by decide +kernel
theorem dX4_leavesOut_32 : decode cX4_leavesOut 32 = .ok (.getfield 191, 3) := by decide +kernel
theorem dX4_leavesOut_35 : decode cX4_leavesOut 35 = .ok (.getfield 235, 3) := by decide +kernel
theorem dX4_leavesOut_38 : decode cX4_leavesOut 38 = .ok (.if_icmp .ge 5, 3) := by decide +kernel
theorem dX4_leavesOut_41 : decode cX4_leavesOut 41 = .ok (.iconst 1, 1) := by decide +kernel
theorem dX4_leavesOut_42 : decode cX4_leavesOut 42 = .ok (.ireturn, 1) := by decide +kernel
theorem dX4_leavesOut_43 : decode cX4_leavesOut 43 = .ok (.iinc 2 1, 3) := by decide +kernel
theorem dX4_leavesOut_46 : decode cX4_leavesOut 46 = .ok (.goto (-44), 3) := by decide +kernel
theorem dX4_leavesOut_49 : decode cX4_leavesOut 49 = .ok (.iconst 0, 1) := by decide +kernel
theorem dX4_leavesOut_50 : decode cX4_leavesOut 50 = .ok (.ireturn, 1) := by decide +kernel
theorem dX4_gather_0 : decode cX4_gather 0 = .ok (.aload_n 0, 1) := by decide +kernel
theorem dX4_gather_1 : decode cX4_gather 1 = .ok (.getfield 47, 3) := by decide +kernel
theorem dX4_gather_4 : decode cX4_gather 4 = .ok (.iconst 0, 1) := by decide +kernel
theorem dX4_gather_5 : decode cX4_gather 5 = .ok (.invokestatic 54, 3) := by decide +kernel
theorem dX4_gather_8 : decode cX4_gather 8 = .ok (.aload_n 1, 1) := by decide +kernel
theorem dX4_gather_9 : decode cX4_gather 9 = .ok (.getfield 60, 3) := by decide +kernel
theorem dX4_gather_12 : decode cX4_gather 12 = .ok (.astore_n 3, 1) := by decide +kernel
theorem dX4_gather_13 : decode cX4_gather 13 = .ok (.aload_n 3, 1) := by decide +kernel
theorem dX4_gather_14 : decode cX4_gather 14 = .ok (.iconst 0, 1) := by decide +kernel
theorem dX4_gather_15 : decode cX4_gather 15 = .ok (.putfield 64, 3) := by decide +kernel
theorem dX4_gather_18 : decode cX4_gather 18 = .ok (.iconst 0, 1) := by decide +kernel
theorem dX4_gather_19 : decode cX4_gather 19 = .ok (.istore 4, 2) := by decide +kernel
theorem dX4_gather_21 : decode cX4_gather 21 = .ok (.iload 4, 2) := by decide +kernel
theorem dX4_gather_23 : decode cX4_gather 23 = .ok (.aload_n 1, 1) := by decide +kernel
theorem dX4_gather_24 : decode cX4_gather 24 = .ok (.getfield 120, 3) := by decide +kernel
theorem dX4_gather_27 : decode cX4_gather 27 = .ok (.invokevirtual 70, 3) := by decide +kernel
theorem dX4_gather_30 : decode cX4_gather 30 = .ok (.if_icmp .ge 52, 3) := by decide +kernel
theorem dX4_gather_33 : decode cX4_gather 33 = .ok (.aload_n 1, 1) := by decide +kernel
theorem dX4_gather_34 : decode cX4_gather 34 = .ok (.getfield 120, 3) := by decide +kernel
theorem dX4_gather_37 : decode cX4_gather 37 = .ok (.iload 4, 2) := by decide +kernel
theorem dX4_gather_39 : decode cX4_gather 39 = .ok (.invokevirtual 98, 3) := by decide +kernel
theorem dX4_gather_42 : decode cX4_gather 42 = .ok (.checkcast 115, 3) := by decide +kernel
theorem dX4_gather_45 : decode cX4_gather 45 = .ok (.astore 5, 2) := by decide +kernel
theorem dX4_gather_47 : decode cX4_gather 47 = .ok (.aload 5, 2) := by decide +kernel
theorem dX4_gather_49 : decode cX4_gather 49 = .ok (.aload_n 0, 1) := by decide +kernel
theorem dX4_gather_50 : decode cX4_gather 50 = .ok (.aload 5, 2) := by decide +kernel
theorem dX4_gather_52 : decode cX4_gather 52 = .ok (.invokevirtual 244, 3) := by decide +kernel
theorem dX4_gather_55 : decode cX4_gather 55 = .ok (.ifCond .eq 17, 3) := by decide +kernel
theorem dX4_gather_58 : decode cX4_gather 58 = .ok (.aload 5, 2) := by decide +kernel
theorem dX4_gather_60 : decode cX4_gather 60 = .ok (.getfield 191, 3) := by decide +kernel
theorem dX4_gather_63 : decode cX4_gather 63 = .ok (.getfield 60, 3) := by decide +kernel
theorem dX4_gather_66 : decode cX4_gather 66 = .ok (.getfield 64, 3) := by decide +kernel
theorem dX4_gather_69 : decode cX4_gather 69 = .ok (.goto 4, 3) := by decide +kernel
theorem dX4_gather_72 : decode cX4_gather 72 = .ok (.iconst 0, 1) := by decide +kernel
theorem dX4_gather_73 : decode cX4_gather 73 = .ok (.putfield 248, 3) := by decide +kernel
theorem dX4_gather_76 : decode cX4_gather 76 = .ok (.iinc 4 1, 3) := by decide +kernel
theorem dX4_gather_79 : decode cX4_gather 79 = .ok (.goto (-58), 3) := by decide +kernel
theorem dX4_gather_82 : decode cX4_gather 82 = .ok (.iconst 0, 1) := by decide +kernel
theorem dX4_gather_83 : decode cX4_gather 83 = .ok (.istore 4, 2) := by decide +kernel
theorem dX4_gather_85 : decode cX4_gather 85 = .ok (.iload 4, 2) := by decide +kernel
theorem dX4_gather_87 : decode cX4_gather 87 = .ok (.aload_n 3, 1) := by decide +kernel
theorem dX4_gather_88 : decode cX4_gather 88 = .ok (.getfield 157, 3) := by decide +kernel
theorem dX4_gather_91 : decode cX4_gather 91 = .ok (.arraylength, 1) := by decide +kernel
theorem dX4_gather_92 : decode cX4_gather 92 = .ok (.if_icmp .ge 33, 3) := by decide +kernel
theorem dX4_gather_95 : decode cX4_gather 95 = .ok (.aload_n 0, 1) := by decide +kernel
theorem dX4_gather_96 : decode cX4_gather 96 = .ok (.aload_n 1, 1) := by decide +kernel
theorem dX4_gather_97 : decode cX4_gather 97 = .ok (.getfield 120, 3) := by decide +kernel
theorem dX4_gather_100 : decode cX4_gather 100 = .ok (.iload_n 2, 1) := by decide +kernel
theorem dX4_gather_101 : decode cX4_gather 101 = .ok (.invokevirtual 251, 3) := by decide +kernel
theorem dX4_gather_104 : decode cX4_gather 104 = .ok (.astore 5, 2) := by decide +kernel
theorem dX4_gather_106 : decode cX4_gather 106 = .ok (.aload 5, 2) := by decide +kernel
theorem dX4_gather_108 : decode cX4_gather 108 = .ok (.ifnonnull 4, 3) := by decide +kernel
theorem dX4_gather_111 : decode cX4_gather 111 = .ok (.return_, 1) := by decide +kernel
theorem dX4_gather_112 : decode cX4_gather 112 = .ok (.aload_n 0, 1) := by decide +kernel
theorem dX4_gather_113 : decode cX4_gather 113 = .ok (.aload 5, 2) := by decide +kernel
theorem dX4_gather_115 : decode cX4_gather 115 = .ok (.aload_n 3, 1) := by decide +kernel
theorem dX4_gather_116 : decode cX4_gather 116 = .ok (.invokevirtual 255, 3) := by decide +kernel
theorem dX4_gather_119 : decode cX4_gather 119 = .ok (.iinc 4 1, 3) := by decide +kernel
theorem dX4_gather_122 : decode cX4_gather 122 = .ok (.goto (-37), 3) := by decide +kernel
theorem dX4_gather_125 : decode cX4_gather 125 = .ok (.return_, 1) := by decide +kernel
theorem dX4_firstOf_0 : decode cX4_firstOf 0 = .ok (.aconst_null, 1) := by decide +kernel
theorem dX4_firstOf_1 : decode cX4_firstOf 1 = .ok (.astore_n 3, 1) := by decide +kernel
theorem dX4_firstOf_2 : decode cX4_firstOf 2 = .ok (.iconst 0, 1) := by decide +kernel
theorem dX4_firstOf_3 : decode cX4_firstOf 3 = .ok (.istore 4, 2) := by decide +kernel
theorem dX4_firstOf_5 : decode cX4_firstOf 5 = .ok (.iload 4, 2) := by decide +kernel
theorem dX4_firstOf_7 : decode cX4_firstOf 7 = .ok (.aload_n 1, 1) := by decide +kernel
theorem dX4_firstOf_8 : decode cX4_firstOf 8 = .ok (.invokevirtual 70, 3) := by decide +kernel
theorem dX4_firstOf_11 : decode cX4_firstOf 11 = .ok (.if_icmp .ge 52, 3) := by decide +kernel
theorem dX4_firstOf_14 : decode cX4_firstOf 14 = .ok (.aload_n 1, 1) := by decide +kernel
theorem dX4_firstOf_15 : decode cX4_firstOf 15 = .ok (.iload 4, 2) := by decide +kernel
theorem dX4_firstOf_17 : decode cX4_firstOf 17 = .ok (.invokevirtual 98, 3) := by decide +kernel
theorem dX4_firstOf_20 : decode cX4_firstOf 20 = .ok (.checkcast 115, 3) := by decide +kernel
theorem dX4_firstOf_23 : decode cX4_firstOf 23 = .ok (.astore 5, 2) := by decide +kernel
theorem dX4_firstOf_25 : decode cX4_firstOf 25 = .ok (.aload_n 0, 1) := by decide +kernel
theorem dX4_firstOf_26 : decode cX4_firstOf 26 = .ok (.aload 5, 2) := by decide +kernel
theorem dX4_firstOf_28 : decode cX4_firstOf 28 = .ok (.iload_n 2, 1) := by decide +kernel
theorem dX4_firstOf_29 : decode cX4_firstOf 29 = .ok (.invokevirtual 259, 3) := by decide +kernel
theorem dX4_firstOf_32 : decode cX4_firstOf 32 = .ok (.ifCond .eq 25, 3) := by decide +kernel
theorem dX4_firstOf_35 : decode cX4_firstOf 35 = .ok (.aload_n 3, 1) := by decide +kernel
theorem dX4_firstOf_36 : decode cX4_firstOf 36 = .ok (.ifnull 18, 3) := by decide +kernel
theorem dX4_firstOf_39 : decode cX4_firstOf 39 = .ok (.aload_n 0, 1) := by decide +kernel
theorem dX4_firstOf_40 : decode cX4_firstOf 40 = .ok (.aload 5, 2) := by decide +kernel
theorem dX4_firstOf_42 : decode cX4_firstOf 42 = .ok (.invokevirtual 263, 3) := by decide +kernel
theorem dX4_firstOf_45 : decode cX4_firstOf 45 = .ok (.aload_n 0, 1) := by decide +kernel
theorem dX4_firstOf_46 : decode cX4_firstOf 46 = .ok (.aload_n 3, 1) := by decide +kernel
theorem dX4_firstOf_47 : decode cX4_firstOf 47 = .ok (.invokevirtual 263, 3) := by decide +kernel
theorem dX4_firstOf_50 : decode cX4_firstOf 50 = .ok (.dcmp .g, 1) := by decide +kernel
theorem dX4_firstOf_51 : decode cX4_firstOf 51 = .ok (.ifCond .ge 6, 3) := by decide +kernel
theorem dX4_firstOf_54 : decode cX4_firstOf 54 = .ok (.aload 5, 2) := by decide +kernel
theorem dX4_firstOf_56 : decode cX4_firstOf 56 = .ok (.astore_n 3, 1) := by decide +kernel
theorem dX4_firstOf_57 : decode cX4_firstOf 57 = .ok (.iinc 4 1, 3) := by decide +kernel
theorem dX4_firstOf_60 : decode cX4_firstOf 60 = .ok (.goto (-55), 3) := by decide +kernel
theorem dX4_firstOf_63 : decode cX4_firstOf 63 = .ok (.aload_n 3, 1) := by decide +kernel
theorem dX4_firstOf_64 : decode cX4_firstOf 64 = .ok (.areturn, 1) := by decide +kernel
theorem dX4_hasNext_0 : decode cX4_hasNext 0 = .ok (.aload_n 1, 1) := by decide +kernel
theorem dX4_hasNext_1 : decode cX4_hasNext 1 = .ok (.getfield 191, 3) := by decide +kernel
theorem dX4_hasNext_4 : decode cX4_hasNext 4 = .ok (.getfield 60, 3) := by decide +kernel
theorem dX4_hasNext_7 : decode cX4_hasNext 7 = .ok (.getfield 64, 3) := by decide +kernel
theorem dX4_hasNext_10 : decode cX4_hasNext 10 = .ok (.istore_n 3, 1) := by decide +kernel
theorem dX4_hasNext_11 : decode cX4_hasNext 11 = .ok (.aload_n 1, 1) := by decide +kernel
theorem dX4_hasNext_12 : decode cX4_hasNext 12 = .ok (.getfield 248, 3) := by decide +kernel
theorem dX4_hasNext_15 : decode cX4_hasNext 15 = .ok (.iload_n 3, 1) := by decide +kernel
theorem dX4_hasNext_16 : decode cX4_hasNext 16 = .ok (.if_icmp .ge 30, 3) := by decide +kernel
theorem dX4_hasNext_19 : decode cX4_hasNext 19 = .ok (.aload_n 0, 1) := by decide +kernel
theorem dX4_hasNext_20 : decode cX4_hasNext 20 = .ok (.getfield 47, 3) := by decide +kernel
theorem dX4_hasNext_23 : decode cX4_hasNext 23 = .ok (.aload_n 0, 1) := by decide +kernel
theorem dX4_hasNext_24 : decode cX4_hasNext 24 = .ok (.aload_n 1, 1) := by decide +kernel
theorem dX4_hasNext_25 : decode cX4_hasNext 25 = .ok (.invokevirtual 267, 3) := by decide +kernel
theorem dX4_hasNext_28 : decode cX4_hasNext 28 = .ok (.iaload, 1) := by decide +kernel
theorem dX4_hasNext_29 : decode cX4_hasNext 29 = .ok (.iload_n 2, 1) := by decide +kernel
theorem dX4_hasNext_30 : decode cX4_hasNext 30 = .ok (.if_icmp .lt 16, 3) := by decide +kernel
theorem dX4_hasNext_33 : decode cX4_hasNext 33 = .ok (.aload_n 1, 1) := by decide +kernel
theorem dX4_hasNext_34 : decode cX4_hasNext 34 = .ok (.dup, 1) := by decide +kernel
theorem dX4_hasNext_35 : decode cX4_hasNext 35 = .ok (.getfield 248, 3) := by decide +kernel
theorem dX4_hasNext_38 : decode cX4_hasNext 38 = .ok (.iconst 1, 1) := by decide +kernel
theorem dX4_hasNext_39 : decode cX4_hasNext 39 = .ok (.iadd, 1) := by decide +kernel
theorem dX4_hasNext_40 : decode cX4_hasNext 40 = .ok (.putfield 248, 3) := by decide +kernel
theorem dX4_hasNext_43 : decode cX4_hasNext 43 = .ok (.goto (-32), 3) := by decide +kernel
theorem dX4_hasNext_46 : decode cX4_hasNext 46 = .ok (.aload_n 1, 1) := by decide +kernel
theorem dX4_hasNext_47 : decode cX4_hasNext 47 = .ok (.getfield 248, 3) := by decide +kernel
theorem dX4_hasNext_50 : decode cX4_hasNext 50 = .ok (.iload_n 3, 1) := by decide +kernel
theorem dX4_hasNext_51 : decode cX4_hasNext 51 = .ok (.if_icmp .ge 7, 3) := by decide +kernel
theorem dX4_hasNext_54 : decode cX4_hasNext 54 = .ok (.iconst 1, 1) := by decide +kernel
theorem dX4_hasNext_55 : decode cX4_hasNext 55 = .ok (.goto 4, 3) := by decide +kernel
theorem dX4_hasNext_58 : decode cX4_hasNext 58 = .ok (.iconst 0, 1) := by decide +kernel
theorem dX4_hasNext_59 : decode cX4_hasNext 59 = .ok (.ireturn, 1) := by decide +kernel
theorem dX4_leftByNext_0 : decode cX4_leftByNext 0 = .ok (.aload_n 1, 1) := by decide +kernel
theorem dX4_leftByNext_1 : decode cX4_leftByNext 1 = .ok (.getfield 191, 3) := by decide +kernel
theorem dX4_leftByNext_4 : decode cX4_leftByNext 4 = .ok (.getfield 60, 3) := by decide +kernel
theorem dX4_leftByNext_7 : decode cX4_leftByNext 7 = .ok (.getfield 157, 3) := by decide +kernel
theorem dX4_leftByNext_10 : decode cX4_leftByNext 10 = .ok (.aload_n 1, 1) := by decide +kernel
theorem dX4_leftByNext_11 : decode cX4_leftByNext 11 = .ok (.getfield 248, 3) := by decide +kernel
theorem dX4_leftByNext_14 : decode cX4_leftByNext 14 = .ok (.daload, 1) := by decide +kernel
theorem dX4_leftByNext_15 : decode cX4_leftByNext 15 = .ok (.aload_n 1, 1) := by decide +kernel
theorem dX4_leftByNext_16 : decode cX4_leftByNext 16 = .ok (.getfield 194, 3) := by decide +kernel
theorem dX4_leftByNext_19 : decode cX4_leftByNext 19 = .ok (.dsub, 1) := by decide +kernel
theorem dX4_leftByNext_20 : decode cX4_leftByNext 20 = .ok (.dreturn, 1) := by decide +kernel
theorem dX4_groupOfNext_0 : decode cX4_groupOfNext 0 = .ok (.aload_n 1, 1) := by decide +kernel
theorem dX4_groupOfNext_1 : decode cX4_groupOfNext 1 = .ok (.getfield 191, 3) := by decide +kernel
theorem dX4_groupOfNext_4 : decode cX4_groupOfNext 4 = .ok (.aload_n 0, 1) := by decide +kernel
theorem dX4_groupOfNext_5 : decode cX4_groupOfNext 5 = .ok (.getfield 44, 3) := by decide +kernel
theorem dX4_groupOfNext_8 : decode cX4_groupOfNext 8 = .ok (.if_acmp .ne 10, 3) := by decide +kernel
theorem dX4_groupOfNext_11 : decode cX4_groupOfNext 11 = .ok (.aload_n 1, 1) := by decide +kernel
theorem dX4_groupOfNext_12 : decode cX4_groupOfNext 12 = .ok (.getfield 172, 3) := by decide +kernel
theorem dX4_groupOfNext_15 : decode cX4_groupOfNext 15 = .ok (.goto 18, 3) := by decide +kernel
theorem dX4_groupOfNext_18 : decode cX4_groupOfNext 18 = .ok (.aload_n 1, 1) := by decide +kernel
theorem dX4_groupOfNext_19 : decode cX4_groupOfNext 19 = .ok (.getfield 191, 3) := by decide +kernel
theorem dX4_groupOfNext_22 : decode cX4_groupOfNext 22 = .ok (.getfield 60, 3) := by decide +kernel
theorem dX4_groupOfNext_25 : decode cX4_groupOfNext 25 = .ok (.getfield 271, 3) := by decide +kernel
theorem dX4_groupOfNext_28 : decode cX4_groupOfNext 28 = .ok (.aload_n 1, 1) := by decide +kernel
theorem dX4_groupOfNext_29 : decode cX4_groupOfNext 29 = .ok (.getfield 248, 3) := by decide +kernel
theorem dX4_groupOfNext_32 : decode cX4_groupOfNext 32 = .ok (.iaload, 1) := by decide +kernel
theorem dX4_groupOfNext_33 : decode cX4_groupOfNext 33 = .ok (.ireturn, 1) := by decide +kernel
theorem dX4_take_0 : decode cX4_take 0 = .ok (.aload_n 0, 1) := by decide +kernel
theorem dX4_take_1 : decode cX4_take 1 = .ok (.aload_n 1, 1) := by decide +kernel
theorem dX4_take_2 : decode cX4_take 2 = .ok (.invokevirtual 267, 3) := by decide +kernel
theorem dX4_take_5 : decode cX4_take 5 = .ok (.istore_n 3, 1) := by decide +kernel
theorem dX4_take_6 : decode cX4_take 6 = .ok (.aload_n 2, 1) := by decide +kernel
theorem dX4_take_7 : decode cX4_take 7 = .ok (.getfield 157, 3) := by decide +kernel
theorem dX4_take_10 : decode cX4_take 10 = .ok (.aload_n 2, 1) := by decide +kernel
theorem dX4_take_11 : decode cX4_take 11 = .ok (.getfield 64, 3) := by decide +kernel
theorem dX4_take_14 : decode cX4_take 14 = .ok (.aload_n 0, 1) := by decide +kernel
theorem dX4_take_15 : decode cX4_take 15 = .ok (.aload_n 1, 1) := by decide +kernel
theorem dX4_take_16 : decode cX4_take 16 = .ok (.invokevirtual 263, 3) := by decide +kernel
theorem dX4_take_19 : decode cX4_take 19 = .ok (.dastore, 1) := by decide +kernel
theorem dX4_take_20 : decode cX4_take 20 = .ok (.aload_n 2, 1) := by decide +kernel
theorem dX4_take_21 : decode cX4_take 21 = .ok (.getfield 273, 3) := by decide +kernel
theorem dX4_take_24 : decode cX4_take 24 = .ok (.aload_n 2, 1) := by decide +kernel
theorem dX4_take_25 : decode cX4_take 25 = .ok (.getfield 64, 3) := by decide +kernel
theorem dX4_take_28 : decode cX4_take 28 = .ok (.aload_n 1, 1) := by decide +kernel
theorem dX4_take_29 : decode cX4_take 29 = .ok (.aastore, 1) := by decide +kernel
theorem dX4_take_30 : decode cX4_take 30 = .ok (.aload_n 2, 1) := by decide +kernel
theorem dX4_take_31 : decode cX4_take 31 = .ok (.getfield 277, 3) := by decide +kernel
theorem dX4_take_34 : decode cX4_take 34 = .ok (.aload_n 2, 1) := by decide +kernel
theorem dX4_take_35 : decode cX4_take 35 = .ok (.getfield 64, 3) := by decide +kernel
theorem dX4_take_38 : decode cX4_take 38 = .ok (.aload_n 1, 1) := by decide +kernel
theorem dX4_take_39 : decode cX4_take 39 = .ok (.getfield 248, 3) := by decide +kernel
theorem dX4_take_42 : decode cX4_take 42 = .ok (.iastore, 1) := by decide +kernel
theorem dX4_take_43 : decode cX4_take 43 = .ok (.aload_n 2, 1) := by decide +kernel
theorem dX4_take_44 : decode cX4_take 44 = .ok (.getfield 271, 3) := by decide +kernel
theorem dX4_take_47 : decode cX4_take 47 = .ok (.aload_n 2, 1) := by decide +kernel
theorem dX4_take_48 : decode cX4_take 48 = .ok (.getfield 64, 3) := by decide +kernel
theorem dX4_take_51 : decode cX4_take 51 = .ok (.iload_n 3, 1) := by decide +kernel
theorem dX4_take_52 : decode cX4_take 52 = .ok (.iastore, 1) := by decide +kernel
theorem dX4_take_53 : decode cX4_take 53 = .ok (.aload_n 2, 1) := by decide +kernel
theorem dX4_take_54 : decode cX4_take 54 = .ok (.dup, 1) := by decide +kernel
theorem dX4_take_55 : decode cX4_take 55 = .ok (.getfield 64, 3) := by decide +kernel
theorem dX4_take_58 : decode cX4_take 58 = .ok (.iconst 1, 1) := by decide +kernel
theorem dX4_take_59 : decode cX4_take 59 = .ok (.iadd, 1) := by decide +kernel
theorem dX4_take_60 : decode cX4_take 60 = .ok (.putfield 64, 3) := by decide +kernel
theorem dX4_take_63 : decode cX4_take 63 = .ok (.aload_n 0, 1) := by decide +kernel
theorem dX4_take_64 : decode cX4_take 64 = .ok (.getfield 47, 3) := by decide +kernel
theorem dX4_take_67 : decode cX4_take 67 = .ok (.iload_n 3, 1) := by decide +kernel
theorem dX4_take_68 : decode cX4_take 68 = .ok (.dup2, 1) := by decide +kernel
theorem dX4_take_69 : decode cX4_take 69 = .ok (.iaload, 1) := by decide +kernel
theorem dX4_take_70 : decode cX4_take 70 = .ok (.iconst 1, 1) := by decide +kernel
theorem dX4_take_71 : decode cX4_take 71 = .ok (.iadd, 1) := by decide +kernel
theorem dX4_take_72 : decode cX4_take 72 = .ok (.iastore, 1) := by decide +kernel
theorem dX4_take_73 : decode cX4_take 73 = .ok (.aload_n 1, 1) := by decide +kernel
theorem dX4_take_74 : decode cX4_take 74 = .ok (.dup, 1) := by decide +kernel
theorem dX4_take_75 : decode cX4_take 75 = .ok (.getfield 248, 3) := by decide +kernel
theorem dX4_take_78 : decode cX4_take 78 = .ok (.iconst 1, 1) := by decide +kernel
theorem dX4_take_79 : decode cX4_take 79 = .ok (.iadd, 1) := by decide +kernel
theorem dX4_take_80 : decode cX4_take 80 = .ok (.putfield 248, 3) := by decide +kernel
theorem dX4_take_83 : decode cX4_take 83 = .ok (.return_, 1) := by decide +kernel
theorem dX4_stepOf_0 : decode cX4_stepOf 0 = .ok (.iload_n 2, 1) := by decide +kernel
theorem dX4_stepOf_1 : decode cX4_stepOf 1 = .ok (.ifCond .ge 5, 3) := by decide +kernel
theorem dX4_stepOf_4 : decode cX4_stepOf 4 = .ok (.aconst_null, 1) := by decide +kernel
theorem dX4_stepOf_5 : decode cX4_stepOf 5 = .ok (.areturn, 1) := by decide +kernel
theorem dX4_stepOf_6 : decode cX4_stepOf 6 = .ok (.aload_n 0, 1) := by decide +kernel
theorem dX4_stepOf_7 : decode cX4_stepOf 7 = .ok (.getfield 40, 3) := by decide +kernel
theorem dX4_stepOf_10 : decode cX4_stepOf 10 = .ok (.getfield 60, 3) := by decide +kernel
theorem dX4_stepOf_13 : decode cX4_stepOf 13 = .ok (.astore_n 3, 1) := by decide +kernel
theorem dX4_stepOf_14 : decode cX4_stepOf 14 = .ok (.iload_n 1, 1) := by decide +kernel
theorem dX4_stepOf_15 : decode cX4_stepOf 15 = .ok (.istore 4, 2) := by decide +kernel
theorem dX4_stepOf_17 : decode cX4_stepOf 17 = .ok (.iconst 0, 1) := by decide +kernel
theorem dX4_stepOf_18 : decode cX4_stepOf 18 = .ok (.istore 5, 2) := by decide +kernel
theorem dX4_stepOf_20 : decode cX4_stepOf 20 = .ok (.iload 5, 2) := by decide +kernel
theorem dX4_stepOf_22 : decode cX4_stepOf 22 = .ok (.iload_n 2, 1) := by decide +kernel
theorem dX4_stepOf_23 : decode cX4_stepOf 23 = .ok (.if_icmp .ge 42, 3) := by decide +kernel
theorem dX4_stepOf_26 : decode cX4_stepOf 26 = .ok (.aload_n 3, 1) := by decide +kernel
theorem dX4_stepOf_27 : decode cX4_stepOf 27 = .ok (.iload 4, 2) := by decide +kernel
theorem dX4_stepOf_29 : decode cX4_stepOf 29 = .ok (.invokestatic 280, 3) := by decide +kernel
theorem dX4_stepOf_32 : decode cX4_stepOf 32 = .ok (.astore 6, 2) := by decide +kernel
theorem dX4_stepOf_34 : decode cX4_stepOf 34 = .ok (.aload 6, 2) := by decide +kernel
theorem dX4_stepOf_36 : decode cX4_stepOf 36 = .ok (.ifnonnull 5, 3) := by decide +kernel
theorem dX4_stepOf_39 : decode cX4_stepOf 39 = .ok (.aconst_null, 1) := by decide +kernel
theorem dX4_stepOf_40 : decode cX4_stepOf 40 = .ok (.areturn, 1) := by decide +kernel
theorem dX4_stepOf_41 : decode cX4_stepOf 41 = .ok (.aload_n 3, 1) := by decide +kernel
theorem dX4_stepOf_42 : decode cX4_stepOf 42 = .ok (.getfield 277, 3) := by decide +kernel
theorem dX4_stepOf_45 : decode cX4_stepOf 45 = .ok (.iload 4, 2) := by decide +kernel
theorem dX4_stepOf_47 : decode cX4_stepOf 47 = .ok (.iaload, 1) := by decide +kernel
theorem dX4_stepOf_48 : decode cX4_stepOf 48 = .ok (.istore 4, 2) := by decide +kernel
theorem dX4_stepOf_50 : decode cX4_stepOf 50 = .ok (.aload 6, 2) := by decide +kernel
theorem dX4_stepOf_52 : decode cX4_stepOf 52 = .ok (.getfield 191, 3) := by decide +kernel
theorem dX4_stepOf_55 : decode cX4_stepOf 55 = .ok (.getfield 60, 3) := by decide +kernel
theorem dX4_stepOf_58 : decode cX4_stepOf 58 = .ok (.astore_n 3, 1) := by decide +kernel
theorem dX4_stepOf_59 : decode cX4_stepOf 59 = .ok (.iinc 5 1, 3) := by decide +kernel
theorem dX4_stepOf_62 : decode cX4_stepOf 62 = .ok (.goto (-42), 3) := by decide +kernel
theorem dX4_stepOf_65 : decode cX4_stepOf 65 = .ok (.aload_n 3, 1) := by decide +kernel
theorem dX4_stepOf_66 : decode cX4_stepOf 66 = .ok (.iload 4, 2) := by decide +kernel
theorem dX4_stepOf_68 : decode cX4_stepOf 68 = .ok (.invokestatic 280, 3) := by decide +kernel
theorem dX4_stepOf_71 : decode cX4_stepOf 71 = .ok (.areturn, 1) := by decide +kernel
theorem dX4_firstStep_0 : decode cX4_firstStep 0 = .ok (.iload_n 1, 1) := by decide +kernel
theorem dX4_firstStep_1 : decode cX4_firstStep 1 = .ok (.ifCond .lt 20, 3) := by decide +kernel
theorem dX4_firstStep_4 : decode cX4_firstStep 4 = .ok (.iload_n 1, 1) := by decide +kernel
theorem dX4_firstStep_5 : decode cX4_firstStep 5 = .ok (.aload_n 0, 1) := by decide +kernel
theorem dX4_firstStep_6 : decode cX4_firstStep 6 = .ok (.getfield 64, 3) := by decide +kernel
theorem dX4_firstStep_9 : decode cX4_firstStep 9 = .ok (.if_icmp .ge 12, 3) := by decide +kernel
theorem dX4_firstStep_12 : decode cX4_firstStep 12 = .ok (.aload_n 0, 1) := by decide +kernel
theorem dX4_firstStep_13 : decode cX4_firstStep 13 = .ok (.getfield 273, 3) := by decide +kernel
theorem dX4_firstStep_16 : decode cX4_firstStep 16 = .ok (.iload_n 1, 1) := by decide +kernel
theorem dX4_firstStep_17 : decode cX4_firstStep 17 = .ok (.aaload, 1) := by decide +kernel
theorem dX4_firstStep_18 : decode cX4_firstStep 18 = .ok (.goto 4, 3) := by decide +kernel
theorem dX4_firstStep_21 : decode cX4_firstStep 21 = .ok (.aconst_null, 1) := by decide +kernel
theorem dX4_firstStep_22 : decode cX4_firstStep 22 = .ok (.areturn, 1) := by decide +kernel
theorem dX4_isInput_0 : decode cX4_isInput 0 = .ok (.aload_n 0, 1) := by decide +kernel
theorem dX4_isInput_1 : decode cX4_isInput 1 = .ok (.getfield 183, 3) := by decide +kernel
theorem dX4_isInput_4 : decode cX4_isInput 4 = .ok (.iload_n 1, 1) := by decide +kernel
theorem dX4_isInput_5 : decode cX4_isInput 5 = .ok (.if_icmp .eq 5, 3) := by decide +kernel
theorem dX4_isInput_8 : decode cX4_isInput 8 = .ok (.iconst 0, 1) := by decide +kernel
theorem dX4_isInput_9 : decode cX4_isInput 9 = .ok (.ireturn, 1) := by decide +kernel
theorem dX4_isInput_10 : decode cX4_isInput 10 = .ok (.iconst 0, 1) := by decide +kernel
theorem dX4_isInput_11 : decode cX4_isInput 11 = .ok (.istore_n 2, 1) := by decide +kernel
theorem dX4_isInput_12 : decode cX4_isInput 12 = .ok (.iload_n 2, 1) := by decide +kernel
theorem dX4_isInput_13 : decode cX4_isInput 13 = .ok (.aload_n 0, 1) := by decide +kernel
theorem dX4_isInput_14 : decode cX4_isInput 14 = .ok (.getfield 123, 3) := by decide +kernel
theorem dX4_isInput_17 : decode cX4_isInput 17 = .ok (.invokevirtual 70, 3) := by decide +kernel
theorem dX4_isInput_20 : decode cX4_isInput 20 = .ok (.if_icmp .ge 32, 3) := by decide +kernel
theorem dX4_isInput_23 : decode cX4_isInput 23 = .ok (.aload_n 0, 1) := by decide +kernel
theorem dX4_isInput_24 : decode cX4_isInput 24 = .ok (.getfield 123, 3) := by decide +kernel
theorem dX4_isInput_27 : decode cX4_isInput 27 = .ok (.iload_n 2, 1) := by decide +kernel
theorem dX4_isInput_28 : decode cX4_isInput 28 = .ok (.invokevirtual 98, 3) := by decide +kernel
theorem dX4_isInput_31 : decode cX4_isInput 31 = .ok (.checkcast 115, 3) := by decide +kernel
theorem dX4_isInput_34 : decode cX4_isInput 34 = .ok (.getfield 241, 3) := by decide +kernel
theorem dX4_isInput_37 : decode cX4_isInput 37 = .ok (.getfield 183, 3) := by decide +kernel
theorem dX4_isInput_40 : decode cX4_isInput 40 = .ok (.iload_n 1, 1) := by decide +kernel
theorem dX4_isInput_41 : decode cX4_isInput 41 = .ok (.if_icmp .eq 5, 3) := by decide +kernel
theorem dX4_isInput_44 : decode cX4_isInput 44 = .ok (.iconst 1, 1) := by decide +kernel
theorem dX4_isInput_45 : decode cX4_isInput 45 = .ok (.ireturn, 1) := by decide +kernel
theorem dX4_isInput_46 : decode cX4_isInput 46 = .ok (.iinc 2 1, 3) := by decide +kernel
theorem dX4_isInput_49 : decode cX4_isInput 49 = .ok (.goto (-37), 3) := by decide +kernel
theorem dX4_isInput_52 : decode cX4_isInput 52 = .ok (.iconst 0, 1) := by decide +kernel
theorem dX4_isInput_53 : decode cX4_isInput 53 = .ok (.ireturn, 1) := by decide +kernel
theorem dX4_isOutput_0 : decode cX4_isOutput 0 = .ok (.aload_n 0, 1) := by decide +kernel
theorem dX4_isOutput_1 : decode cX4_isOutput 1 = .ok (.getfield 183, 3) := by decide +kernel
theorem dX4_isOutput_4 : decode cX4_isOutput 4 = .ok (.iload_n 1, 1) := by decide +kernel
theorem dX4_isOutput_5 : decode cX4_isOutput 5 = .ok (.if_icmp .eq 5, 3) := by decide +kernel
theorem dX4_isOutput_8 : decode cX4_isOutput 8 = .ok (.iconst 0, 1) := by decide +kernel
theorem dX4_isOutput_9 : decode cX4_isOutput 9 = .ok (.ireturn, 1) := by decide +kernel
theorem dX4_isOutput_10 : decode cX4_isOutput 10 = .ok (.iconst 0, 1) := by decide +kernel
theorem dX4_isOutput_11 : decode cX4_isOutput 11 = .ok (.istore_n 2, 1) := by decide +kernel
theorem dX4_isOutput_12 : decode cX4_isOutput 12 = .ok (.iload_n 2, 1) := by decide +kernel
theorem dX4_isOutput_13 : decode cX4_isOutput 13 = .ok (.aload_n 0, 1) := by decide +kernel
theorem dX4_isOutput_14 : decode cX4_isOutput 14 = .ok (.getfield 120, 3) := by decide +kernel
theorem dX4_isOutput_17 : decode cX4_isOutput 17 = .ok (.invokevirtual 70, 3) := by decide +kernel
theorem dX4_isOutput_20 : decode cX4_isOutput 20 = .ok (.if_icmp .ge 32, 3) := by decide +kernel
theorem dX4_isOutput_23 : decode cX4_isOutput 23 = .ok (.aload_n 0, 1) := by decide +kernel
theorem dX4_isOutput_24 : decode cX4_isOutput 24 = .ok (.getfield 120, 3) := by decide +kernel
theorem dX4_isOutput_27 : decode cX4_isOutput 27 = .ok (.iload_n 2, 1) := by decide +kernel
theorem dX4_isOutput_28 : decode cX4_isOutput 28 = .ok (.invokevirtual 98, 3) := by decide +kernel
theorem dX4_isOutput_31 : decode cX4_isOutput 31 = .ok (.checkcast 115, 3) := by decide +kernel
theorem dX4_isOutput_34 : decode cX4_isOutput 34 = .ok (.getfield 191, 3) := by decide +kernel
theorem dX4_isOutput_37 : decode cX4_isOutput 37 = .ok (.getfield 183, 3) := by decide +kernel
theorem dX4_isOutput_40 : decode cX4_isOutput 40 = .ok (.iload_n 1, 1) := by decide +kernel
theorem dX4_isOutput_41 : decode cX4_isOutput 41 = .ok (.if_icmp .eq 5, 3) := by decide +kernel
theorem dX4_isOutput_44 : decode cX4_isOutput 44 = .ok (.iconst 1, 1) := by decide +kernel
theorem dX4_isOutput_45 : decode cX4_isOutput 45 = .ok (.ireturn, 1) := by decide +kernel
theorem dX4_isOutput_46 : decode cX4_isOutput 46 = .ok (.iinc 2 1, 3) := by decide +kernel
theorem dX4_isOutput_49 : decode cX4_isOutput 49 = .ok (.goto (-37), 3) := by decide +kernel
theorem dX4_isOutput_52 : decode cX4_isOutput 52 = .ok (.iconst 0, 1) := by decide +kernel
theorem dX4_isOutput_53 : decode cX4_isOutput 53 = .ok (.ireturn, 1) := by decide +kernel
theorem dX4_countReachedOutputs_0 : decode cX4_countReachedOutputs 0 = .ok (.iconst 0, 1) := by decide +kernel
theorem dX4_countReachedOutputs_1 : decode cX4_countReachedOutputs 1 = .ok (.istore_n 2, 1) := by decide +kernel
theorem dX4_countReachedOutputs_2 : decode cX4_countReachedOutputs 2 = .ok (.iconst 0, 1) := by decide +kernel
theorem dX4_countReachedOutputs_3 : decode cX4_countReachedOutputs 3 = .ok (.istore_n 3, 1) := by decide +kernel
theorem dX4_countReachedOutputs_4 : decode cX4_countReachedOutputs 4 = .ok (.iload_n 3, 1) := by decide +kernel
theorem dX4_countReachedOutputs_5 : decode cX4_countReachedOutputs 5 = .ok (.aload_n 0, 1) := by decide +kernel
theorem dX4_countReachedOutputs_6 : decode cX4_countReachedOutputs 6 = .ok (.getfield 12, 3) := by decide +kernel
theorem dX4_countReachedOutputs_9 : decode cX4_countReachedOutputs 9 = .ok (.invokevirtual 70, 3) := by decide +kernel
theorem dX4_countReachedOutputs_12 : decode cX4_countReachedOutputs 12 = .ok (.if_icmp .ge 44, 3) := by decide +kernel
theorem dX4_countReachedOutputs_15 : decode cX4_countReachedOutputs 15 = .ok (.aload_n 0, 1) := by decide +kernel
theorem dX4_countReachedOutputs_16 : decode cX4_countReachedOutputs 16 = .ok (.getfield 12, 3) := by decide +kernel
theorem dX4_countReachedOutputs_19 : decode cX4_countReachedOutputs 19 = .ok (.iload_n 3, 1) := by decide +kernel
theorem dX4_countReachedOutputs_20 : decode cX4_countReachedOutputs 20 = .ok (.invokevirtual 98, 3) := by decide +kernel
theorem dX4_countReachedOutputs_23 : decode cX4_countReachedOutputs 23 = .ok (.checkcast 35, 3) := by decide +kernel
theorem dX4_countReachedOutputs_26 : decode cX4_countReachedOutputs 26 = .ok (.astore 4, 2) := by decide +kernel
theorem dX4_countReachedOutputs_28 : decode cX4_countReachedOutputs 28 = .ok (.aload 4, 2) := by decide +kernel
theorem dX4_countReachedOutputs_30 : decode cX4_countReachedOutputs 30 = .ok (.getfield 106, 3) := by decide +kernel
theorem dX4_countReachedOutputs_33 : decode cX4_countReachedOutputs 33 = .ok (.dconst 0, 1) := by decide +kernel
theorem dX4_countReachedOutputs_34 : decode cX4_countReachedOutputs 34 = .ok (.dcmp .l, 1) := by decide +kernel
theorem dX4_countReachedOutputs_35 : decode cX4_countReachedOutputs 35 = .ok (.ifCond .lt 15, 3) := by decide +kernel
theorem dX4_countReachedOutputs_38 : decode cX4_countReachedOutputs 38 = .ok (.aload 4, 2) := by decide +kernel
theorem dX4_countReachedOutputs_40 : decode cX4_countReachedOutputs 40 = .ok (.iload_n 1, 1) := by decide +kernel
theorem dX4_countReachedOutputs_41 : decode cX4_countReachedOutputs 41 = .ok (.invokestatic 186, 3) := by decide +kernel
theorem dX4_countReachedOutputs_44 : decode cX4_countReachedOutputs 44 = .ok (.ifCond .eq 6, 3) := by decide +kernel
theorem dX4_countReachedOutputs_47 : decode cX4_countReachedOutputs 47 = .ok (.iinc 2 1, 3) := by decide +kernel
theorem dX4_countReachedOutputs_50 : decode cX4_countReachedOutputs 50 = .ok (.iinc 3 1, 3) := by decide +kernel
theorem dX4_countReachedOutputs_53 : decode cX4_countReachedOutputs 53 = .ok (.goto (-49), 3) := by decide +kernel
theorem dX4_countReachedOutputs_56 : decode cX4_countReachedOutputs 56 = .ok (.iload_n 2, 1) := by decide +kernel
theorem dX4_countReachedOutputs_57 : decode cX4_countReachedOutputs 57 = .ok (.ireturn, 1) := by decide +kernel
theorem dX5_init_0 : decode cX5_init 0 = .ok (.aload_n 0, 1) := by decide +kernel
theorem dX5_init_1 : decode cX5_init 1 = .ok (.invokespecial 1, 3) := by decide +kernel
theorem dX5_init_4 : decode cX5_init 4 = .ok (.aload_n 0, 1) := by decide +kernel
theorem dX5_init_5 : decode cX5_init 5 = .ok (.bipush 60, 2) := by decide +kernel
theorem dX5_init_7 : decode cX5_init 7 = .ok (.newarray .int, 2) := by decide +kernel
theorem dX5_init_9 : decode cX5_init 9 = .ok (.putfield 7, 3) := by decide +kernel
theorem dX5_init_12 : decode cX5_init 12 = .ok (.aload_n 0, 1) := by decide +kernel
theorem dX5_init_13 : decode cX5_init 13 = .ok (.sipush 150, 3) := by decide +kernel
theorem dX5_init_16 : decode cX5_init 16 = .ok (.newarray .int, 2) := by decide +kernel
theorem dX5_init_18 : decode cX5_init 18 = .ok (.putfield 13, 3) := by decide +kernel
theorem dX5_init_21 : decode cX5_init 21 = .ok (.aload_n 0, 1) := by decide +kernel
theorem dX5_init_22 : decode cX5_init 22 = .ok (.sipush 150, 3) := by decide +kernel
theorem dX5_init_25 : decode cX5_init 25 = .ok (.newarray .int, 2) := by decide +kernel
theorem dX5_init_27 : decode cX5_init 27 = .ok (.putfield 16, 3) := by decide +kernel
theorem dX5_init_30 : decode cX5_init 30 = .ok (.aload_n 0, 1) := by decide +kernel
theorem dX5_init_31 : decode cX5_init 31 = .ok (.sipush 150, 3) := by decide +kernel
theorem dX5_init_34 : decode cX5_init 34 = .ok (.newarray .double, 2) := by decide +kernel
theorem dX5_init_36 : decode cX5_init 36 = .ok (.putfield 19, 3) := by decide +kernel
theorem dX5_init_39 : decode cX5_init 39 = .ok (.aload_n 0, 1) := by decide +kernel
theorem dX5_init_40 : decode cX5_init 40 = .ok (.bipush 30, 2) := by decide +kernel
theorem dX5_init_42 : decode cX5_init 42 = .ok (.newarray .int, 2) := by decide +kernel
theorem dX5_init_44 : decode cX5_init 44 = .ok (.putfield 23, 3) := by decide +kernel
theorem dX5_init_47 : decode cX5_init 47 = .ok (.aload_n 0, 1) := by decide +kernel
theorem dX5_init_48 : decode cX5_init 48 = .ok (.bipush 30, 2) := by decide +kernel
theorem dX5_init_50 : decode cX5_init 50 = .ok (.newarray .double, 2) := by decide +kernel
theorem dX5_init_52 : decode cX5_init 52 = .ok (.putfield 26, 3) := by decide +kernel
theorem dX5_init_55 : decode cX5_init 55 = .ok (.aload_n 0, 1) := by decide +kernel
theorem dX5_init_56 : decode cX5_init 56 = .ok (.bipush 30, 2) := by decide +kernel
theorem dX5_init_58 : decode cX5_init 58 = .ok (.newarray .int, 2) := by decide +kernel
theorem dX5_init_60 : decode cX5_init 60 = .ok (.putfield 29, 3) := by decide +kernel
theorem dX5_init_63 : decode cX5_init 63 = .ok (.aload_n 0, 1) := by decide +kernel
theorem dX5_init_64 : decode cX5_init 64 = .ok (.bipush 30, 2) := by decide +kernel
theorem dX5_init_66 : decode cX5_init 66 = .ok (.newarray .double, 2) := by decide +kernel
theorem dX5_init_68 : decode cX5_init 68 = .ok (.putfield 32, 3) := by decide +kernel
theorem dX5_init_71 : decode cX5_init 71 = .ok (.aload_n 0, 1) := by decide +kernel
theorem dX5_init_72 : decode cX5_init 72 = .ok (.bipush 30, 2) := by decide +kernel
theorem dX5_init_74 : decode cX5_init 74 = .ok (.newarray .int, 2) := by decide +kernel
theorem dX5_init_76 : decode cX5_init 76 = .ok (.putfield 35, 3) := by decide +kernel
theorem dX5_init_79 : decode cX5_init 79 = .ok (.aload_n 0, 1) := by decide +kernel
theorem dX5_init_80 : decode cX5_init 80 = .ok (.bipush 10, 2) := by decide +kernel
theorem dX5_init_82 : decode cX5_init 82 = .ok (.newarray .int, 2) := by decide +kernel
theorem dX5_init_84 : decode cX5_init 84 = .ok (.putfield 38, 3) := by decide +kernel
theorem dX5_init_87 : decode cX5_init 87 = .ok (.aload_n 0, 1) := by decide +kernel
theorem dX5_init_88 : decode cX5_init 88 = .ok (.bipush 50, 2) := by decide +kernel
theorem dX5_init_90 : decode cX5_init 90 = .ok (.newarray .int, 2) := by decide +kernel
theorem dX5_init_92 : decode cX5_init 92 = .ok (.putfield 41, 3) := by decide +kernel
theorem dX5_init_95 : decode cX5_init 95 = .ok (.aload_n 0, 1) := by decide +kernel
theorem dX5_init_96 : decode cX5_init 96 = .ok (.bipush 50, 2) := by decide +kernel
theorem dX5_init_98 : decode cX5_init 98 = .ok (.newarray .double, 2) := by decide +kernel
theorem dX5_init_100 : decode cX5_init 100 = .ok (.putfield 44, 3) := by decide +kernel
theorem dX5_init_103 : decode cX5_init 103 = .ok (.aload_n 0, 1) := by decide +kernel
theorem dX5_init_104 : decode cX5_init 104 = .ok (.sipush 26401, 3) := by decide +kernel
theorem dX5_init_107 : decode cX5_init 107 = .ok (.newarray .int, 2) := by decide +kernel
theorem dX5_init_109 : decode cX5_init 109 = .ok (.putfield 47, 3) := by decide +kernel
theorem dX5_init_112 : decode cX5_init 112 = .ok (.aload_n 0, 1) := by decide +kernel
theorem dX5_init_113 : decode cX5_init 113 = .ok (.sipush 26401, 3) := by decide +kernel
theorem dX5_init_116 : decode cX5_init 116 = .ok (.newarray .int, 2) := by decide +kernel
theorem dX5_init_118 : decode cX5_init 118 = .ok (.putfield 50, 3) := by decide +kernel
theorem dX5_init_121 : decode cX5_init 121 = .ok (.aload_n 0, 1) := by decide +kernel
theorem dX5_init_122 : decode cX5_init 122 = .ok (.sipush 26401, 3) := by decide +kernel
theorem dX5_init_125 : decode cX5_init 125 = .ok (.newarray .double, 2) := by decide +kernel
theorem dX5_init_127 : decode cX5_init 127 = .ok (.putfield 53, 3) := by decide +kernel
theorem dX5_init_130 : decode cX5_init 130 = .ok (.aload_n 0, 1) := by decide +kernel
theorem dX5_init_131 : decode cX5_init 131 = .ok (.sipush 660, 3) := by decide +kernel
theorem dX5_init_134 : decode cX5_init 134 = .ok (.newarray .int, 2) := by decide +kernel
theorem dX5_init_136 : decode cX5_init 136 = .ok (.putfield 56, 3) := by decide +kernel
theorem dX5_init_139 : decode cX5_init 139 = .ok (.aload_n 0, 1) := by decide +kernel
theorem dX5_init_140 : decode cX5_init 140 = .ok (.sipush 321, 3) := by decide +kernel
theorem dX5_init_143 : decode cX5_init 143 = .ok (.newarray .int, 2) := by decide +kernel
theorem dX5_init_145 : decode cX5_init 145 = .ok (.putfield 59, 3) := by decide +kernel
theorem dX5_init_148 : decode cX5_init 148 = .ok (.aload_n 0, 1) := by decide +kernel
theorem dX5_init_149 : decode cX5_init 149 = .ok (.sipush 321, 3) := by decide +kernel
theorem dX5_init_152 : decode cX5_init 152 = .ok (.newarray .int, 2) := by decide +kernel
theorem dX5_init_154 : decode cX5_init 154 = .ok (.putfield 62, 3) := by decide +kernel
theorem dX5_init_157 : decode cX5_init 157 = .ok (.aload_n 0, 1) := by decide +kernel
theorem dX5_init_158 : decode cX5_init 158 = .ok (.bipush 60, 2) := by decide +kernel
theorem dX5_init_160 : decode cX5_init 160 = .ok (.newarray .boolean, 2) := by decide +kernel
theorem dX5_init_162 : decode cX5_init 162 = .ok (.putfield 65, 3) := by decide +kernel
theorem dX5_init_165 : decode cX5_init 165 = .ok (.aload_n 0, 1) := by decide +kernel
theorem dX5_init_166 : decode cX5_init 166 = .ok (.bipush 64, 2) := by decide +kernel
theorem dX5_init_168 : decode cX5_init 168 = .ok (.newarray .int, 2) := by decide +kernel
theorem dX5_init_170 : decode cX5_init 170 = .ok (.putfield 69, 3) := by decide +kernel
theorem dX5_init_173 : decode cX5_init 173 = .ok (.aload_n 0, 1) := by decide +kernel
theorem dX5_init_174 : decode cX5_init 174 = .ok (.bipush 64, 2) := by decide +kernel
theorem dX5_init_176 : decode cX5_init 176 = .ok (.newarray .int, 2) := by decide +kernel
theorem dX5_init_178 : decode cX5_init 178 = .ok (.putfield 72, 3) := by decide +kernel
theorem dX5_init_181 : decode cX5_init 181 = .ok (.aload_n 0, 1) := by decide +kernel
theorem dX5_init_182 : decode cX5_init 182 = .ok (.bipush 60, 2) := by decide +kernel
theorem dX5_init_184 : decode cX5_init 184 = .ok (.newarray .int, 2) := by decide +kernel
theorem dX5_init_186 : decode cX5_init 186 = .ok (.putfield 75, 3) := by decide +kernel
theorem dX5_init_189 : decode cX5_init 189 = .ok (.aload_n 0, 1) := by decide +kernel
theorem dX5_init_190 : decode cX5_init 190 = .ok (.bipush 60, 2) := by decide +kernel
theorem dX5_init_192 : decode cX5_init 192 = .ok (.newarray .double, 2) := by decide +kernel
theorem dX5_init_194 : decode cX5_init 194 = .ok (.putfield 78, 3) := by decide +kernel
theorem dX5_init_197 : decode cX5_init 197 = .ok (.iconst 0, 1) := by decide +kernel
theorem dX5_init_198 : decode cX5_init 198 = .ok (.istore_n 1, 1) := by decide +kernel
theorem dX5_init_199 : decode cX5_init 199 = .ok (.iload_n 1, 1) := by decide +kernel
theorem dX5_init_200 : decode cX5_init 200 = .ok (.bipush 10, 2) := by decide +kernel
theorem dX5_init_202 : decode cX5_init 202 = .ok (.if_icmp .ge 16, 3) := by decide +kernel
theorem dX5_init_205 : decode cX5_init 205 = .ok (.aload_n 0, 1) := by decide +kernel
theorem dX5_init_206 : decode cX5_init 206 = .ok (.getfield 38, 3) := by decide +kernel
theorem dX5_init_209 : decode cX5_init 209 = .ok (.iload_n 1, 1) := by decide +kernel
theorem dX5_init_210 : decode cX5_init 210 = .ok (.iconst (-1), 1) := by decide +kernel
theorem dX5_init_211 : decode cX5_init 211 = .ok (.iastore, 1) := by decide +kernel
theorem dX5_init_212 : decode cX5_init 212 = .ok (.iinc 1 1, 3) := by decide +kernel
theorem dX5_init_215 : decode cX5_init 215 = .ok (.goto (-16), 3) := by decide +kernel
theorem dX5_init_218 : decode cX5_init 218 = .ok (.return_, 1) := by decide +kernel
theorem dX5_thrown_0 : decode cX5_thrown 0 = .ok (.aload_n 0, 1) := by decide +kernel
theorem dX5_thrown_1 : decode cX5_thrown 1 = .ok (.getfield 81, 3) := by decide +kernel
theorem dX5_thrown_4 : decode cX5_thrown 4 = .ok (.ireturn, 1) := by decide +kernel
theorem dX5_isPin_0 : decode cX5_isPin 0 = .ok (.iload_n 1, 1) := by decide +kernel
theorem dX5_isPin_1 : decode cX5_isPin 1 = .ok (.ifCond .lt 15, 3) := by decide +kernel
theorem dX5_isPin_4 : decode cX5_isPin 4 = .ok (.iload_n 1, 1) := by decide +kernel
theorem dX5_isPin_5 : decode cX5_isPin 5 = .ok (.aload_n 0, 1) := by decide +kernel
theorem dX5_isPin_6 : decode cX5_isPin 6 = .ok (.getfield 85, 3) := by decide +kernel
theorem dX5_isPin_9 : decode cX5_isPin 9 = .ok (.if_icmp .ge 7, 3) := by decide +kernel
theorem dX5_isPin_12 : decode cX5_isPin 12 = .ok (.iconst 1, 1) := by decide +kernel
theorem dX5_isPin_13 : decode cX5_isPin 13 = .ok (.goto 4, 3) := by decide +kernel
theorem dX5_isPin_16 : decode cX5_isPin 16 = .ok (.iconst 0, 1) := by decide +kernel
theorem dX5_isPin_17 : decode cX5_isPin 17 = .ok (.ireturn, 1) := by decide +kernel
theorem dX5_isTime_0 : decode cX5_isTime 0 = .ok (.dload_n 0, 1) := by decide +kernel
theorem dX5_isTime_1 : decode cX5_isTime 1 = .ok (.ldc2_w 88, 3) := by decide +kernel
theorem dX5_isTime_4 : decode cX5_isTime 4 = .ok (.dmul, 1) := by decide +kernel
end
section
theorem dX5_isTime_5 : decode cX5_isTime 5 = .ok (.dstore 4, 2) := by decide +kernel
theorem dX5_isTime_7 : decode cX5_isTime 7 = .ok (.dload_n 0, 1) := by decide +kernel
theorem dX5_isTime_8 : decode cX5_isTime 8 = .ok (.dload_n 2, 1) := by decide +kernel
theorem dX5_isTime_9 : decode cX5_isTime 9 = .ok (.dcmp .l, 1) := by decide +kernel
theorem dX5_isTime_10 : decode cX5_isTime 10 = .ok (.ifCond .lt 25, 3) := by decide +kernel
theorem dX5_isTime_13 : decode cX5_isTime 13 = .ok (.dload_n 0, 1) := by decide +kernel
theorem dX5_isTime_14 : decode cX5_isTime 14 = .ok (.ldc2_w 90, 3) := by decide +kernel
theorem dX5_isTime_17 : decode cX5_isTime 17 = .ok (.dcmp .g, 1) := by decide +kernel
theorem dX5_isTime_18 : decode cX5_isTime 18 = .ok (.ifCond .gt 17, 3) := by decide +kernel
theorem dX5_isTime_21 : decode cX5_isTime 21 = .ok (.dload 4, 2) := by decide +kernel
theorem dX5_isTime_23 : decode cX5_isTime 23 = .ok (.dload 4, 2) := by decide +kernel
theorem dX5_isTime_25 : decode cX5_isTime 25 = .ok (.d2l, 1) := by decide +kernel
theorem dX5_isTime_26 : decode cX5_isTime 26 = .ok (.l2d, 1) := by decide +kernel
theorem dX5_isTime_27 : decode cX5_isTime 27 = .ok (.dcmp .l, 1) := by decide +kernel
theorem dX5_isTime_28 : decode cX5_isTime 28 = .ok (.ifCond .ne 7, 3) := by decide +kernel
theorem dX5_isTime_31 : decode cX5_isTime 31 = .ok (.iconst 1, 1) := by decide +kernel
theorem dX5_isTime_32 : decode cX5_isTime 32 = .ok (.goto 4, 3) := by decide +kernel
theorem dX5_isTime_35 : decode cX5_isTime 35 = .ok (.iconst 0, 1) := by decide +kernel
theorem dX5_isTime_36 : decode cX5_isTime 36 = .ok (.ireturn, 1) := by decide +kernel
theorem dX5_pin_0 : decode cX5_pin 0 = .ok (.aload_n 0, 1) := by decide +kernel
theorem dX5_pin_1 : decode cX5_pin 1 = .ok (.aload_n 0, 1) := by decide +kernel
theorem dX5_pin_2 : decode cX5_pin 2 = .ok (.getfield 85, 3) := by decide +kernel
theorem dX5_pin_5 : decode cX5_pin 5 = .ok (.bipush 60, 2) := by decide +kernel
theorem dX5_pin_7 : decode cX5_pin 7 = .ok (.if_icmp .ne 7, 3) := by decide +kernel
theorem dX5_pin_10 : decode cX5_pin 10 = .ok (.iconst 1, 1) := by decide +kernel
theorem dX5_pin_11 : decode cX5_pin 11 = .ok (.goto 4, 3) := by decide +kernel
theorem dX5_pin_14 : decode cX5_pin 14 = .ok (.iconst 0, 1) := by decide +kernel
theorem dX5_pin_15 : decode cX5_pin 15 = .ok (.putfield 81, 3) := by decide +kernel
theorem dX5_pin_18 : decode cX5_pin 18 = .ok (.aload_n 0, 1) := by decide +kernel
theorem dX5_pin_19 : decode cX5_pin 19 = .ok (.getfield 81, 3) := by decide +kernel
theorem dX5_pin_22 : decode cX5_pin 22 = .ok (.ifCond .le 5, 3) := by decide +kernel
theorem dX5_pin_25 : decode cX5_pin 25 = .ok (.iconst 0, 1) := by decide +kernel
theorem dX5_pin_26 : decode cX5_pin 26 = .ok (.ireturn, 1) := by decide +kernel
theorem dX5_pin_27 : decode cX5_pin 27 = .ok (.aload_n 0, 1) := by decide +kernel
theorem dX5_pin_28 : decode cX5_pin 28 = .ok (.getfield 7, 3) := by decide +kernel
theorem dX5_pin_31 : decode cX5_pin 31 = .ok (.aload_n 0, 1) := by decide +kernel
theorem dX5_pin_32 : decode cX5_pin 32 = .ok (.getfield 85, 3) := by decide +kernel
theorem dX5_pin_35 : decode cX5_pin 35 = .ok (.iconst (-1), 1) := by decide +kernel
theorem dX5_pin_36 : decode cX5_pin 36 = .ok (.iastore, 1) := by decide +kernel
theorem dX5_pin_37 : decode cX5_pin 37 = .ok (.aload_n 0, 1) := by decide +kernel
theorem dX5_pin_38 : decode cX5_pin 38 = .ok (.dup, 1) := by decide +kernel
theorem dX5_pin_39 : decode cX5_pin 39 = .ok (.getfield 85, 3) := by decide +kernel
theorem dX5_pin_42 : decode cX5_pin 42 = .ok (.iconst 1, 1) := by decide +kernel
theorem dX5_pin_43 : decode cX5_pin 43 = .ok (.iadd, 1) := by decide +kernel
theorem dX5_pin_44 : decode cX5_pin 44 = .ok (.putfield 85, 3) := by decide +kernel
theorem dX5_pin_47 : decode cX5_pin 47 = .ok (.aload_n 0, 1) := by decide +kernel
theorem dX5_pin_48 : decode cX5_pin 48 = .ok (.iconst 0, 1) := by decide +kernel
theorem dX5_pin_49 : decode cX5_pin 49 = .ok (.putfield 92, 3) := by decide +kernel
theorem dX5_pin_52 : decode cX5_pin 52 = .ok (.aload_n 0, 1) := by decide +kernel
theorem dX5_pin_53 : decode cX5_pin 53 = .ok (.getfield 85, 3) := by decide +kernel
theorem dX5_pin_56 : decode cX5_pin 56 = .ok (.iconst 1, 1) := by decide +kernel
theorem dX5_pin_57 : decode cX5_pin 57 = .ok (.isub, 1) := by decide +kernel
theorem dX5_pin_58 : decode cX5_pin 58 = .ok (.ireturn, 1) := by decide +kernel
theorem dX5_spread_0 : decode cX5_spread 0 = .ok (.iconst 0, 1) := by decide +kernel
theorem dX5_spread_1 : decode cX5_spread 1 = .ok (.istore_n 3, 1) := by decide +kernel
theorem dX5_spread_2 : decode cX5_spread 2 = .ok (.iload_n 3, 1) := by decide +kernel
theorem dX5_spread_3 : decode cX5_spread 3 = .ok (.bipush 60, 2) := by decide +kernel
theorem dX5_spread_5 : decode cX5_spread 5 = .ok (.if_icmp .ge 25, 3) := by decide +kernel
theorem dX5_spread_8 : decode cX5_spread 8 = .ok (.aload_n 0, 1) := by decide +kernel
theorem dX5_spread_9 : decode cX5_spread 9 = .ok (.getfield 65, 3) := by decide +kernel
theorem dX5_spread_12 : decode cX5_spread 12 = .ok (.iload_n 3, 1) := by decide +kernel
theorem dX5_spread_13 : decode cX5_spread 13 = .ok (.iload_n 3, 1) := by decide +kernel
theorem dX5_spread_14 : decode cX5_spread 14 = .ok (.iload_n 1, 1) := by decide +kernel
theorem dX5_spread_15 : decode cX5_spread 15 = .ok (.if_icmp .ne 7, 3) := by decide +kernel
theorem dX5_spread_18 : decode cX5_spread 18 = .ok (.iconst 1, 1) := by decide +kernel
theorem dX5_spread_19 : decode cX5_spread 19 = .ok (.goto 4, 3) := by decide +kernel
theorem dX5_spread_22 : decode cX5_spread 22 = .ok (.iconst 0, 1) := by decide +kernel
theorem dX5_spread_23 : decode cX5_spread 23 = .ok (.bastore, 1) := by decide +kernel
theorem dX5_spread_24 : decode cX5_spread 24 = .ok (.iinc 3 1, 3) := by decide +kernel
theorem dX5_spread_27 : decode cX5_spread 27 = .ok (.goto (-25), 3) := by decide +kernel
theorem dX5_spread_30 : decode cX5_spread 30 = .ok (.iconst 1, 1) := by decide +kernel
theorem dX5_spread_31 : decode cX5_spread 31 = .ok (.istore_n 3, 1) := by decide +kernel
theorem dX5_spread_32 : decode cX5_spread 32 = .ok (.iload_n 3, 1) := by decide +kernel
theorem dX5_spread_33 : decode cX5_spread 33 = .ok (.ifCond .eq 120, 3) := by decide +kernel
theorem dX5_spread_36 : decode cX5_spread 36 = .ok (.iconst 0, 1) := by decide +kernel
theorem dX5_spread_37 : decode cX5_spread 37 = .ok (.istore_n 3, 1) := by decide +kernel
theorem dX5_spread_38 : decode cX5_spread 38 = .ok (.iconst 0, 1) := by decide +kernel
theorem dX5_spread_39 : decode cX5_spread 39 = .ok (.istore 4, 2) := by decide +kernel
theorem dX5_spread_41 : decode cX5_spread 41 = .ok (.iload 4, 2) := by decide +kernel
theorem dX5_spread_43 : decode cX5_spread 43 = .ok (.aload_n 0, 1) := by decide +kernel
theorem dX5_spread_44 : decode cX5_spread 44 = .ok (.getfield 96, 3) := by decide +kernel
theorem dX5_spread_47 : decode cX5_spread 47 = .ok (.if_icmp .ge 103, 3) := by decide +kernel
theorem dX5_spread_50 : decode cX5_spread 50 = .ok (.iload_n 2, 1) := by decide +kernel
theorem dX5_spread_51 : decode cX5_spread 51 = .ok (.iconst (-1), 1) := by decide +kernel
theorem dX5_spread_52 : decode cX5_spread 52 = .ok (.if_icmp .eq 35, 3) := by decide +kernel
theorem dX5_spread_55 : decode cX5_spread 55 = .ok (.aload_n 0, 1) := by decide +kernel
theorem dX5_spread_56 : decode cX5_spread 56 = .ok (.getfield 7, 3) := by decide +kernel
theorem dX5_spread_59 : decode cX5_spread 59 = .ok (.aload_n 0, 1) := by decide +kernel
theorem dX5_spread_60 : decode cX5_spread 60 = .ok (.getfield 13, 3) := by decide +kernel
theorem dX5_spread_63 : decode cX5_spread 63 = .ok (.iload 4, 2) := by decide +kernel
theorem dX5_spread_65 : decode cX5_spread 65 = .ok (.iaload, 1) := by decide +kernel
theorem dX5_spread_66 : decode cX5_spread 66 = .ok (.iaload, 1) := by decide +kernel
theorem dX5_spread_67 : decode cX5_spread 67 = .ok (.iload_n 2, 1) := by decide +kernel
theorem dX5_spread_68 : decode cX5_spread 68 = .ok (.if_icmp .ne 23, 3) := by decide +kernel
theorem dX5_spread_71 : decode cX5_spread 71 = .ok (.aload_n 0, 1) := by decide +kernel
theorem dX5_spread_72 : decode cX5_spread 72 = .ok (.getfield 7, 3) := by decide +kernel
theorem dX5_spread_75 : decode cX5_spread 75 = .ok (.aload_n 0, 1) := by decide +kernel
theorem dX5_spread_76 : decode cX5_spread 76 = .ok (.getfield 16, 3) := by decide +kernel
theorem dX5_spread_79 : decode cX5_spread 79 = .ok (.iload 4, 2) := by decide +kernel
theorem dX5_spread_81 : decode cX5_spread 81 = .ok (.iaload, 1) := by decide +kernel
theorem dX5_spread_82 : decode cX5_spread 82 = .ok (.iaload, 1) := by decide +kernel
theorem dX5_spread_83 : decode cX5_spread 83 = .ok (.iload_n 2, 1) := by decide +kernel
theorem dX5_spread_84 : decode cX5_spread 84 = .ok (.if_icmp .ne 7, 3) := by decide +kernel
theorem dX5_spread_87 : decode cX5_spread 87 = .ok (.iconst 1, 1) := by decide +kernel
theorem dX5_spread_88 : decode cX5_spread 88 = .ok (.goto 4, 3) := by decide +kernel
theorem dX5_spread_91 : decode cX5_spread 91 = .ok (.iconst 0, 1) := by decide +kernel
theorem dX5_spread_92 : decode cX5_spread 92 = .ok (.istore 5, 2) := by decide +kernel
theorem dX5_spread_94 : decode cX5_spread 94 = .ok (.iload 5, 2) := by decide +kernel
theorem dX5_spread_96 : decode cX5_spread 96 = .ok (.ifCond .eq 48, 3) := by decide +kernel
theorem dX5_spread_99 : decode cX5_spread 99 = .ok (.aload_n 0, 1) := by decide +kernel
theorem dX5_spread_100 : decode cX5_spread 100 = .ok (.getfield 65, 3) := by decide +kernel
theorem dX5_spread_103 : decode cX5_spread 103 = .ok (.aload_n 0, 1) := by decide +kernel
theorem dX5_spread_104 : decode cX5_spread 104 = .ok (.getfield 13, 3) := by decide +kernel
theorem dX5_spread_107 : decode cX5_spread 107 = .ok (.iload 4, 2) := by decide +kernel
theorem dX5_spread_109 : decode cX5_spread 109 = .ok (.iaload, 1) := by decide +kernel
theorem dX5_spread_110 : decode cX5_spread 110 = .ok (.baload, 1) := by decide +kernel
theorem dX5_spread_111 : decode cX5_spread 111 = .ok (.ifCond .eq 33, 3) := by decide +kernel
theorem dX5_spread_114 : decode cX5_spread 114 = .ok (.aload_n 0, 1) := by decide +kernel
theorem dX5_spread_115 : decode cX5_spread 115 = .ok (.getfield 65, 3) := by decide +kernel
theorem dX5_spread_118 : decode cX5_spread 118 = .ok (.aload_n 0, 1) := by decide +kernel
theorem dX5_spread_119 : decode cX5_spread 119 = .ok (.getfield 16, 3) := by decide +kernel
theorem dX5_spread_122 : decode cX5_spread 122 = .ok (.iload 4, 2) := by decide +kernel
theorem dX5_spread_124 : decode cX5_spread 124 = .ok (.iaload, 1) := by decide +kernel
theorem dX5_spread_125 : decode cX5_spread 125 = .ok (.baload, 1) := by decide +kernel
theorem dX5_spread_126 : decode cX5_spread 126 = .ok (.ifCond .ne 18, 3) := by decide +kernel
theorem dX5_spread_129 : decode cX5_spread 129 = .ok (.aload_n 0, 1) := by decide +kernel
theorem dX5_spread_130 : decode cX5_spread 130 = .ok (.getfield 65, 3) := by decide +kernel
theorem dX5_spread_133 : decode cX5_spread 133 = .ok (.aload_n 0, 1) := by decide +kernel
theorem dX5_spread_134 : decode cX5_spread 134 = .ok (.getfield 16, 3) := by decide +kernel
theorem dX5_spread_137 : decode cX5_spread 137 = .ok (.iload 4, 2) := by decide +kernel
theorem dX5_spread_139 : decode cX5_spread 139 = .ok (.iaload, 1) := by decide +kernel
theorem dX5_spread_140 : decode cX5_spread 140 = .ok (.iconst 1, 1) := by decide +kernel
theorem dX5_spread_141 : decode cX5_spread 141 = .ok (.bastore, 1) := by decide +kernel
theorem dX5_spread_142 : decode cX5_spread 142 = .ok (.iconst 1, 1) := by decide +kernel
theorem dX5_spread_143 : decode cX5_spread 143 = .ok (.istore_n 3, 1) := by decide +kernel
theorem dX5_spread_144 : decode cX5_spread 144 = .ok (.iinc 4 1, 3) := by decide +kernel
theorem dX5_spread_147 : decode cX5_spread 147 = .ok (.goto (-106), 3) := by decide +kernel
theorem dX5_spread_150 : decode cX5_spread 150 = .ok (.goto (-118), 3) := by decide +kernel
theorem dX5_spread_153 : decode cX5_spread 153 = .ok (.return_, 1) := by decide +kernel
theorem dX5_arc_0 : decode cX5_arc 0 = .ok (.aload_n 0, 1) := by decide +kernel
theorem dX5_arc_1 : decode cX5_arc 1 = .ok (.aload_n 0, 1) := by decide +kernel
theorem dX5_arc_2 : decode cX5_arc 2 = .ok (.iload_n 1, 1) := by decide +kernel
theorem dX5_arc_3 : decode cX5_arc 3 = .ok (.invokevirtual 99, 3) := by decide +kernel
theorem dX5_arc_6 : decode cX5_arc 6 = .ok (.ifCond .eq 11, 3) := by decide +kernel
theorem dX5_arc_9 : decode cX5_arc 9 = .ok (.aload_n 0, 1) := by decide +kernel
theorem dX5_arc_10 : decode cX5_arc 10 = .ok (.iload_n 2, 1) := by decide +kernel
theorem dX5_arc_11 : decode cX5_arc 11 = .ok (.invokevirtual 99, 3) := by decide +kernel
theorem dX5_arc_14 : decode cX5_arc 14 = .ok (.ifCond .ne 7, 3) := by decide +kernel
theorem dX5_arc_17 : decode cX5_arc 17 = .ok (.iconst 1, 1) := by decide +kernel
theorem dX5_arc_18 : decode cX5_arc 18 = .ok (.goto 30, 3) := by decide +kernel
theorem dX5_arc_21 : decode cX5_arc 21 = .ok (.aload_n 0, 1) := by decide +kernel
theorem dX5_arc_22 : decode cX5_arc 22 = .ok (.getfield 96, 3) := by decide +kernel
theorem dX5_arc_25 : decode cX5_arc 25 = .ok (.sipush 150, 3) := by decide +kernel
theorem dX5_arc_28 : decode cX5_arc 28 = .ok (.if_icmp .ne 7, 3) := by decide +kernel
theorem dX5_arc_31 : decode cX5_arc 31 = .ok (.iconst 2, 1) := by decide +kernel
theorem dX5_arc_32 : decode cX5_arc 32 = .ok (.goto 16, 3) := by decide +kernel
theorem dX5_arc_35 : decode cX5_arc 35 = .ok (.dload_n 3, 1) := by decide +kernel
theorem dX5_arc_36 : decode cX5_arc 36 = .ok (.dconst 0, 1) := by decide +kernel
theorem dX5_arc_37 : decode cX5_arc 37 = .ok (.invokestatic 103, 3) := by decide +kernel
theorem dX5_arc_40 : decode cX5_arc 40 = .ok (.ifCond .ne 7, 3) := by decide +kernel
theorem dX5_arc_43 : decode cX5_arc 43 = .ok (.iconst 3, 1) := by decide +kernel
theorem dX5_arc_44 : decode cX5_arc 44 = .ok (.goto 4, 3) := by decide +kernel
theorem dX5_arc_47 : decode cX5_arc 47 = .ok (.iconst 0, 1) := by decide +kernel
theorem dX5_arc_48 : decode cX5_arc 48 = .ok (.putfield 81, 3) := by decide +kernel
theorem dX5_arc_51 : decode cX5_arc 51 = .ok (.aload_n 0, 1) := by decide +kernel
theorem dX5_arc_52 : decode cX5_arc 52 = .ok (.getfield 81, 3) := by decide +kernel
theorem dX5_arc_55 : decode cX5_arc 55 = .ok (.ifCond .le 5, 3) := by decide +kernel
theorem dX5_arc_58 : decode cX5_arc 58 = .ok (.iconst 0, 1) := by decide +kernel
theorem dX5_arc_59 : decode cX5_arc 59 = .ok (.ireturn, 1) := by decide +kernel
theorem dX5_arc_60 : decode cX5_arc 60 = .ok (.aload_n 0, 1) := by decide +kernel
theorem dX5_arc_61 : decode cX5_arc 61 = .ok (.iload_n 2, 1) := by decide +kernel
theorem dX5_arc_62 : decode cX5_arc 62 = .ok (.iconst (-1), 1) := by decide +kernel
theorem dX5_arc_63 : decode cX5_arc 63 = .ok (.invokevirtual 107, 3) := by decide +kernel
theorem dX5_arc_66 : decode cX5_arc 66 = .ok (.aload_n 0, 1) := by decide +kernel
theorem dX5_arc_67 : decode cX5_arc 67 = .ok (.aload_n 0, 1) := by decide +kernel
theorem dX5_arc_68 : decode cX5_arc 68 = .ok (.getfield 65, 3) := by decide +kernel
theorem dX5_arc_71 : decode cX5_arc 71 = .ok (.iload_n 1, 1) := by decide +kernel
theorem dX5_arc_72 : decode cX5_arc 72 = .ok (.baload, 1) := by decide +kernel
theorem dX5_arc_73 : decode cX5_arc 73 = .ok (.ifCond .eq 7, 3) := by decide +kernel
theorem dX5_arc_76 : decode cX5_arc 76 = .ok (.iconst 3, 1) := by decide +kernel
theorem dX5_arc_77 : decode cX5_arc 77 = .ok (.goto 4, 3) := by decide +kernel
theorem dX5_arc_80 : decode cX5_arc 80 = .ok (.iconst 0, 1) := by decide +kernel
theorem dX5_arc_81 : decode cX5_arc 81 = .ok (.putfield 81, 3) := by decide +kernel
theorem dX5_arc_84 : decode cX5_arc 84 = .ok (.aload_n 0, 1) := by decide +kernel
theorem dX5_arc_85 : decode cX5_arc 85 = .ok (.getfield 81, 3) := by decide +kernel
theorem dX5_arc_88 : decode cX5_arc 88 = .ok (.ifCond .le 5, 3) := by decide +kernel
theorem dX5_arc_91 : decode cX5_arc 91 = .ok (.iconst 0, 1) := by decide +kernel
theorem dX5_arc_92 : decode cX5_arc 92 = .ok (.ireturn, 1) := by decide +kernel
theorem dX5_arc_93 : decode cX5_arc 93 = .ok (.aload_n 0, 1) := by decide +kernel
theorem dX5_arc_94 : decode cX5_arc 94 = .ok (.getfield 13, 3) := by decide +kernel
theorem dX5_arc_97 : decode cX5_arc 97 = .ok (.aload_n 0, 1) := by decide +kernel
theorem dX5_arc_98 : decode cX5_arc 98 = .ok (.getfield 96, 3) := by decide +kernel
theorem dX5_arc_101 : decode cX5_arc 101 = .ok (.iload_n 1, 1) := by decide +kernel
theorem dX5_arc_102 : decode cX5_arc 102 = .ok (.iastore, 1) := by decide +kernel
theorem dX5_arc_103 : decode cX5_arc 103 = .ok (.aload_n 0, 1) := by decide +kernel
theorem dX5_arc_104 : decode cX5_arc 104 = .ok (.getfield 16, 3) := by decide +kernel
theorem dX5_arc_107 : decode cX5_arc 107 = .ok (.aload_n 0, 1) := by decide +kernel
theorem dX5_arc_108 : decode cX5_arc 108 = .ok (.getfield 96, 3) := by decide +kernel
theorem dX5_arc_111 : decode cX5_arc 111 = .ok (.iload_n 2, 1) := by decide +kernel
theorem dX5_arc_112 : decode cX5_arc 112 = .ok (.iastore, 1) := by decide +kernel
theorem dX5_arc_113 : decode cX5_arc 113 = .ok (.aload_n 0, 1) := by decide +kernel
theorem dX5_arc_114 : decode cX5_arc 114 = .ok (.getfield 19, 3) := by decide +kernel
theorem dX5_arc_117 : decode cX5_arc 117 = .ok (.aload_n 0, 1) := by decide +kernel
theorem dX5_arc_118 : decode cX5_arc 118 = .ok (.getfield 96, 3) := by decide +kernel
theorem dX5_arc_121 : decode cX5_arc 121 = .ok (.dload_n 3, 1) := by decide +kernel
theorem dX5_arc_122 : decode cX5_arc 122 = .ok (.dconst 0, 1) := by decide +kernel
theorem dX5_arc_123 : decode cX5_arc 123 = .ok (.dadd, 1) := by decide +kernel
theorem dX5_arc_124 : decode cX5_arc 124 = .ok (.dastore, 1) := by decide +kernel
theorem dX5_arc_125 : decode cX5_arc 125 = .ok (.aload_n 0, 1) := by decide +kernel
theorem dX5_arc_126 : decode cX5_arc 126 = .ok (.dup, 1) := by decide +kernel
theorem dX5_arc_127 : decode cX5_arc 127 = .ok (.getfield 96, 3) := by decide +kernel
theorem dX5_arc_130 : decode cX5_arc 130 = .ok (.iconst 1, 1) := by decide +kernel
theorem dX5_arc_131 : decode cX5_arc 131 = .ok (.iadd, 1) := by decide +kernel
theorem dX5_arc_132 : decode cX5_arc 132 = .ok (.putfield 96, 3) := by decide +kernel
theorem dX5_arc_135 : decode cX5_arc 135 = .ok (.aload_n 0, 1) := by decide +kernel
theorem dX5_arc_136 : decode cX5_arc 136 = .ok (.iconst 0, 1) := by decide +kernel
theorem dX5_arc_137 : decode cX5_arc 137 = .ok (.putfield 92, 3) := by decide +kernel
theorem dX5_arc_140 : decode cX5_arc 140 = .ok (.aload_n 0, 1) := by decide +kernel
theorem dX5_arc_141 : decode cX5_arc 141 = .ok (.getfield 96, 3) := by decide +kernel
theorem dX5_arc_144 : decode cX5_arc 144 = .ok (.iconst 1, 1) := by decide +kernel
theorem dX5_arc_145 : decode cX5_arc 145 = .ok (.isub, 1) := by decide +kernel
theorem dX5_arc_146 : decode cX5_arc 146 = .ok (.ireturn, 1) := by decide +kernel
theorem dX5_end_0 : decode cX5_end 0 = .ok (.aload_n 0, 1) := by decide +kernel
theorem dX5_end_1 : decode cX5_end 1 = .ok (.aload_n 0, 1) := by decide +kernel
theorem dX5_end_2 : decode cX5_end 2 = .ok (.iload_n 1, 1) := by decide +kernel
theorem dX5_end_3 : decode cX5_end 3 = .ok (.invokevirtual 99, 3) := by decide +kernel
theorem dX5_end_6 : decode cX5_end 6 = .ok (.ifCond .ne 7, 3) := by decide +kernel
theorem dX5_end_9 : decode cX5_end 9 = .ok (.iconst 1, 1) := by decide +kernel
theorem dX5_end_10 : decode cX5_end 10 = .ok (.goto 31, 3) := by decide +kernel
theorem dX5_end_13 : decode cX5_end 13 = .ok (.aload_n 0, 1) := by decide +kernel
theorem dX5_end_14 : decode cX5_end 14 = .ok (.getfield 111, 3) := by decide +kernel
theorem dX5_end_17 : decode cX5_end 17 = .ok (.bipush 30, 2) := by decide +kernel
theorem dX5_end_19 : decode cX5_end 19 = .ok (.if_icmp .ne 7, 3) := by decide +kernel
theorem dX5_end_22 : decode cX5_end 22 = .ok (.iconst 2, 1) := by decide +kernel
theorem dX5_end_23 : decode cX5_end 23 = .ok (.goto 18, 3) := by decide +kernel
theorem dX5_end_26 : decode cX5_end 26 = .ok (.dload_n 2, 1) := by decide +kernel
theorem dX5_end_27 : decode cX5_end 27 = .ok (.ldc2_w 114, 3) := by decide +kernel
theorem dX5_end_30 : decode cX5_end 30 = .ok (.invokestatic 103, 3) := by decide +kernel
theorem dX5_end_33 : decode cX5_end 33 = .ok (.ifCond .eq 7, 3) := by decide +kernel
theorem dX5_end_36 : decode cX5_end 36 = .ok (.iconst 0, 1) := by decide +kernel
theorem dX5_end_37 : decode cX5_end 37 = .ok (.goto 4, 3) := by decide +kernel
theorem dX5_end_40 : decode cX5_end 40 = .ok (.iconst 3, 1) := by decide +kernel
theorem dX5_end_41 : decode cX5_end 41 = .ok (.putfield 81, 3) := by decide +kernel
theorem dX5_end_44 : decode cX5_end 44 = .ok (.aload_n 0, 1) := by decide +kernel
theorem dX5_end_45 : decode cX5_end 45 = .ok (.getfield 81, 3) := by decide +kernel
theorem dX5_end_48 : decode cX5_end 48 = .ok (.ifCond .le 5, 3) := by decide +kernel
theorem dX5_end_51 : decode cX5_end 51 = .ok (.iconst 0, 1) := by decide +kernel
theorem dX5_end_52 : decode cX5_end 52 = .ok (.ireturn, 1) := by decide +kernel
theorem dX5_end_53 : decode cX5_end 53 = .ok (.aload_n 0, 1) := by decide +kernel
theorem dX5_end_54 : decode cX5_end 54 = .ok (.getfield 29, 3) := by decide +kernel
theorem dX5_end_57 : decode cX5_end 57 = .ok (.aload_n 0, 1) := by decide +kernel
theorem dX5_end_58 : decode cX5_end 58 = .ok (.getfield 111, 3) := by decide +kernel
theorem dX5_end_61 : decode cX5_end 61 = .ok (.iload_n 1, 1) := by decide +kernel
theorem dX5_end_62 : decode cX5_end 62 = .ok (.iastore, 1) := by decide +kernel
theorem dX5_end_63 : decode cX5_end 63 = .ok (.aload_n 0, 1) := by decide +kernel
theorem dX5_end_64 : decode cX5_end 64 = .ok (.getfield 32, 3) := by decide +kernel
theorem dX5_end_67 : decode cX5_end 67 = .ok (.aload_n 0, 1) := by decide +kernel
theorem dX5_end_68 : decode cX5_end 68 = .ok (.getfield 111, 3) := by decide +kernel
theorem dX5_end_71 : decode cX5_end 71 = .ok (.dload_n 2, 1) := by decide +kernel
theorem dX5_end_72 : decode cX5_end 72 = .ok (.dconst 0, 1) := by decide +kernel
theorem dX5_end_73 : decode cX5_end 73 = .ok (.dadd, 1) := by decide +kernel
theorem dX5_end_74 : decode cX5_end 74 = .ok (.dastore, 1) := by decide +kernel
theorem dX5_end_75 : decode cX5_end 75 = .ok (.aload_n 0, 1) := by decide +kernel
theorem dX5_end_76 : decode cX5_end 76 = .ok (.getfield 35, 3) := by decide +kernel
theorem dX5_end_79 : decode cX5_end 79 = .ok (.aload_n 0, 1) := by decide +kernel
theorem dX5_end_80 : decode cX5_end 80 = .ok (.getfield 111, 3) := by decide +kernel
theorem dX5_end_83 : decode cX5_end 83 = .ok (.iconst 0, 1) := by decide +kernel
theorem dX5_end_84 : decode cX5_end 84 = .ok (.iastore, 1) := by decide +kernel
theorem dX5_end_85 : decode cX5_end 85 = .ok (.aload_n 0, 1) := by decide +kernel
theorem dX5_end_86 : decode cX5_end 86 = .ok (.dup, 1) := by decide +kernel
theorem dX5_end_87 : decode cX5_end 87 = .ok (.getfield 111, 3) := by decide +kernel
theorem dX5_end_90 : decode cX5_end 90 = .ok (.iconst 1, 1) := by decide +kernel
theorem dX5_end_91 : decode cX5_end 91 = .ok (.iadd, 1) := by decide +kernel
theorem dX5_end_92 : decode cX5_end 92 = .ok (.putfield 111, 3) := by decide +kernel
theorem dX5_end_95 : decode cX5_end 95 = .ok (.aload_n 0, 1) := by decide +kernel
theorem dX5_end_96 : decode cX5_end 96 = .ok (.iconst 0, 1) := by decide +kernel
theorem dX5_end_97 : decode cX5_end 97 = .ok (.putfield 92, 3) := by decide +kernel
theorem dX5_end_100 : decode cX5_end 100 = .ok (.aload_n 0, 1) := by decide +kernel
theorem dX5_end_101 : decode cX5_end 101 = .ok (.getfield 111, 3) := by decide +kernel
theorem dX5_end_104 : decode cX5_end 104 = .ok (.iconst 1, 1) := by decide +kernel
theorem dX5_end_105 : decode cX5_end 105 = .ok (.isub, 1) := by decide +kernel
theorem dX5_end_106 : decode cX5_end 106 = .ok (.ireturn, 1) := by decide +kernel
theorem dX5_start_0 : decode cX5_start 0 = .ok (.aload_n 0, 1) := by decide +kernel
theorem dX5_start_1 : decode cX5_start 1 = .ok (.aload_n 0, 1) := by decide +kernel
theorem dX5_start_2 : decode cX5_start 2 = .ok (.iload_n 1, 1) := by decide +kernel
theorem dX5_start_3 : decode cX5_start 3 = .ok (.invokevirtual 99, 3) := by decide +kernel
theorem dX5_start_6 : decode cX5_start 6 = .ok (.ifCond .ne 7, 3) := by decide +kernel
theorem dX5_start_9 : decode cX5_start 9 = .ok (.iconst 1, 1) := by decide +kernel
theorem dX5_start_10 : decode cX5_start 10 = .ok (.goto 31, 3) := by decide +kernel
theorem dX5_start_13 : decode cX5_start 13 = .ok (.aload_n 0, 1) := by decide +kernel
theorem dX5_start_14 : decode cX5_start 14 = .ok (.getfield 116, 3) := by decide +kernel
theorem dX5_start_17 : decode cX5_start 17 = .ok (.bipush 30, 2) := by decide +kernel
theorem dX5_start_19 : decode cX5_start 19 = .ok (.if_icmp .ne 7, 3) := by decide +kernel
theorem dX5_start_22 : decode cX5_start 22 = .ok (.iconst 2, 1) := by decide +kernel
theorem dX5_start_23 : decode cX5_start 23 = .ok (.goto 18, 3) := by decide +kernel
theorem dX5_start_26 : decode cX5_start 26 = .ok (.dload_n 2, 1) := by decide +kernel
theorem dX5_start_27 : decode cX5_start 27 = .ok (.ldc2_w 114, 3) := by decide +kernel
theorem dX5_start_30 : decode cX5_start 30 = .ok (.invokestatic 103, 3) := by decide +kernel
theorem dX5_start_33 : decode cX5_start 33 = .ok (.ifCond .eq 7, 3) := by decide +kernel
theorem dX5_start_36 : decode cX5_start 36 = .ok (.iconst 0, 1) := by decide +kernel
theorem dX5_start_37 : decode cX5_start 37 = .ok (.goto 4, 3) := by decide +kernel
theorem dX5_start_40 : decode cX5_start 40 = .ok (.iconst 3, 1) := by decide +kernel
theorem dX5_start_41 : decode cX5_start 41 = .ok (.putfield 81, 3) := by decide +kernel
theorem dX5_start_44 : decode cX5_start 44 = .ok (.aload_n 0, 1) := by decide +kernel
theorem dX5_start_45 : decode cX5_start 45 = .ok (.getfield 81, 3) := by decide +kernel
theorem dX5_start_48 : decode cX5_start 48 = .ok (.ifCond .le 5, 3) := by decide +kernel
theorem dX5_start_51 : decode cX5_start 51 = .ok (.iconst 0, 1) := by decide +kernel
theorem dX5_start_52 : decode cX5_start 52 = .ok (.ireturn, 1) := by decide +kernel
theorem dX5_start_53 : decode cX5_start 53 = .ok (.aload_n 0, 1) := by decide +kernel
theorem dX5_start_54 : decode cX5_start 54 = .ok (.getfield 23, 3) := by decide +kernel
theorem dX5_start_57 : decode cX5_start 57 = .ok (.aload_n 0, 1) := by decide +kernel
theorem dX5_start_58 : decode cX5_start 58 = .ok (.getfield 116, 3) := by decide +kernel
theorem dX5_start_61 : decode cX5_start 61 = .ok (.iload_n 1, 1) := by decide +kernel
theorem dX5_start_62 : decode cX5_start 62 = .ok (.iastore, 1) := by decide +kernel
theorem dX5_start_63 : decode cX5_start 63 = .ok (.aload_n 0, 1) := by decide +kernel
theorem dX5_start_64 : decode cX5_start 64 = .ok (.getfield 26, 3) := by decide +kernel
theorem dX5_start_67 : decode cX5_start 67 = .ok (.aload_n 0, 1) := by decide +kernel
theorem dX5_start_68 : decode cX5_start 68 = .ok (.getfield 116, 3) := by decide +kernel
theorem dX5_start_71 : decode cX5_start 71 = .ok (.dload_n 2, 1) := by decide +kernel
theorem dX5_start_72 : decode cX5_start 72 = .ok (.dconst 0, 1) := by decide +kernel
theorem dX5_start_73 : decode cX5_start 73 = .ok (.dadd, 1) := by decide +kernel
theorem dX5_start_74 : decode cX5_start 74 = .ok (.dastore, 1) := by decide +kernel
theorem dX5_start_75 : decode cX5_start 75 = .ok (.aload_n 0, 1) := by decide +kernel
theorem dX5_start_76 : decode cX5_start 76 = .ok (.dup, 1) := by decide +kernel
theorem dX5_start_77 : decode cX5_start 77 = .ok (.getfield 116, 3) := by decide +kernel
theorem dX5_start_80 : decode cX5_start 80 = .ok (.iconst 1, 1) := by decide +kernel
theorem dX5_start_81 : decode cX5_start 81 = .ok (.iadd, 1) := by decide +kernel
theorem dX5_start_82 : decode cX5_start 82 = .ok (.putfield 116, 3) := by decide +kernel
theorem dX5_start_85 : decode cX5_start 85 = .ok (.aload_n 0, 1) := by decide +kernel
theorem dX5_start_86 : decode cX5_start 86 = .ok (.iconst 0, 1) := by decide +kernel
theorem dX5_start_87 : decode cX5_start 87 = .ok (.putfield 92, 3) := by decide +kernel
theorem dX5_start_90 : decode cX5_start 90 = .ok (.aload_n 0, 1) := by decide +kernel
theorem dX5_start_91 : decode cX5_start 91 = .ok (.getfield 116, 3) := by decide +kernel
theorem dX5_start_94 : decode cX5_start 94 = .ok (.iconst 1, 1) := by decide +kernel
theorem dX5_start_95 : decode cX5_start 95 = .ok (.isub, 1) := by decide +kernel
theorem dX5_start_96 : decode cX5_start 96 = .ok (.ireturn, 1) := by decide +kernel
theorem dX5_through_0 : decode cX5_through 0 = .ok (.aload_n 0, 1) := by decide +kernel
theorem dX5_through_1 : decode cX5_through 1 = .ok (.iload_n 1, 1) := by decide +kernel
theorem dX5_through_2 : decode cX5_through 2 = .ok (.iconst (-1), 1) := by decide +kernel
theorem dX5_through_3 : decode cX5_through 3 = .ok (.if_icmp .eq 15, 3) := by decide +kernel
theorem dX5_through_6 : decode cX5_through 6 = .ok (.aload_n 0, 1) := by decide +kernel
theorem dX5_through_7 : decode cX5_through 7 = .ok (.iload_n 1, 1) := by decide +kernel
theorem dX5_through_8 : decode cX5_through 8 = .ok (.invokevirtual 99, 3) := by decide +kernel
theorem dX5_through_11 : decode cX5_through 11 = .ok (.ifCond .ne 7, 3) := by decide +kernel
theorem dX5_through_14 : decode cX5_through 14 = .ok (.iconst 1, 1) := by decide +kernel
theorem dX5_through_15 : decode cX5_through 15 = .ok (.goto 18, 3) := by decide +kernel
theorem dX5_through_18 : decode cX5_through 18 = .ok (.iload_n 2, 1) := by decide +kernel
theorem dX5_through_19 : decode cX5_through 19 = .ok (.ifCond .lt 9, 3) := by decide +kernel
theorem dX5_through_22 : decode cX5_through 22 = .ok (.iload_n 2, 1) := by decide +kernel
theorem dX5_through_23 : decode cX5_through 23 = .ok (.bipush 10, 2) := by decide +kernel
theorem dX5_through_25 : decode cX5_through 25 = .ok (.if_icmp .lt 7, 3) := by decide +kernel
theorem dX5_through_28 : decode cX5_through 28 = .ok (.iconst 2, 1) := by decide +kernel
theorem dX5_through_29 : decode cX5_through 29 = .ok (.goto 4, 3) := by decide +kernel
theorem dX5_through_32 : decode cX5_through 32 = .ok (.iconst 0, 1) := by decide +kernel
theorem dX5_through_33 : decode cX5_through 33 = .ok (.putfield 81, 3) := by decide +kernel
theorem dX5_through_36 : decode cX5_through 36 = .ok (.aload_n 0, 1) := by decide +kernel
theorem dX5_through_37 : decode cX5_through 37 = .ok (.getfield 81, 3) := by decide +kernel
theorem dX5_through_40 : decode cX5_through 40 = .ok (.ifCond .gt 13, 3) := by decide +kernel
theorem dX5_through_43 : decode cX5_through 43 = .ok (.aload_n 0, 1) := by decide +kernel
theorem dX5_through_44 : decode cX5_through 44 = .ok (.getfield 38, 3) := by decide +kernel
theorem dX5_through_47 : decode cX5_through 47 = .ok (.iload_n 2, 1) := by decide +kernel
theorem dX5_through_48 : decode cX5_through 48 = .ok (.iaload, 1) := by decide +kernel
theorem dX5_through_49 : decode cX5_through 49 = .ok (.iload_n 1, 1) := by decide +kernel
theorem dX5_through_50 : decode cX5_through 50 = .ok (.if_icmp .ne 5, 3) := by decide +kernel
theorem dX5_through_53 : decode cX5_through 53 = .ok (.iconst 0, 1) := by decide +kernel
theorem dX5_through_54 : decode cX5_through 54 = .ok (.ireturn, 1) := by decide +kernel
theorem dX5_through_55 : decode cX5_through 55 = .ok (.aload_n 0, 1) := by decide +kernel
theorem dX5_through_56 : decode cX5_through 56 = .ok (.getfield 38, 3) := by decide +kernel
theorem dX5_through_59 : decode cX5_through 59 = .ok (.iload_n 2, 1) := by decide +kernel
theorem dX5_through_60 : decode cX5_through 60 = .ok (.iload_n 1, 1) := by decide +kernel
theorem dX5_through_61 : decode cX5_through 61 = .ok (.iastore, 1) := by decide +kernel
theorem dX5_through_62 : decode cX5_through 62 = .ok (.aload_n 0, 1) := by decide +kernel
theorem dX5_through_63 : decode cX5_through 63 = .ok (.iconst 0, 1) := by decide +kernel
theorem dX5_through_64 : decode cX5_through 64 = .ok (.putfield 92, 3) := by decide +kernel
theorem dX5_through_67 : decode cX5_through 67 = .ok (.iconst 1, 1) := by decide +kernel
theorem dX5_through_68 : decode cX5_through 68 = .ok (.ireturn, 1) := by decide +kernel
theorem dX5_group_0 : decode cX5_group 0 = .ok (.aload_n 0, 1) := by decide +kernel
theorem dX5_group_1 : decode cX5_group 1 = .ok (.iload_n 1, 1) := by decide +kernel
theorem dX5_group_2 : decode cX5_group 2 = .ok (.ifCond .lt 11, 3) := by decide +kernel
theorem dX5_group_5 : decode cX5_group 5 = .ok (.iload_n 1, 1) := by decide +kernel
theorem dX5_group_6 : decode cX5_group 6 = .ok (.aload_n 0, 1) := by decide +kernel
theorem dX5_group_7 : decode cX5_group 7 = .ok (.getfield 111, 3) := by decide +kernel
theorem dX5_group_10 : decode cX5_group 10 = .ok (.if_icmp .lt 7, 3) := by decide +kernel
theorem dX5_group_13 : decode cX5_group 13 = .ok (.iconst 1, 1) := by decide +kernel
theorem dX5_group_14 : decode cX5_group 14 = .ok (.goto 18, 3) := by decide +kernel
theorem dX5_group_17 : decode cX5_group 17 = .ok (.iload_n 2, 1) := by decide +kernel
theorem dX5_group_18 : decode cX5_group 18 = .ok (.ifCond .lt 9, 3) := by decide +kernel
theorem dX5_group_21 : decode cX5_group 21 = .ok (.iload_n 2, 1) := by decide +kernel
theorem dX5_group_22 : decode cX5_group 22 = .ok (.bipush 8, 2) := by decide +kernel
theorem dX5_group_24 : decode cX5_group 24 = .ok (.if_icmp .lt 7, 3) := by decide +kernel
theorem dX5_group_27 : decode cX5_group 27 = .ok (.iconst 2, 1) := by decide +kernel
theorem dX5_group_28 : decode cX5_group 28 = .ok (.goto 4, 3) := by decide +kernel
theorem dX5_group_31 : decode cX5_group 31 = .ok (.iconst 0, 1) := by decide +kernel
theorem dX5_group_32 : decode cX5_group 32 = .ok (.putfield 81, 3) := by decide +kernel
theorem dX5_group_35 : decode cX5_group 35 = .ok (.aload_n 0, 1) := by decide +kernel
theorem dX5_group_36 : decode cX5_group 36 = .ok (.getfield 81, 3) := by decide +kernel
theorem dX5_group_39 : decode cX5_group 39 = .ok (.ifCond .le 5, 3) := by decide +kernel
theorem dX5_group_42 : decode cX5_group 42 = .ok (.iconst 0, 1) := by decide +kernel
theorem dX5_group_43 : decode cX5_group 43 = .ok (.ireturn, 1) := by decide +kernel
theorem dX5_group_44 : decode cX5_group 44 = .ok (.aload_n 0, 1) := by decide +kernel
theorem dX5_group_45 : decode cX5_group 45 = .ok (.aload_n 0, 1) := by decide +kernel
theorem dX5_group_46 : decode cX5_group 46 = .ok (.getfield 92, 3) := by decide +kernel
theorem dX5_group_49 : decode cX5_group 49 = .ok (.ifCond .eq 17, 3) := by decide +kernel
theorem dX5_group_52 : decode cX5_group 52 = .ok (.aload_n 0, 1) := by decide +kernel
theorem dX5_group_53 : decode cX5_group 53 = .ok (.getfield 35, 3) := by decide +kernel
theorem dX5_group_56 : decode cX5_group 56 = .ok (.iload_n 1, 1) := by decide +kernel
theorem dX5_group_57 : decode cX5_group 57 = .ok (.iaload, 1) := by decide +kernel
theorem dX5_group_58 : decode cX5_group 58 = .ok (.iload_n 2, 1) := by decide +kernel
theorem dX5_group_59 : decode cX5_group 59 = .ok (.if_icmp .ne 7, 3) := by decide +kernel
theorem dX5_group_62 : decode cX5_group 62 = .ok (.iconst 1, 1) := by decide +kernel
theorem dX5_group_63 : decode cX5_group 63 = .ok (.goto 4, 3) := by decide +kernel
theorem dX5_group_66 : decode cX5_group 66 = .ok (.iconst 0, 1) := by decide +kernel
theorem dX5_group_67 : decode cX5_group 67 = .ok (.putfield 92, 3) := by decide +kernel
theorem dX5_group_70 : decode cX5_group 70 = .ok (.aload_n 0, 1) := by decide +kernel
theorem dX5_group_71 : decode cX5_group 71 = .ok (.getfield 35, 3) := by decide +kernel
theorem dX5_group_74 : decode cX5_group 74 = .ok (.iload_n 1, 1) := by decide +kernel
theorem dX5_group_75 : decode cX5_group 75 = .ok (.iload_n 2, 1) := by decide +kernel
theorem dX5_group_76 : decode cX5_group 76 = .ok (.iastore, 1) := by decide +kernel
theorem dX5_group_77 : decode cX5_group 77 = .ok (.iconst 0, 1) := by decide +kernel
theorem dX5_group_78 : decode cX5_group 78 = .ok (.istore_n 3, 1) := by decide +kernel
theorem dX5_group_79 : decode cX5_group 79 = .ok (.iconst 0, 1) := by decide +kernel
theorem dX5_group_80 : decode cX5_group 80 = .ok (.istore 4, 2) := by decide +kernel
theorem dX5_group_82 : decode cX5_group 82 = .ok (.iload 4, 2) := by decide +kernel
theorem dX5_group_84 : decode cX5_group 84 = .ok (.aload_n 0, 1) := by decide +kernel
theorem dX5_group_85 : decode cX5_group 85 = .ok (.getfield 111, 3) := by decide +kernel
theorem dX5_group_88 : decode cX5_group 88 = .ok (.if_icmp .ge 28, 3) := by decide +kernel
theorem dX5_group_91 : decode cX5_group 91 = .ok (.iload_n 3, 1) := by decide +kernel
theorem dX5_group_92 : decode cX5_group 92 = .ok (.aload_n 0, 1) := by decide +kernel
theorem dX5_group_93 : decode cX5_group 93 = .ok (.getfield 35, 3) := by decide +kernel
theorem dX5_group_96 : decode cX5_group 96 = .ok (.iload 4, 2) := by decide +kernel
theorem dX5_group_98 : decode cX5_group 98 = .ok (.iaload, 1) := by decide +kernel
theorem dX5_group_99 : decode cX5_group 99 = .ok (.iload_n 2, 1) := by decide +kernel
theorem dX5_group_100 : decode cX5_group 100 = .ok (.if_icmp .ne 7, 3) := by decide +kernel
theorem dX5_group_103 : decode cX5_group 103 = .ok (.iconst 1, 1) := by decide +kernel
theorem dX5_group_104 : decode cX5_group 104 = .ok (.goto 4, 3) := by decide +kernel
theorem dX5_group_107 : decode cX5_group 107 = .ok (.iconst 0, 1) := by decide +kernel
theorem dX5_group_108 : decode cX5_group 108 = .ok (.iadd, 1) := by decide +kernel
theorem dX5_group_109 : decode cX5_group 109 = .ok (.istore_n 3, 1) := by decide +kernel
theorem dX5_group_110 : decode cX5_group 110 = .ok (.iinc 4 1, 3) := by decide +kernel
theorem dX5_group_113 : decode cX5_group 113 = .ok (.goto (-31), 3) := by decide +kernel
theorem dX5_group_116 : decode cX5_group 116 = .ok (.iload_n 3, 1) := by decide +kernel
theorem dX5_group_117 : decode cX5_group 117 = .ok (.ireturn, 1) := by decide +kernel
theorem dX5_met_0 : decode cX5_met 0 = .ok (.iload_n 2, 1) := by decide +kernel
theorem dX5_met_1 : decode cX5_met 1 = .ok (.istore_n 3, 1) := by decide +kernel
theorem dX5_met_2 : decode cX5_met 2 = .ok (.iload_n 3, 1) := by decide +kernel
theorem dX5_met_3 : decode cX5_met 3 = .ok (.bipush 10, 2) := by decide +kernel
theorem dX5_met_5 : decode cX5_met 5 = .ok (.if_icmp .ge 29, 3) := by decide +kernel
theorem dX5_met_8 : decode cX5_met 8 = .ok (.aload_n 0, 1) := by decide +kernel
theorem dX5_met_9 : decode cX5_met 9 = .ok (.getfield 38, 3) := by decide +kernel
theorem dX5_met_12 : decode cX5_met 12 = .ok (.iload_n 3, 1) := by decide +kernel
theorem dX5_met_13 : decode cX5_met 13 = .ok (.iaload, 1) := by decide +kernel
theorem dX5_met_14 : decode cX5_met 14 = .ok (.iconst (-1), 1) := by decide +kernel
theorem dX5_met_15 : decode cX5_met 15 = .ok (.if_icmp .eq 13, 3) := by decide +kernel
theorem dX5_met_18 : decode cX5_met 18 = .ok (.aload_n 0, 1) := by decide +kernel
theorem dX5_met_19 : decode cX5_met 19 = .ok (.getfield 38, 3) := by decide +kernel
theorem dX5_met_22 : decode cX5_met 22 = .ok (.iload_n 3, 1) := by decide +kernel
theorem dX5_met_23 : decode cX5_met 23 = .ok (.iaload, 1) := by decide +kernel
theorem dX5_met_24 : decode cX5_met 24 = .ok (.iload_n 1, 1) := by decide +kernel
theorem dX5_met_25 : decode cX5_met 25 = .ok (.if_icmp .ne 9, 3) := by decide +kernel
theorem dX5_met_28 : decode cX5_met 28 = .ok (.iinc 3 1, 3) := by decide +kernel
theorem dX5_met_31 : decode cX5_met 31 = .ok (.goto (-29), 3) := by decide +kernel
theorem dX5_met_34 : decode cX5_met 34 = .ok (.iload_n 3, 1) := by decide +kernel
theorem dX5_met_35 : decode cX5_met 35 = .ok (.ireturn, 1) := by decide +kernel
theorem dX5_unroll_0 : decode cX5_unroll 0 = .ok (.iconst 0, 1) := by decide +kernel
theorem dX5_unroll_1 : decode cX5_unroll 1 = .ok (.istore_n 3, 1) := by decide +kernel
theorem dX5_unroll_2 : decode cX5_unroll 2 = .ok (.iload_n 1, 1) := by decide +kernel
theorem dX5_unroll_3 : decode cX5_unroll 3 = .ok (.istore 4, 2) := by decide +kernel
theorem dX5_unroll_5 : decode cX5_unroll 5 = .ok (.aload_n 0, 1) := by decide +kernel
theorem dX5_unroll_6 : decode cX5_unroll 6 = .ok (.getfield 47, 3) := by decide +kernel
theorem dX5_unroll_9 : decode cX5_unroll 9 = .ok (.iload 4, 2) := by decide +kernel
theorem dX5_unroll_11 : decode cX5_unroll 11 = .ok (.iaload, 1) := by decide +kernel
theorem dX5_unroll_12 : decode cX5_unroll 12 = .ok (.iconst (-1), 1) := by decide +kernel
theorem dX5_unroll_13 : decode cX5_unroll 13 = .ok (.if_icmp .eq 18, 3) := by decide +kernel
theorem dX5_unroll_16 : decode cX5_unroll 16 = .ok (.iinc 3 1, 3) := by decide +kernel
theorem dX5_unroll_19 : decode cX5_unroll 19 = .ok (.aload_n 0, 1) := by decide +kernel
theorem dX5_unroll_20 : decode cX5_unroll 20 = .ok (.getfield 47, 3) := by decide +kernel
theorem dX5_unroll_23 : decode cX5_unroll 23 = .ok (.iload 4, 2) := by decide +kernel
theorem dX5_unroll_25 : decode cX5_unroll 25 = .ok (.iaload, 1) := by decide +kernel
theorem dX5_unroll_26 : decode cX5_unroll 26 = .ok (.istore 4, 2) := by decide +kernel
theorem dX5_unroll_28 : decode cX5_unroll 28 = .ok (.goto (-23), 3) := by decide +kernel
theorem dX5_unroll_31 : decode cX5_unroll 31 = .ok (.iload_n 3, 1) := by decide +kernel
theorem dX5_unroll_32 : decode cX5_unroll 32 = .ok (.istore 5, 2) := by decide +kernel
theorem dX5_unroll_34 : decode cX5_unroll 34 = .ok (.iload_n 1, 1) := by decide +kernel
theorem dX5_unroll_35 : decode cX5_unroll 35 = .ok (.istore 4, 2) := by decide +kernel
theorem dX5_unroll_37 : decode cX5_unroll 37 = .ok (.aload_n 0, 1) := by decide +kernel
theorem dX5_unroll_38 : decode cX5_unroll 38 = .ok (.getfield 47, 3) := by decide +kernel
theorem dX5_unroll_41 : decode cX5_unroll 41 = .ok (.iload 4, 2) := by decide +kernel
theorem dX5_unroll_43 : decode cX5_unroll 43 = .ok (.iaload, 1) := by decide +kernel
theorem dX5_unroll_44 : decode cX5_unroll 44 = .ok (.iconst (-1), 1) := by decide +kernel
theorem dX5_unroll_45 : decode cX5_unroll 45 = .ok (.if_icmp .eq 53, 3) := by decide +kernel
theorem dX5_unroll_48 : decode cX5_unroll 48 = .ok (.iinc 5 (-1), 3) := by decide +kernel
theorem dX5_unroll_51 : decode cX5_unroll 51 = .ok (.iload_n 2, 1) := by decide +kernel
theorem dX5_unroll_52 : decode cX5_unroll 52 = .ok (.ifCond .eq 20, 3) := by decide +kernel
theorem dX5_unroll_55 : decode cX5_unroll 55 = .ok (.aload_n 0, 1) := by decide +kernel
theorem dX5_unroll_56 : decode cX5_unroll 56 = .ok (.getfield 69, 3) := by decide +kernel
theorem dX5_unroll_59 : decode cX5_unroll 59 = .ok (.iload 5, 2) := by decide +kernel
theorem dX5_unroll_61 : decode cX5_unroll 61 = .ok (.aload_n 0, 1) := by decide +kernel
theorem dX5_unroll_62 : decode cX5_unroll 62 = .ok (.getfield 50, 3) := by decide +kernel
theorem dX5_unroll_65 : decode cX5_unroll 65 = .ok (.iload 4, 2) := by decide +kernel
theorem dX5_unroll_67 : decode cX5_unroll 67 = .ok (.iaload, 1) := by decide +kernel
theorem dX5_unroll_68 : decode cX5_unroll 68 = .ok (.iastore, 1) := by decide +kernel
theorem dX5_unroll_69 : decode cX5_unroll 69 = .ok (.goto 17, 3) := by decide +kernel
theorem dX5_unroll_72 : decode cX5_unroll 72 = .ok (.aload_n 0, 1) := by decide +kernel
theorem dX5_unroll_73 : decode cX5_unroll 73 = .ok (.getfield 72, 3) := by decide +kernel
theorem dX5_unroll_76 : decode cX5_unroll 76 = .ok (.iload 5, 2) := by decide +kernel
theorem dX5_unroll_78 : decode cX5_unroll 78 = .ok (.aload_n 0, 1) := by decide +kernel
theorem dX5_unroll_79 : decode cX5_unroll 79 = .ok (.getfield 50, 3) := by decide +kernel
theorem dX5_unroll_82 : decode cX5_unroll 82 = .ok (.iload 4, 2) := by decide +kernel
theorem dX5_unroll_84 : decode cX5_unroll 84 = .ok (.iaload, 1) := by decide +kernel
theorem dX5_unroll_85 : decode cX5_unroll 85 = .ok (.iastore, 1) := by decide +kernel
theorem dX5_unroll_86 : decode cX5_unroll 86 = .ok (.aload_n 0, 1) := by decide +kernel
theorem dX5_unroll_87 : decode cX5_unroll 87 = .ok (.getfield 47, 3) := by decide +kernel
theorem dX5_unroll_90 : decode cX5_unroll 90 = .ok (.iload 4, 2) := by decide +kernel
theorem dX5_unroll_92 : decode cX5_unroll 92 = .ok (.iaload, 1) := by decide +kernel
theorem dX5_unroll_93 : decode cX5_unroll 93 = .ok (.istore 4, 2) := by decide +kernel
theorem dX5_unroll_95 : decode cX5_unroll 95 = .ok (.goto (-58), 3) := by decide +kernel
theorem dX5_unroll_98 : decode cX5_unroll 98 = .ok (.iload_n 3, 1) := by decide +kernel
theorem dX5_unroll_99 : decode cX5_unroll 99 = .ok (.ireturn, 1) := by decide +kernel
theorem dX5_startOf_0 : decode cX5_startOf 0 = .ok (.iload_n 1, 1) := by decide +kernel
theorem dX5_startOf_1 : decode cX5_startOf 1 = .ok (.istore_n 2, 1) := by decide +kernel
theorem dX5_startOf_2 : decode cX5_startOf 2 = .ok (.aload_n 0, 1) := by decide +kernel
theorem dX5_startOf_3 : decode cX5_startOf 3 = .ok (.getfield 47, 3) := by decide +kernel
theorem dX5_startOf_6 : decode cX5_startOf 6 = .ok (.iload_n 2, 1) := by decide +kernel
theorem dX5_startOf_7 : decode cX5_startOf 7 = .ok (.iaload, 1) := by decide +kernel
theorem dX5_startOf_8 : decode cX5_startOf 8 = .ok (.iconst (-1), 1) := by decide +kernel
theorem dX5_startOf_9 : decode cX5_startOf 9 = .ok (.if_icmp .eq 13, 3) := by decide +kernel
theorem dX5_startOf_12 : decode cX5_startOf 12 = .ok (.aload_n 0, 1) := by decide +kernel
theorem dX5_startOf_13 : decode cX5_startOf 13 = .ok (.getfield 47, 3) := by decide +kernel
theorem dX5_startOf_16 : decode cX5_startOf 16 = .ok (.iload_n 2, 1) := by decide +kernel
theorem dX5_startOf_17 : decode cX5_startOf 17 = .ok (.iaload, 1) := by decide +kernel
theorem dX5_startOf_18 : decode cX5_startOf 18 = .ok (.istore_n 2, 1) := by decide +kernel
theorem dX5_startOf_19 : decode cX5_startOf 19 = .ok (.goto (-17), 3) := by decide +kernel
theorem dX5_startOf_22 : decode cX5_startOf 22 = .ok (.aload_n 0, 1) := by decide +kernel
theorem dX5_startOf_23 : decode cX5_startOf 23 = .ok (.getfield 50, 3) := by decide +kernel
theorem dX5_startOf_26 : decode cX5_startOf 26 = .ok (.iload_n 2, 1) := by decide +kernel
theorem dX5_startOf_27 : decode cX5_startOf 27 = .ok (.iaload, 1) := by decide +kernel
theorem dX5_startOf_28 : decode cX5_startOf 28 = .ok (.ireturn, 1) := by decide +kernel
theorem dX5_compareRows_0 : decode cX5_compareRows 0 = .ok (.aload_n 0, 1) := by decide +kernel
theorem dX5_compareRows_1 : decode cX5_compareRows 1 = .ok (.iload_n 1, 1) := by decide +kernel
theorem dX5_compareRows_2 : decode cX5_compareRows 2 = .ok (.invokevirtual 119, 3) := by decide +kernel
theorem dX5_compareRows_5 : decode cX5_compareRows 5 = .ok (.istore_n 3, 1) := by decide +kernel
theorem dX5_compareRows_6 : decode cX5_compareRows 6 = .ok (.aload_n 0, 1) := by decide +kernel
theorem dX5_compareRows_7 : decode cX5_compareRows 7 = .ok (.iload_n 2, 1) := by decide +kernel
theorem dX5_compareRows_8 : decode cX5_compareRows 8 = .ok (.invokevirtual 119, 3) := by decide +kernel
theorem dX5_compareRows_11 : decode cX5_compareRows 11 = .ok (.istore 4, 2) := by decide +kernel
theorem dX5_compareRows_13 : decode cX5_compareRows 13 = .ok (.iload_n 3, 1) := by decide +kernel
theorem dX5_compareRows_14 : decode cX5_compareRows 14 = .ok (.iload 4, 2) := by decide +kernel
theorem dX5_compareRows_16 : decode cX5_compareRows 16 = .ok (.if_icmp .eq 15, 3) := by decide +kernel
theorem dX5_compareRows_19 : decode cX5_compareRows 19 = .ok (.iload_n 3, 1) := by decide +kernel
theorem dX5_compareRows_20 : decode cX5_compareRows 20 = .ok (.iload 4, 2) := by decide +kernel
theorem dX5_compareRows_22 : decode cX5_compareRows 22 = .ok (.if_icmp .ge 7, 3) := by decide +kernel
theorem dX5_compareRows_25 : decode cX5_compareRows 25 = .ok (.iconst (-1), 1) := by decide +kernel
theorem dX5_compareRows_26 : decode cX5_compareRows 26 = .ok (.goto 4, 3) := by decide +kernel
theorem dX5_compareRows_29 : decode cX5_compareRows 29 = .ok (.iconst 1, 1) := by decide +kernel
theorem dX5_compareRows_30 : decode cX5_compareRows 30 = .ok (.ireturn, 1) := by decide +kernel
theorem dX5_compareRows_31 : decode cX5_compareRows 31 = .ok (.aload_n 0, 1) := by decide +kernel
theorem dX5_compareRows_32 : decode cX5_compareRows 32 = .ok (.iload_n 1, 1) := by decide +kernel
theorem dX5_compareRows_33 : decode cX5_compareRows 33 = .ok (.iconst 1, 1) := by decide +kernel
theorem dX5_compareRows_34 : decode cX5_compareRows 34 = .ok (.invokevirtual 123, 3) := by decide +kernel
theorem dX5_compareRows_37 : decode cX5_compareRows 37 = .ok (.istore 5, 2) := by decide +kernel
theorem dX5_compareRows_39 : decode cX5_compareRows 39 = .ok (.aload_n 0, 1) := by decide +kernel
theorem dX5_compareRows_40 : decode cX5_compareRows 40 = .ok (.iload_n 2, 1) := by decide +kernel
theorem dX5_compareRows_41 : decode cX5_compareRows 41 = .ok (.iconst 0, 1) := by decide +kernel
theorem dX5_compareRows_42 : decode cX5_compareRows 42 = .ok (.invokevirtual 123, 3) := by decide +kernel
theorem dX5_compareRows_45 : decode cX5_compareRows 45 = .ok (.istore 6, 2) := by decide +kernel
theorem dX5_compareRows_47 : decode cX5_compareRows 47 = .ok (.iconst 0, 1) := by decide +kernel
theorem dX5_compareRows_48 : decode cX5_compareRows 48 = .ok (.istore 7, 2) := by decide +kernel
theorem dX5_compareRows_50 : decode cX5_compareRows 50 = .ok (.iload 7, 2) := by decide +kernel
theorem dX5_compareRows_52 : decode cX5_compareRows 52 = .ok (.iload 5, 2) := by decide +kernel
theorem dX5_compareRows_54 : decode cX5_compareRows 54 = .ok (.if_icmp .ge 56, 3) := by decide +kernel
theorem dX5_compareRows_57 : decode cX5_compareRows 57 = .ok (.iload 7, 2) := by decide +kernel
theorem dX5_compareRows_59 : decode cX5_compareRows 59 = .ok (.iload 6, 2) := by decide +kernel
theorem dX5_compareRows_61 : decode cX5_compareRows 61 = .ok (.if_icmp .ge 49, 3) := by decide +kernel
theorem dX5_compareRows_64 : decode cX5_compareRows 64 = .ok (.aload_n 0, 1) := by decide +kernel
theorem dX5_compareRows_65 : decode cX5_compareRows 65 = .ok (.getfield 69, 3) := by decide +kernel
theorem dX5_compareRows_68 : decode cX5_compareRows 68 = .ok (.iload 7, 2) := by decide +kernel
theorem dX5_compareRows_70 : decode cX5_compareRows 70 = .ok (.iaload, 1) := by decide +kernel
theorem dX5_compareRows_71 : decode cX5_compareRows 71 = .ok (.aload_n 0, 1) := by decide +kernel
theorem dX5_compareRows_72 : decode cX5_compareRows 72 = .ok (.getfield 72, 3) := by decide +kernel
theorem dX5_compareRows_75 : decode cX5_compareRows 75 = .ok (.iload 7, 2) := by decide +kernel
theorem dX5_compareRows_77 : decode cX5_compareRows 77 = .ok (.iaload, 1) := by decide +kernel
theorem dX5_compareRows_78 : decode cX5_compareRows 78 = .ok (.if_icmp .eq 26, 3) := by decide +kernel
theorem dX5_compareRows_81 : decode cX5_compareRows 81 = .ok (.aload_n 0, 1) := by decide +kernel
theorem dX5_compareRows_82 : decode cX5_compareRows 82 = .ok (.getfield 69, 3) := by decide +kernel
theorem dX5_compareRows_85 : decode cX5_compareRows 85 = .ok (.iload 7, 2) := by decide +kernel
theorem dX5_compareRows_87 : decode cX5_compareRows 87 = .ok (.iaload, 1) := by decide +kernel
theorem dX5_compareRows_88 : decode cX5_compareRows 88 = .ok (.aload_n 0, 1) := by decide +kernel
theorem dX5_compareRows_89 : decode cX5_compareRows 89 = .ok (.getfield 72, 3) := by decide +kernel
theorem dX5_compareRows_92 : decode cX5_compareRows 92 = .ok (.iload 7, 2) := by decide +kernel
theorem dX5_compareRows_94 : decode cX5_compareRows 94 = .ok (.iaload, 1) := by decide +kernel
theorem dX5_compareRows_95 : decode cX5_compareRows 95 = .ok (.if_icmp .ge 7, 3) := by decide +kernel
theorem dX5_compareRows_98 : decode cX5_compareRows 98 = .ok (.iconst (-1), 1) := by decide +kernel
theorem dX5_compareRows_99 : decode cX5_compareRows 99 = .ok (.goto 4, 3) := by decide +kernel
theorem dX5_compareRows_102 : decode cX5_compareRows 102 = .ok (.iconst 1, 1) := by decide +kernel
theorem dX5_compareRows_103 : decode cX5_compareRows 103 = .ok (.ireturn, 1) := by decide +kernel
theorem dX5_compareRows_104 : decode cX5_compareRows 104 = .ok (.iinc 7 1, 3) := by decide +kernel
theorem dX5_compareRows_107 : decode cX5_compareRows 107 = .ok (.goto (-57), 3) := by decide +kernel
theorem dX5_compareRows_110 : decode cX5_compareRows 110 = .ok (.iload 5, 2) := by decide +kernel
theorem dX5_compareRows_112 : decode cX5_compareRows 112 = .ok (.iload 6, 2) := by decide +kernel
theorem dX5_compareRows_114 : decode cX5_compareRows 114 = .ok (.if_icmp .ge 7, 3) := by decide +kernel
theorem dX5_compareRows_117 : decode cX5_compareRows 117 = .ok (.iconst (-1), 1) := by decide +kernel
theorem dX5_compareRows_118 : decode cX5_compareRows 118 = .ok (.goto 15, 3) := by decide +kernel
theorem dX5_compareRows_121 : decode cX5_compareRows 121 = .ok (.iload 5, 2) := by decide +kernel
theorem dX5_compareRows_123 : decode cX5_compareRows 123 = .ok (.iload 6, 2) := by decide +kernel
theorem dX5_compareRows_125 : decode cX5_compareRows 125 = .ok (.if_icmp .le 7, 3) := by decide +kernel
theorem dX5_compareRows_128 : decode cX5_compareRows 128 = .ok (.iconst 1, 1) := by decide +kernel
theorem dX5_compareRows_129 : decode cX5_compareRows 129 = .ok (.goto 4, 3) := by decide +kernel
theorem dX5_compareRows_132 : decode cX5_compareRows 132 = .ok (.iconst 0, 1) := by decide +kernel
theorem dX5_compareRows_133 : decode cX5_compareRows 133 = .ok (.ireturn, 1) := by decide +kernel
theorem dX5_come_0 : decode cX5_come 0 = .ok (.bipush 40, 2) := by decide +kernel
theorem dX5_come_2 : decode cX5_come 2 = .ok (.iload_n 1, 1) := by decide +kernel
theorem dX5_come_3 : decode cX5_come 3 = .ok (.imul, 1) := by decide +kernel
theorem dX5_come_4 : decode cX5_come 4 = .ok (.istore 7, 2) := by decide +kernel
theorem dX5_come_6 : decode cX5_come 6 = .ok (.aload_n 0, 1) := by decide +kernel
theorem dX5_come_7 : decode cX5_come 7 = .ok (.getfield 56, 3) := by decide +kernel
theorem dX5_come_10 : decode cX5_come 10 = .ok (.iload_n 1, 1) := by decide +kernel
theorem dX5_come_11 : decode cX5_come 11 = .ok (.iaload, 1) := by decide +kernel
theorem dX5_come_12 : decode cX5_come 12 = .ok (.istore 8, 2) := by decide +kernel
theorem dX5_come_14 : decode cX5_come 14 = .ok (.sipush 26400, 3) := by decide +kernel
theorem dX5_come_17 : decode cX5_come 17 = .ok (.istore 9, 2) := by decide +kernel
theorem dX5_come_19 : decode cX5_come 19 = .ok (.aload_n 0, 1) := by decide +kernel
theorem dX5_come_20 : decode cX5_come 20 = .ok (.getfield 47, 3) := by decide +kernel
theorem dX5_come_23 : decode cX5_come 23 = .ok (.iload 9, 2) := by decide +kernel
theorem dX5_come_25 : decode cX5_come 25 = .ok (.iload_n 3, 1) := by decide +kernel
theorem dX5_come_26 : decode cX5_come 26 = .ok (.iastore, 1) := by decide +kernel
theorem dX5_come_27 : decode cX5_come 27 = .ok (.aload_n 0, 1) := by decide +kernel
theorem dX5_come_28 : decode cX5_come 28 = .ok (.getfield 50, 3) := by decide +kernel
theorem dX5_come_31 : decode cX5_come 31 = .ok (.iload 9, 2) := by decide +kernel
theorem dX5_come_33 : decode cX5_come 33 = .ok (.iload 4, 2) := by decide +kernel
theorem dX5_come_35 : decode cX5_come 35 = .ok (.iastore, 1) := by decide +kernel
theorem dX5_come_36 : decode cX5_come 36 = .ok (.aload_n 0, 1) := by decide +kernel
theorem dX5_come_37 : decode cX5_come 37 = .ok (.getfield 53, 3) := by decide +kernel
theorem dX5_come_40 : decode cX5_come 40 = .ok (.iload 9, 2) := by decide +kernel
theorem dX5_come_42 : decode cX5_come 42 = .ok (.dload 5, 2) := by decide +kernel
theorem dX5_come_44 : decode cX5_come 44 = .ok (.dastore, 1) := by decide +kernel
theorem dX5_come_45 : decode cX5_come 45 = .ok (.iconst 0, 1) := by decide +kernel
theorem dX5_come_46 : decode cX5_come 46 = .ok (.istore 10, 2) := by decide +kernel
theorem dX5_come_48 : decode cX5_come 48 = .ok (.iload 10, 2) := by decide +kernel
theorem dX5_come_50 : decode cX5_come 50 = .ok (.iload 8, 2) := by decide +kernel
theorem dX5_come_52 : decode cX5_come 52 = .ok (.if_icmp .ge 55, 3) := by decide +kernel
theorem dX5_come_55 : decode cX5_come 55 = .ok (.aload_n 0, 1) := by decide +kernel
theorem dX5_come_56 : decode cX5_come 56 = .ok (.getfield 53, 3) := by decide +kernel
theorem dX5_come_59 : decode cX5_come 59 = .ok (.iload 7, 2) := by decide +kernel
theorem dX5_come_61 : decode cX5_come 61 = .ok (.iload 10, 2) := by decide +kernel
theorem dX5_come_63 : decode cX5_come 63 = .ok (.iadd, 1) := by decide +kernel
theorem dX5_come_64 : decode cX5_come 64 = .ok (.daload, 1) := by decide +kernel
theorem dX5_come_65 : decode cX5_come 65 = .ok (.dload 5, 2) := by decide +kernel
theorem dX5_come_67 : decode cX5_come 67 = .ok (.dcmp .l, 1) := by decide +kernel
theorem dX5_come_68 : decode cX5_come 68 = .ok (.ifCond .gt 33, 3) := by decide +kernel
theorem dX5_come_71 : decode cX5_come 71 = .ok (.aload_n 0, 1) := by decide +kernel
theorem dX5_come_72 : decode cX5_come 72 = .ok (.getfield 53, 3) := by decide +kernel
theorem dX5_come_75 : decode cX5_come 75 = .ok (.iload 7, 2) := by decide +kernel
theorem dX5_come_77 : decode cX5_come 77 = .ok (.iload 10, 2) := by decide +kernel
theorem dX5_come_79 : decode cX5_come 79 = .ok (.iadd, 1) := by decide +kernel
theorem dX5_come_80 : decode cX5_come 80 = .ok (.daload, 1) := by decide +kernel
theorem dX5_come_81 : decode cX5_come 81 = .ok (.dload 5, 2) := by decide +kernel
theorem dX5_come_83 : decode cX5_come 83 = .ok (.dcmp .l, 1) := by decide +kernel
theorem dX5_come_84 : decode cX5_come 84 = .ok (.ifCond .ne 23, 3) := by decide +kernel
theorem dX5_come_87 : decode cX5_come 87 = .ok (.aload_n 0, 1) := by decide +kernel
theorem dX5_come_88 : decode cX5_come 88 = .ok (.iload 7, 2) := by decide +kernel
theorem dX5_come_90 : decode cX5_come 90 = .ok (.iload 10, 2) := by decide +kernel
theorem dX5_come_92 : decode cX5_come 92 = .ok (.iadd, 1) := by decide +kernel
theorem dX5_come_93 : decode cX5_come 93 = .ok (.iload 9, 2) := by decide +kernel
theorem dX5_come_95 : decode cX5_come 95 = .ok (.invokevirtual 127, 3) := by decide +kernel
theorem dX5_come_98 : decode cX5_come 98 = .ok (.ifCond .ge 9, 3) := by decide +kernel
theorem dX5_come_101 : decode cX5_come 101 = .ok (.iinc 10 1, 3) := by decide +kernel
theorem dX5_come_104 : decode cX5_come 104 = .ok (.goto (-56), 3) := by decide +kernel
theorem dX5_come_107 : decode cX5_come 107 = .ok (.iload 10, 2) := by decide +kernel
theorem dX5_come_109 : decode cX5_come 109 = .ok (.iload_n 2, 1) := by decide +kernel
theorem dX5_come_110 : decode cX5_come 110 = .ok (.if_icmp .ne 4, 3) := by decide +kernel
theorem dX5_come_113 : decode cX5_come 113 = .ok (.return_, 1) := by decide +kernel
theorem dX5_come_114 : decode cX5_come 114 = .ok (.iload 8, 2) := by decide +kernel
theorem dX5_come_116 : decode cX5_come 116 = .ok (.iload_n 2, 1) := by decide +kernel
theorem dX5_come_117 : decode cX5_come 117 = .ok (.if_icmp .ge 8, 3) := by decide +kernel
theorem dX5_come_120 : decode cX5_come 120 = .ok (.iload 8, 2) := by decide +kernel
theorem dX5_come_122 : decode cX5_come 122 = .ok (.goto 6, 3) := by decide +kernel
theorem dX5_come_125 : decode cX5_come 125 = .ok (.iload_n 2, 1) := by decide +kernel
theorem dX5_come_126 : decode cX5_come 126 = .ok (.iconst 1, 1) := by decide +kernel
theorem dX5_come_127 : decode cX5_come 127 = .ok (.isub, 1) := by decide +kernel
theorem dX5_come_128 : decode cX5_come 128 = .ok (.istore 11, 2) := by decide +kernel
theorem dX5_come_130 : decode cX5_come 130 = .ok (.iload 11, 2) := by decide +kernel
theorem dX5_come_132 : decode cX5_come 132 = .ok (.istore 12, 2) := by decide +kernel
theorem dX5_come_134 : decode cX5_come 134 = .ok (.iload 12, 2) := by decide +kernel
theorem dX5_come_136 : decode cX5_come 136 = .ok (.iload 10, 2) := by decide +kernel
theorem dX5_come_138 : decode cX5_come 138 = .ok (.if_icmp .le 75, 3) := by decide +kernel
theorem dX5_come_141 : decode cX5_come 141 = .ok (.aload_n 0, 1) := by decide +kernel
theorem dX5_come_142 : decode cX5_come 142 = .ok (.getfield 47, 3) := by decide +kernel
theorem dX5_come_145 : decode cX5_come 145 = .ok (.iload 7, 2) := by decide +kernel
theorem dX5_come_147 : decode cX5_come 147 = .ok (.iload 12, 2) := by decide +kernel
theorem dX5_come_149 : decode cX5_come 149 = .ok (.iadd, 1) := by decide +kernel
theorem dX5_come_150 : decode cX5_come 150 = .ok (.aload_n 0, 1) := by decide +kernel
theorem dX5_come_151 : decode cX5_come 151 = .ok (.getfield 47, 3) := by decide +kernel
theorem dX5_come_154 : decode cX5_come 154 = .ok (.iload 7, 2) := by decide +kernel
theorem dX5_come_156 : decode cX5_come 156 = .ok (.iload 12, 2) := by decide +kernel
theorem dX5_come_158 : decode cX5_come 158 = .ok (.iadd, 1) := by decide +kernel
theorem dX5_come_159 : decode cX5_come 159 = .ok (.iconst 1, 1) := by decide +kernel
theorem dX5_come_160 : decode cX5_come 160 = .ok (.isub, 1) := by decide +kernel
theorem dX5_come_161 : decode cX5_come 161 = .ok (.iaload, 1) := by decide +kernel
theorem dX5_come_162 : decode cX5_come 162 = .ok (.iastore, 1) := by decide +kernel
theorem dX5_come_163 : decode cX5_come 163 = .ok (.aload_n 0, 1) := by decide +kernel
theorem dX5_come_164 : decode cX5_come 164 = .ok (.getfield 50, 3) := by decide +kernel
theorem dX5_come_167 : decode cX5_come 167 = .ok (.iload 7, 2) := by decide +kernel
theorem dX5_come_169 : decode cX5_come 169 = .ok (.iload 12, 2) := by decide +kernel
theorem dX5_come_171 : decode cX5_come 171 = .ok (.iadd, 1) := by decide +kernel
theorem dX5_come_172 : decode cX5_come 172 = .ok (.aload_n 0, 1) := by decide +kernel
theorem dX5_come_173 : decode cX5_come 173 = .ok (.getfield 50, 3) := by decide +kernel
theorem dX5_come_176 : decode cX5_come 176 = .ok (.iload 7, 2) := by decide +kernel
theorem dX5_come_178 : decode cX5_come 178 = .ok (.iload 12, 2) := by decide +kernel
theorem dX5_come_180 : decode cX5_come 180 = .ok (.iadd, 1) := by decide +kernel
theorem dX5_come_181 : decode cX5_come 181 = .ok (.iconst 1, 1) := by decide +kernel
theorem dX5_come_182 : decode cX5_come 182 = .ok (.isub, 1) := by decide +kernel
theorem dX5_come_183 : decode cX5_come 183 = .ok (.iaload, 1) := by decide +kernel
theorem dX5_come_184 : decode cX5_come 184 = .ok (.iastore, 1) := by decide +kernel
theorem dX5_come_185 : decode cX5_come 185 = .ok (.aload_n 0, 1) := by decide +kernel
theorem dX5_come_186 : decode cX5_come 186 = .ok (.getfield 53, 3) := by decide +kernel
theorem dX5_come_189 : decode cX5_come 189 = .ok (.iload 7, 2) := by decide +kernel
theorem dX5_come_191 : decode cX5_come 191 = .ok (.iload 12, 2) := by decide +kernel
theorem dX5_come_193 : decode cX5_come 193 = .ok (.iadd, 1) := by decide +kernel
theorem dX5_come_194 : decode cX5_come 194 = .ok (.aload_n 0, 1) := by decide +kernel
theorem dX5_come_195 : decode cX5_come 195 = .ok (.getfield 53, 3) := by decide +kernel
theorem dX5_come_198 : decode cX5_come 198 = .ok (.iload 7, 2) := by decide +kernel
theorem dX5_come_200 : decode cX5_come 200 = .ok (.iload 12, 2) := by decide +kernel
theorem dX5_come_202 : decode cX5_come 202 = .ok (.iadd, 1) := by decide +kernel
theorem dX5_come_203 : decode cX5_come 203 = .ok (.iconst 1, 1) := by decide +kernel
theorem dX5_come_204 : decode cX5_come 204 = .ok (.isub, 1) := by decide +kernel
theorem dX5_come_205 : decode cX5_come 205 = .ok (.daload, 1) := by decide +kernel
theorem dX5_come_206 : decode cX5_come 206 = .ok (.dastore, 1) := by decide +kernel
theorem dX5_come_207 : decode cX5_come 207 = .ok (.iinc 12 (-1), 3) := by decide +kernel
theorem dX5_come_210 : decode cX5_come 210 = .ok (.goto (-76), 3) := by decide +kernel
theorem dX5_come_213 : decode cX5_come 213 = .ok (.aload_n 0, 1) := by decide +kernel
theorem dX5_come_214 : decode cX5_come 214 = .ok (.getfield 47, 3) := by decide +kernel
theorem dX5_come_217 : decode cX5_come 217 = .ok (.iload 7, 2) := by decide +kernel
theorem dX5_come_219 : decode cX5_come 219 = .ok (.iload 10, 2) := by decide +kernel
theorem dX5_come_221 : decode cX5_come 221 = .ok (.iadd, 1) := by decide +kernel
theorem dX5_come_222 : decode cX5_come 222 = .ok (.iload_n 3, 1) := by decide +kernel
theorem dX5_come_223 : decode cX5_come 223 = .ok (.iastore, 1) := by decide +kernel
theorem dX5_come_224 : decode cX5_come 224 = .ok (.aload_n 0, 1) := by decide +kernel
theorem dX5_come_225 : decode cX5_come 225 = .ok (.getfield 50, 3) := by decide +kernel
theorem dX5_come_228 : decode cX5_come 228 = .ok (.iload 7, 2) := by decide +kernel
theorem dX5_come_230 : decode cX5_come 230 = .ok (.iload 10, 2) := by decide +kernel
theorem dX5_come_232 : decode cX5_come 232 = .ok (.iadd, 1) := by decide +kernel
theorem dX5_come_233 : decode cX5_come 233 = .ok (.iload 4, 2) := by decide +kernel
theorem dX5_come_235 : decode cX5_come 235 = .ok (.iastore, 1) := by decide +kernel
theorem dX5_come_236 : decode cX5_come 236 = .ok (.aload_n 0, 1) := by decide +kernel
theorem dX5_come_237 : decode cX5_come 237 = .ok (.getfield 53, 3) := by decide +kernel
theorem dX5_come_240 : decode cX5_come 240 = .ok (.iload 7, 2) := by decide +kernel
theorem dX5_come_242 : decode cX5_come 242 = .ok (.iload 10, 2) := by decide +kernel
theorem dX5_come_244 : decode cX5_come 244 = .ok (.iadd, 1) := by decide +kernel
theorem dX5_come_245 : decode cX5_come 245 = .ok (.dload 5, 2) := by decide +kernel
theorem dX5_come_247 : decode cX5_come 247 = .ok (.dastore, 1) := by decide +kernel
theorem dX5_come_248 : decode cX5_come 248 = .ok (.aload_n 0, 1) := by decide +kernel
theorem dX5_come_249 : decode cX5_come 249 = .ok (.getfield 56, 3) := by decide +kernel
theorem dX5_come_252 : decode cX5_come 252 = .ok (.iload_n 1, 1) := by decide +kernel
theorem dX5_come_253 : decode cX5_come 253 = .ok (.iload 11, 2) := by decide +kernel
theorem dX5_come_255 : decode cX5_come 255 = .ok (.iconst 1, 1) := by decide +kernel
theorem dX5_come_256 : decode cX5_come 256 = .ok (.iadd, 1) := by decide +kernel
theorem dX5_come_257 : decode cX5_come 257 = .ok (.iastore, 1) := by decide +kernel
theorem dX5_come_258 : decode cX5_come 258 = .ok (.return_, 1) := by decide +kernel
theorem dX5_arrange_0 : decode cX5_arrange 0 = .ok (.iconst 0, 1) := by decide +kernel
theorem dX5_arrange_1 : decode cX5_arrange 1 = .ok (.istore_n 1, 1) := by decide +kernel
theorem dX5_arrange_2 : decode cX5_arrange 2 = .ok (.iload_n 1, 1) := by decide +kernel
theorem dX5_arrange_3 : decode cX5_arrange 3 = .ok (.bipush 60, 2) := by decide +kernel
theorem dX5_arrange_5 : decode cX5_arrange 5 = .ok (.if_icmp .ge 16, 3) := by decide +kernel
theorem dX5_arrange_8 : decode cX5_arrange 8 = .ok (.aload_n 0, 1) := by decide +kernel
theorem dX5_arrange_9 : decode cX5_arrange 9 = .ok (.getfield 65, 3) := by decide +kernel
theorem dX5_arrange_12 : decode cX5_arrange 12 = .ok (.iload_n 1, 1) := by decide +kernel
theorem dX5_arrange_13 : decode cX5_arrange 13 = .ok (.iconst 0, 1) := by decide +kernel
theorem dX5_arrange_14 : decode cX5_arrange 14 = .ok (.bastore, 1) := by decide +kernel
theorem dX5_arrange_15 : decode cX5_arrange 15 = .ok (.iinc 1 1, 3) := by decide +kernel
theorem dX5_arrange_18 : decode cX5_arrange 18 = .ok (.goto (-16), 3) := by decide +kernel
theorem dX5_arrange_21 : decode cX5_arrange 21 = .ok (.iconst 0, 1) := by decide +kernel
theorem dX5_arrange_22 : decode cX5_arrange 22 = .ok (.istore_n 1, 1) := by decide +kernel
theorem dX5_arrange_23 : decode cX5_arrange 23 = .ok (.iload_n 1, 1) := by decide +kernel
theorem dX5_arrange_24 : decode cX5_arrange 24 = .ok (.aload_n 0, 1) := by decide +kernel
theorem dX5_arrange_25 : decode cX5_arrange 25 = .ok (.getfield 85, 3) := by decide +kernel
theorem dX5_arrange_28 : decode cX5_arrange 28 = .ok (.if_icmp .ge 115, 3) := by decide +kernel
theorem dX5_arrange_31 : decode cX5_arrange 31 = .ok (.iconst 0, 1) := by decide +kernel
theorem dX5_arrange_32 : decode cX5_arrange 32 = .ok (.istore_n 2, 1) := by decide +kernel
theorem dX5_arrange_33 : decode cX5_arrange 33 = .ok (.iconst 0, 1) := by decide +kernel
theorem dX5_arrange_34 : decode cX5_arrange 34 = .ok (.istore_n 3, 1) := by decide +kernel
theorem dX5_arrange_35 : decode cX5_arrange 35 = .ok (.iload_n 3, 1) := by decide +kernel
theorem dX5_arrange_36 : decode cX5_arrange 36 = .ok (.ifCond .ne 87, 3) := by decide +kernel
theorem dX5_arrange_39 : decode cX5_arrange 39 = .ok (.aload_n 0, 1) := by decide +kernel
theorem dX5_arrange_40 : decode cX5_arrange 40 = .ok (.getfield 65, 3) := by decide +kernel
theorem dX5_arrange_43 : decode cX5_arrange 43 = .ok (.iload_n 2, 1) := by decide +kernel
theorem dX5_arrange_44 : decode cX5_arrange 44 = .ok (.baload, 1) := by decide +kernel
theorem dX5_arrange_45 : decode cX5_arrange 45 = .ok (.ifCond .ne 7, 3) := by decide +kernel
theorem dX5_arrange_48 : decode cX5_arrange 48 = .ok (.iconst 1, 1) := by decide +kernel
theorem dX5_arrange_49 : decode cX5_arrange 49 = .ok (.goto 4, 3) := by decide +kernel
theorem dX5_arrange_52 : decode cX5_arrange 52 = .ok (.iconst 0, 1) := by decide +kernel
theorem dX5_arrange_53 : decode cX5_arrange 53 = .ok (.istore_n 3, 1) := by decide +kernel
theorem dX5_arrange_54 : decode cX5_arrange 54 = .ok (.iconst 0, 1) := by decide +kernel
theorem dX5_arrange_55 : decode cX5_arrange 55 = .ok (.istore 4, 2) := by decide +kernel
theorem dX5_arrange_57 : decode cX5_arrange 57 = .ok (.iload 4, 2) := by decide +kernel
theorem dX5_arrange_59 : decode cX5_arrange 59 = .ok (.aload_n 0, 1) := by decide +kernel
theorem dX5_arrange_60 : decode cX5_arrange 60 = .ok (.getfield 96, 3) := by decide +kernel
theorem dX5_arrange_63 : decode cX5_arrange 63 = .ok (.if_icmp .ge 45, 3) := by decide +kernel
theorem dX5_arrange_66 : decode cX5_arrange 66 = .ok (.iload_n 3, 1) := by decide +kernel
theorem dX5_arrange_67 : decode cX5_arrange 67 = .ok (.ifCond .eq 33, 3) := by decide +kernel
theorem dX5_arrange_70 : decode cX5_arrange 70 = .ok (.aload_n 0, 1) := by decide +kernel
theorem dX5_arrange_71 : decode cX5_arrange 71 = .ok (.getfield 16, 3) := by decide +kernel
theorem dX5_arrange_74 : decode cX5_arrange 74 = .ok (.iload 4, 2) := by decide +kernel
theorem dX5_arrange_76 : decode cX5_arrange 76 = .ok (.iaload, 1) := by decide +kernel
theorem dX5_arrange_77 : decode cX5_arrange 77 = .ok (.iload_n 2, 1) := by decide +kernel
theorem dX5_arrange_78 : decode cX5_arrange 78 = .ok (.if_icmp .ne 18, 3) := by decide +kernel
theorem dX5_arrange_81 : decode cX5_arrange 81 = .ok (.aload_n 0, 1) := by decide +kernel
theorem dX5_arrange_82 : decode cX5_arrange 82 = .ok (.getfield 65, 3) := by decide +kernel
theorem dX5_arrange_85 : decode cX5_arrange 85 = .ok (.aload_n 0, 1) := by decide +kernel
theorem dX5_arrange_86 : decode cX5_arrange 86 = .ok (.getfield 13, 3) := by decide +kernel
theorem dX5_arrange_89 : decode cX5_arrange 89 = .ok (.iload 4, 2) := by decide +kernel
theorem dX5_arrange_91 : decode cX5_arrange 91 = .ok (.iaload, 1) := by decide +kernel
theorem dX5_arrange_92 : decode cX5_arrange 92 = .ok (.baload, 1) := by decide +kernel
theorem dX5_arrange_93 : decode cX5_arrange 93 = .ok (.ifCond .eq 7, 3) := by decide +kernel
theorem dX5_arrange_96 : decode cX5_arrange 96 = .ok (.iconst 1, 1) := by decide +kernel
theorem dX5_arrange_97 : decode cX5_arrange 97 = .ok (.goto 4, 3) := by decide +kernel
theorem dX5_arrange_100 : decode cX5_arrange 100 = .ok (.iconst 0, 1) := by decide +kernel
theorem dX5_arrange_101 : decode cX5_arrange 101 = .ok (.istore_n 3, 1) := by decide +kernel
theorem dX5_arrange_102 : decode cX5_arrange 102 = .ok (.iinc 4 1, 3) := by decide +kernel
theorem dX5_arrange_105 : decode cX5_arrange 105 = .ok (.goto (-48), 3) := by decide +kernel
theorem dX5_arrange_108 : decode cX5_arrange 108 = .ok (.iload_n 2, 1) := by decide +kernel
theorem dX5_arrange_109 : decode cX5_arrange 109 = .ok (.iload_n 3, 1) := by decide +kernel
theorem dX5_arrange_110 : decode cX5_arrange 110 = .ok (.ifCond .eq 7, 3) := by decide +kernel
theorem dX5_arrange_113 : decode cX5_arrange 113 = .ok (.iconst 0, 1) := by decide +kernel
theorem dX5_arrange_114 : decode cX5_arrange 114 = .ok (.goto 4, 3) := by decide +kernel
theorem dX5_arrange_117 : decode cX5_arrange 117 = .ok (.iconst 1, 1) := by decide +kernel
theorem dX5_arrange_118 : decode cX5_arrange 118 = .ok (.iadd, 1) := by decide +kernel
theorem dX5_arrange_119 : decode cX5_arrange 119 = .ok (.istore_n 2, 1) := by decide +kernel
theorem dX5_arrange_120 : decode cX5_arrange 120 = .ok (.goto (-85), 3) := by decide +kernel
theorem dX5_arrange_123 : decode cX5_arrange 123 = .ok (.aload_n 0, 1) := by decide +kernel
theorem dX5_arrange_124 : decode cX5_arrange 124 = .ok (.getfield 65, 3) := by decide +kernel
theorem dX5_arrange_127 : decode cX5_arrange 127 = .ok (.iload_n 2, 1) := by decide +kernel
theorem dX5_arrange_128 : decode cX5_arrange 128 = .ok (.iconst 1, 1) := by decide +kernel
theorem dX5_arrange_129 : decode cX5_arrange 129 = .ok (.bastore, 1) := by decide +kernel
theorem dX5_arrange_130 : decode cX5_arrange 130 = .ok (.aload_n 0, 1) := by decide +kernel
theorem dX5_arrange_131 : decode cX5_arrange 131 = .ok (.getfield 75, 3) := by decide +kernel
theorem dX5_arrange_134 : decode cX5_arrange 134 = .ok (.iload_n 1, 1) := by decide +kernel
theorem dX5_arrange_135 : decode cX5_arrange 135 = .ok (.iload_n 2, 1) := by decide +kernel
theorem dX5_arrange_136 : decode cX5_arrange 136 = .ok (.iastore, 1) := by decide +kernel
theorem dX5_arrange_137 : decode cX5_arrange 137 = .ok (.iinc 1 1, 3) := by decide +kernel
theorem dX5_arrange_140 : decode cX5_arrange 140 = .ok (.goto (-117), 3) := by decide +kernel
theorem dX5_arrange_143 : decode cX5_arrange 143 = .ok (.return_, 1) := by decide +kernel
theorem dX5_gather_0 : decode cX5_gather 0 = .ok (.iconst 0, 1) := by decide +kernel
theorem dX5_gather_1 : decode cX5_gather 1 = .ok (.istore_n 2, 1) := by decide +kernel
theorem dX5_gather_2 : decode cX5_gather 2 = .ok (.iload_n 2, 1) := by decide +kernel
theorem dX5_gather_3 : decode cX5_gather 3 = .ok (.sipush 660, 3) := by decide +kernel
theorem dX5_gather_6 : decode cX5_gather 6 = .ok (.if_icmp .ge 16, 3) := by decide +kernel
theorem dX5_gather_9 : decode cX5_gather 9 = .ok (.aload_n 0, 1) := by decide +kernel
theorem dX5_gather_10 : decode cX5_gather 10 = .ok (.getfield 56, 3) := by decide +kernel
theorem dX5_gather_13 : decode cX5_gather 13 = .ok (.iload_n 2, 1) := by decide +kernel
theorem dX5_gather_14 : decode cX5_gather 14 = .ok (.iconst 0, 1) := by decide +kernel
theorem dX5_gather_15 : decode cX5_gather 15 = .ok (.iastore, 1) := by decide +kernel
theorem dX5_gather_16 : decode cX5_gather 16 = .ok (.iinc 2 1, 3) := by decide +kernel
theorem dX5_gather_19 : decode cX5_gather 19 = .ok (.goto (-17), 3) := by decide +kernel
theorem dX5_gather_22 : decode cX5_gather 22 = .ok (.aload_n 0, 1) := by decide +kernel
theorem dX5_gather_23 : decode cX5_gather 23 = .ok (.invokevirtual 131, 3) := by decide +kernel
theorem dX5_gather_26 : decode cX5_gather 26 = .ok (.iconst 0, 1) := by decide +kernel
theorem dX5_gather_27 : decode cX5_gather 27 = .ok (.istore_n 2, 1) := by decide +kernel
theorem dX5_gather_28 : decode cX5_gather 28 = .ok (.iload_n 2, 1) := by decide +kernel
theorem dX5_gather_29 : decode cX5_gather 29 = .ok (.aload_n 0, 1) := by decide +kernel
theorem dX5_gather_30 : decode cX5_gather 30 = .ok (.getfield 85, 3) := by decide +kernel
theorem dX5_gather_33 : decode cX5_gather 33 = .ok (.if_icmp .ge 200, 3) := by decide +kernel
theorem dX5_gather_36 : decode cX5_gather 36 = .ok (.aload_n 0, 1) := by decide +kernel
theorem dX5_gather_37 : decode cX5_gather 37 = .ok (.getfield 75, 3) := by decide +kernel
theorem dX5_gather_40 : decode cX5_gather 40 = .ok (.iload_n 2, 1) := by decide +kernel
theorem dX5_gather_41 : decode cX5_gather 41 = .ok (.iaload, 1) := by decide +kernel
theorem dX5_gather_42 : decode cX5_gather 42 = .ok (.istore_n 3, 1) := by decide +kernel
theorem dX5_gather_43 : decode cX5_gather 43 = .ok (.iconst 0, 1) := by decide +kernel
theorem dX5_gather_44 : decode cX5_gather 44 = .ok (.istore 4, 2) := by decide +kernel
theorem dX5_gather_46 : decode cX5_gather 46 = .ok (.iload 4, 2) := by decide +kernel
theorem dX5_gather_48 : decode cX5_gather 48 = .ok (.aload_n 0, 1) := by decide +kernel
theorem dX5_gather_49 : decode cX5_gather 49 = .ok (.getfield 116, 3) := by decide +kernel
theorem dX5_gather_52 : decode cX5_gather 52 = .ok (.if_icmp .ge 46, 3) := by decide +kernel
theorem dX5_gather_55 : decode cX5_gather 55 = .ok (.aload_n 0, 1) := by decide +kernel
theorem dX5_gather_56 : decode cX5_gather 56 = .ok (.getfield 23, 3) := by decide +kernel
theorem dX5_gather_59 : decode cX5_gather 59 = .ok (.iload 4, 2) := by decide +kernel
theorem dX5_gather_61 : decode cX5_gather 61 = .ok (.iaload, 1) := by decide +kernel
theorem dX5_gather_62 : decode cX5_gather 62 = .ok (.iload_n 3, 1) := by decide +kernel
theorem dX5_gather_63 : decode cX5_gather 63 = .ok (.if_icmp .ne 29, 3) := by decide +kernel
theorem dX5_gather_66 : decode cX5_gather 66 = .ok (.aload_n 0, 1) := by decide +kernel
theorem dX5_gather_67 : decode cX5_gather 67 = .ok (.bipush 11, 2) := by decide +kernel
theorem dX5_gather_69 : decode cX5_gather 69 = .ok (.iload_n 3, 1) := by decide +kernel
theorem dX5_gather_70 : decode cX5_gather 70 = .ok (.imul, 1) := by decide +kernel
theorem dX5_gather_71 : decode cX5_gather 71 = .ok (.aload_n 0, 1) := by decide +kernel
theorem dX5_gather_72 : decode cX5_gather 72 = .ok (.iload_n 3, 1) := by decide +kernel
theorem dX5_gather_73 : decode cX5_gather 73 = .ok (.iconst 0, 1) := by decide +kernel
theorem dX5_gather_74 : decode cX5_gather 74 = .ok (.invokevirtual 134, 3) := by decide +kernel
theorem dX5_gather_77 : decode cX5_gather 77 = .ok (.iadd, 1) := by decide +kernel
theorem dX5_gather_78 : decode cX5_gather 78 = .ok (.iload_n 1, 1) := by decide +kernel
theorem dX5_gather_79 : decode cX5_gather 79 = .ok (.iconst (-1), 1) := by decide +kernel
theorem dX5_gather_80 : decode cX5_gather 80 = .ok (.iload 4, 2) := by decide +kernel
theorem dX5_gather_82 : decode cX5_gather 82 = .ok (.aload_n 0, 1) := by decide +kernel
theorem dX5_gather_83 : decode cX5_gather 83 = .ok (.getfield 26, 3) := by decide +kernel
theorem dX5_gather_86 : decode cX5_gather 86 = .ok (.iload 4, 2) := by decide +kernel
theorem dX5_gather_88 : decode cX5_gather 88 = .ok (.daload, 1) := by decide +kernel
theorem dX5_gather_89 : decode cX5_gather 89 = .ok (.invokevirtual 137, 3) := by decide +kernel
theorem dX5_gather_92 : decode cX5_gather 92 = .ok (.iinc 4 1, 3) := by decide +kernel
theorem dX5_gather_95 : decode cX5_gather 95 = .ok (.goto (-49), 3) := by decide +kernel
theorem dX5_gather_98 : decode cX5_gather 98 = .ok (.iconst 0, 1) := by decide +kernel
theorem dX5_gather_99 : decode cX5_gather 99 = .ok (.istore 4, 2) := by decide +kernel
theorem dX5_gather_101 : decode cX5_gather 101 = .ok (.iload 4, 2) := by decide +kernel
theorem dX5_gather_103 : decode cX5_gather 103 = .ok (.aload_n 0, 1) := by decide +kernel
theorem dX5_gather_104 : decode cX5_gather 104 = .ok (.getfield 96, 3) := by decide +kernel
theorem dX5_gather_107 : decode cX5_gather 107 = .ok (.if_icmp .ge 120, 3) := by decide +kernel
theorem dX5_gather_110 : decode cX5_gather 110 = .ok (.iconst 0, 1) := by decide +kernel
theorem dX5_gather_111 : decode cX5_gather 111 = .ok (.istore 5, 2) := by decide +kernel
theorem dX5_gather_113 : decode cX5_gather 113 = .ok (.iload 5, 2) := by decide +kernel
theorem dX5_gather_115 : decode cX5_gather 115 = .ok (.bipush 10, 2) := by decide +kernel
theorem dX5_gather_117 : decode cX5_gather 117 = .ok (.if_icmp .gt 104, 3) := by decide +kernel
theorem dX5_gather_120 : decode cX5_gather 120 = .ok (.aload_n 0, 1) := by decide +kernel
theorem dX5_gather_121 : decode cX5_gather 121 = .ok (.getfield 16, 3) := by decide +kernel
theorem dX5_gather_124 : decode cX5_gather 124 = .ok (.iload 4, 2) := by decide +kernel
theorem dX5_gather_126 : decode cX5_gather 126 = .ok (.iaload, 1) := by decide +kernel
theorem dX5_gather_127 : decode cX5_gather 127 = .ok (.iload_n 3, 1) := by decide +kernel
theorem dX5_gather_128 : decode cX5_gather 128 = .ok (.if_icmp .ne 93, 3) := by decide +kernel
theorem dX5_gather_131 : decode cX5_gather 131 = .ok (.bipush 11, 2) := by decide +kernel
theorem dX5_gather_133 : decode cX5_gather 133 = .ok (.aload_n 0, 1) := by decide +kernel
theorem dX5_gather_134 : decode cX5_gather 134 = .ok (.getfield 13, 3) := by decide +kernel
theorem dX5_gather_137 : decode cX5_gather 137 = .ok (.iload 4, 2) := by decide +kernel
theorem dX5_gather_139 : decode cX5_gather 139 = .ok (.iaload, 1) := by decide +kernel
theorem dX5_gather_140 : decode cX5_gather 140 = .ok (.imul, 1) := by decide +kernel
theorem dX5_gather_141 : decode cX5_gather 141 = .ok (.iload 5, 2) := by decide +kernel
theorem dX5_gather_143 : decode cX5_gather 143 = .ok (.iadd, 1) := by decide +kernel
theorem dX5_gather_144 : decode cX5_gather 144 = .ok (.istore 6, 2) := by decide +kernel
theorem dX5_gather_146 : decode cX5_gather 146 = .ok (.iconst 0, 1) := by decide +kernel
theorem dX5_gather_147 : decode cX5_gather 147 = .ok (.istore 7, 2) := by decide +kernel
theorem dX5_gather_149 : decode cX5_gather 149 = .ok (.iload 7, 2) := by decide +kernel
theorem dX5_gather_151 : decode cX5_gather 151 = .ok (.aload_n 0, 1) := by decide +kernel
theorem dX5_gather_152 : decode cX5_gather 152 = .ok (.getfield 56, 3) := by decide +kernel
theorem dX5_gather_155 : decode cX5_gather 155 = .ok (.iload 6, 2) := by decide +kernel
theorem dX5_gather_157 : decode cX5_gather 157 = .ok (.iaload, 1) := by decide +kernel
theorem dX5_gather_158 : decode cX5_gather 158 = .ok (.if_icmp .ge 57, 3) := by decide +kernel
theorem dX5_gather_161 : decode cX5_gather 161 = .ok (.aload_n 0, 1) := by decide +kernel
theorem dX5_gather_162 : decode cX5_gather 162 = .ok (.bipush 11, 2) := by decide +kernel
theorem dX5_gather_164 : decode cX5_gather 164 = .ok (.iload_n 3, 1) := by decide +kernel
theorem dX5_gather_165 : decode cX5_gather 165 = .ok (.imul, 1) := by decide +kernel
theorem dX5_gather_166 : decode cX5_gather 166 = .ok (.aload_n 0, 1) := by decide +kernel
theorem dX5_gather_167 : decode cX5_gather 167 = .ok (.iload_n 3, 1) := by decide +kernel
theorem dX5_gather_168 : decode cX5_gather 168 = .ok (.iload 5, 2) := by decide +kernel
theorem dX5_gather_170 : decode cX5_gather 170 = .ok (.invokevirtual 134, 3) := by decide +kernel
theorem dX5_gather_173 : decode cX5_gather 173 = .ok (.iadd, 1) := by decide +kernel
theorem dX5_gather_174 : decode cX5_gather 174 = .ok (.iload_n 1, 1) := by decide +kernel
theorem dX5_gather_175 : decode cX5_gather 175 = .ok (.bipush 40, 2) := by decide +kernel
theorem dX5_gather_177 : decode cX5_gather 177 = .ok (.iload 6, 2) := by decide +kernel
theorem dX5_gather_179 : decode cX5_gather 179 = .ok (.imul, 1) := by decide +kernel
theorem dX5_gather_180 : decode cX5_gather 180 = .ok (.iload 7, 2) := by decide +kernel
theorem dX5_gather_182 : decode cX5_gather 182 = .ok (.iadd, 1) := by decide +kernel
theorem dX5_gather_183 : decode cX5_gather 183 = .ok (.iload 4, 2) := by decide +kernel
theorem dX5_gather_185 : decode cX5_gather 185 = .ok (.aload_n 0, 1) := by decide +kernel
theorem dX5_gather_186 : decode cX5_gather 186 = .ok (.getfield 53, 3) := by decide +kernel
theorem dX5_gather_189 : decode cX5_gather 189 = .ok (.bipush 40, 2) := by decide +kernel
theorem dX5_gather_191 : decode cX5_gather 191 = .ok (.iload 6, 2) := by decide +kernel
theorem dX5_gather_193 : decode cX5_gather 193 = .ok (.imul, 1) := by decide +kernel
theorem dX5_gather_194 : decode cX5_gather 194 = .ok (.iload 7, 2) := by decide +kernel
theorem dX5_gather_196 : decode cX5_gather 196 = .ok (.iadd, 1) := by decide +kernel
theorem dX5_gather_197 : decode cX5_gather 197 = .ok (.daload, 1) := by decide +kernel
theorem dX5_gather_198 : decode cX5_gather 198 = .ok (.aload_n 0, 1) := by decide +kernel
theorem dX5_gather_199 : decode cX5_gather 199 = .ok (.getfield 19, 3) := by decide +kernel
theorem dX5_gather_202 : decode cX5_gather 202 = .ok (.iload 4, 2) := by decide +kernel
theorem dX5_gather_204 : decode cX5_gather 204 = .ok (.daload, 1) := by decide +kernel
theorem dX5_gather_205 : decode cX5_gather 205 = .ok (.dadd, 1) := by decide +kernel
theorem dX5_gather_206 : decode cX5_gather 206 = .ok (.invokevirtual 137, 3) := by decide +kernel
theorem dX5_gather_209 : decode cX5_gather 209 = .ok (.iinc 7 1, 3) := by decide +kernel
theorem dX5_gather_212 : decode cX5_gather 212 = .ok (.goto (-63), 3) := by decide +kernel
theorem dX5_gather_215 : decode cX5_gather 215 = .ok (.iinc 5 1, 3) := by decide +kernel
theorem dX5_gather_218 : decode cX5_gather 218 = .ok (.goto (-105), 3) := by decide +kernel
theorem dX5_gather_221 : decode cX5_gather 221 = .ok (.iinc 4 1, 3) := by decide +kernel
theorem dX5_gather_224 : decode cX5_gather 224 = .ok (.goto (-123), 3) := by decide +kernel
theorem dX5_gather_227 : decode cX5_gather 227 = .ok (.iinc 2 1, 3) := by decide +kernel
theorem dX5_gather_230 : decode cX5_gather 230 = .ok (.goto (-202), 3) := by decide +kernel
theorem dX5_gather_233 : decode cX5_gather 233 = .ok (.return_, 1) := by decide +kernel
theorem dX5_slackOf_0 : decode cX5_slackOf 0 = .ok (.aload_n 0, 1) := by decide +kernel
theorem dX5_slackOf_1 : decode cX5_slackOf 1 = .ok (.getfield 32, 3) := by decide +kernel
theorem dX5_slackOf_4 : decode cX5_slackOf 4 = .ok (.aload_n 0, 1) := by decide +kernel
theorem dX5_slackOf_5 : decode cX5_slackOf 5 = .ok (.getfield 62, 3) := by decide +kernel
theorem dX5_slackOf_8 : decode cX5_slackOf 8 = .ok (.iload_n 1, 1) := by decide +kernel
theorem dX5_slackOf_9 : decode cX5_slackOf 9 = .ok (.iaload, 1) := by decide +kernel
theorem dX5_slackOf_10 : decode cX5_slackOf 10 = .ok (.daload, 1) := by decide +kernel
theorem dX5_slackOf_11 : decode cX5_slackOf 11 = .ok (.aload_n 0, 1) := by decide +kernel
theorem dX5_slackOf_12 : decode cX5_slackOf 12 = .ok (.getfield 53, 3) := by decide +kernel
theorem dX5_slackOf_15 : decode cX5_slackOf 15 = .ok (.aload_n 0, 1) := by decide +kernel
theorem dX5_slackOf_16 : decode cX5_slackOf 16 = .ok (.getfield 59, 3) := by decide +kernel
theorem dX5_slackOf_19 : decode cX5_slackOf 19 = .ok (.iload_n 1, 1) := by decide +kernel
theorem dX5_slackOf_20 : decode cX5_slackOf 20 = .ok (.iaload, 1) := by decide +kernel
theorem dX5_slackOf_21 : decode cX5_slackOf 21 = .ok (.daload, 1) := by decide +kernel
theorem dX5_slackOf_22 : decode cX5_slackOf 22 = .ok (.dsub, 1) := by decide +kernel
theorem dX5_slackOf_23 : decode cX5_slackOf 23 = .ok (.dreturn, 1) := by decide +kernel
theorem dX5_isBefore_0 : decode cX5_isBefore 0 = .ok (.aload_n 0, 1) := by decide +kernel
theorem dX5_isBefore_1 : decode cX5_isBefore 1 = .ok (.iload_n 1, 1) := by decide +kernel
theorem dX5_isBefore_2 : decode cX5_isBefore 2 = .ok (.invokevirtual 141, 3) := by decide +kernel
theorem dX5_isBefore_5 : decode cX5_isBefore 5 = .ok (.dstore_n 3, 1) := by decide +kernel
theorem dX5_isBefore_6 : decode cX5_isBefore 6 = .ok (.aload_n 0, 1) := by decide +kernel
theorem dX5_isBefore_7 : decode cX5_isBefore 7 = .ok (.iload_n 2, 1) := by decide +kernel
theorem dX5_isBefore_8 : decode cX5_isBefore 8 = .ok (.invokevirtual 141, 3) := by decide +kernel
theorem dX5_isBefore_11 : decode cX5_isBefore 11 = .ok (.dstore 5, 2) := by decide +kernel
theorem dX5_isBefore_13 : decode cX5_isBefore 13 = .ok (.dload_n 3, 1) := by decide +kernel
theorem dX5_isBefore_14 : decode cX5_isBefore 14 = .ok (.dload 5, 2) := by decide +kernel
theorem dX5_isBefore_16 : decode cX5_isBefore 16 = .ok (.dcmp .l, 1) := by decide +kernel
theorem dX5_isBefore_17 : decode cX5_isBefore 17 = .ok (.ifCond .eq 16, 3) := by decide +kernel
theorem dX5_isBefore_20 : decode cX5_isBefore 20 = .ok (.dload_n 3, 1) := by decide +kernel
theorem dX5_isBefore_21 : decode cX5_isBefore 21 = .ok (.dload 5, 2) := by decide +kernel
theorem dX5_isBefore_23 : decode cX5_isBefore 23 = .ok (.dcmp .g, 1) := by decide +kernel
theorem dX5_isBefore_24 : decode cX5_isBefore 24 = .ok (.ifCond .ge 7, 3) := by decide +kernel
theorem dX5_isBefore_27 : decode cX5_isBefore 27 = .ok (.iconst 1, 1) := by decide +kernel
theorem dX5_isBefore_28 : decode cX5_isBefore 28 = .ok (.goto 4, 3) := by decide +kernel
theorem dX5_isBefore_31 : decode cX5_isBefore 31 = .ok (.iconst 0, 1) := by decide +kernel
theorem dX5_isBefore_32 : decode cX5_isBefore 32 = .ok (.ireturn, 1) := by decide +kernel
theorem dX5_isBefore_33 : decode cX5_isBefore 33 = .ok (.aload_n 0, 1) := by decide +kernel
theorem dX5_isBefore_34 : decode cX5_isBefore 34 = .ok (.aload_n 0, 1) := by decide +kernel
theorem dX5_isBefore_35 : decode cX5_isBefore 35 = .ok (.getfield 59, 3) := by decide +kernel
theorem dX5_isBefore_38 : decode cX5_isBefore 38 = .ok (.iload_n 1, 1) := by decide +kernel
theorem dX5_isBefore_39 : decode cX5_isBefore 39 = .ok (.iaload, 1) := by decide +kernel
theorem dX5_isBefore_40 : decode cX5_isBefore 40 = .ok (.aload_n 0, 1) := by decide +kernel
theorem dX5_isBefore_41 : decode cX5_isBefore 41 = .ok (.getfield 59, 3) := by decide +kernel
theorem dX5_isBefore_44 : decode cX5_isBefore 44 = .ok (.iload_n 2, 1) := by decide +kernel
theorem dX5_isBefore_45 : decode cX5_isBefore 45 = .ok (.iaload, 1) := by decide +kernel
theorem dX5_isBefore_46 : decode cX5_isBefore 46 = .ok (.invokevirtual 127, 3) := by decide +kernel
theorem dX5_isBefore_49 : decode cX5_isBefore 49 = .ok (.istore 7, 2) := by decide +kernel
theorem dX5_isBefore_51 : decode cX5_isBefore 51 = .ok (.iload 7, 2) := by decide +kernel
theorem dX5_isBefore_53 : decode cX5_isBefore 53 = .ok (.ifCond .lt 23, 3) := by decide +kernel
theorem dX5_isBefore_56 : decode cX5_isBefore 56 = .ok (.iload 7, 2) := by decide +kernel
theorem dX5_isBefore_58 : decode cX5_isBefore 58 = .ok (.ifCond .ne 22, 3) := by decide +kernel
theorem dX5_isBefore_61 : decode cX5_isBefore 61 = .ok (.aload_n 0, 1) := by decide +kernel
theorem dX5_isBefore_62 : decode cX5_isBefore 62 = .ok (.getfield 62, 3) := by decide +kernel
theorem dX5_isBefore_65 : decode cX5_isBefore 65 = .ok (.iload_n 1, 1) := by decide +kernel
theorem dX5_isBefore_66 : decode cX5_isBefore 66 = .ok (.iaload, 1) := by decide +kernel
theorem dX5_isBefore_67 : decode cX5_isBefore 67 = .ok (.aload_n 0, 1) := by decide +kernel
theorem dX5_isBefore_68 : decode cX5_isBefore 68 = .ok (.getfield 62, 3) := by decide +kernel
theorem dX5_isBefore_71 : decode cX5_isBefore 71 = .ok (.iload_n 2, 1) := by decide +kernel
theorem dX5_isBefore_72 : decode cX5_isBefore 72 = .ok (.iaload, 1) := by decide +kernel
theorem dX5_isBefore_73 : decode cX5_isBefore 73 = .ok (.if_icmp .ge 7, 3) := by decide +kernel
theorem dX5_isBefore_76 : decode cX5_isBefore 76 = .ok (.iconst 1, 1) := by decide +kernel
theorem dX5_isBefore_77 : decode cX5_isBefore 77 = .ok (.goto 4, 3) := by decide +kernel
theorem dX5_isBefore_80 : decode cX5_isBefore 80 = .ok (.iconst 0, 1) := by decide +kernel
theorem dX5_isBefore_81 : decode cX5_isBefore 81 = .ok (.ireturn, 1) := by decide +kernel
theorem dX5_enlist_0 : decode cX5_enlist 0 = .ok (.aload_n 0, 1) := by decide +kernel
theorem dX5_enlist_1 : decode cX5_enlist 1 = .ok (.getfield 59, 3) := by decide +kernel
theorem dX5_enlist_4 : decode cX5_enlist 4 = .ok (.aload_n 0, 1) := by decide +kernel
theorem dX5_enlist_5 : decode cX5_enlist 5 = .ok (.getfield 145, 3) := by decide +kernel
theorem dX5_enlist_8 : decode cX5_enlist 8 = .ok (.iload_n 3, 1) := by decide +kernel
theorem dX5_enlist_9 : decode cX5_enlist 9 = .ok (.iastore, 1) := by decide +kernel
theorem dX5_enlist_10 : decode cX5_enlist 10 = .ok (.aload_n 0, 1) := by decide +kernel
theorem dX5_enlist_11 : decode cX5_enlist 11 = .ok (.getfield 62, 3) := by decide +kernel
theorem dX5_enlist_14 : decode cX5_enlist 14 = .ok (.aload_n 0, 1) := by decide +kernel
theorem dX5_enlist_15 : decode cX5_enlist 15 = .ok (.getfield 145, 3) := by decide +kernel
theorem dX5_enlist_18 : decode cX5_enlist 18 = .ok (.iload 4, 2) := by decide +kernel
theorem dX5_enlist_20 : decode cX5_enlist 20 = .ok (.iastore, 1) := by decide +kernel
theorem dX5_enlist_21 : decode cX5_enlist 21 = .ok (.aload_n 0, 1) := by decide +kernel
theorem dX5_enlist_22 : decode cX5_enlist 22 = .ok (.getfield 145, 3) := by decide +kernel
theorem dX5_enlist_25 : decode cX5_enlist 25 = .ok (.istore 5, 2) := by decide +kernel
theorem dX5_enlist_27 : decode cX5_enlist 27 = .ok (.iload 5, 2) := by decide +kernel
theorem dX5_enlist_29 : decode cX5_enlist 29 = .ok (.iload_n 1, 1) := by decide +kernel
theorem dX5_enlist_30 : decode cX5_enlist 30 = .ok (.if_icmp .le 94, 3) := by decide +kernel
theorem dX5_enlist_33 : decode cX5_enlist 33 = .ok (.aload_n 0, 1) := by decide +kernel
theorem dX5_enlist_34 : decode cX5_enlist 34 = .ok (.iload 5, 2) := by decide +kernel
theorem dX5_enlist_36 : decode cX5_enlist 36 = .ok (.iload 5, 2) := by decide +kernel
theorem dX5_enlist_38 : decode cX5_enlist 38 = .ok (.iconst 1, 1) := by decide +kernel
theorem dX5_enlist_39 : decode cX5_enlist 39 = .ok (.isub, 1) := by decide +kernel
theorem dX5_enlist_40 : decode cX5_enlist 40 = .ok (.invokevirtual 148, 3) := by decide +kernel
theorem dX5_enlist_43 : decode cX5_enlist 43 = .ok (.ifCond .eq 81, 3) := by decide +kernel
theorem dX5_enlist_46 : decode cX5_enlist 46 = .ok (.aload_n 0, 1) := by decide +kernel
theorem dX5_enlist_47 : decode cX5_enlist 47 = .ok (.getfield 59, 3) := by decide +kernel
theorem dX5_enlist_50 : decode cX5_enlist 50 = .ok (.iload 5, 2) := by decide +kernel
theorem dX5_enlist_52 : decode cX5_enlist 52 = .ok (.iaload, 1) := by decide +kernel
theorem dX5_enlist_53 : decode cX5_enlist 53 = .ok (.istore 6, 2) := by decide +kernel
theorem dX5_enlist_55 : decode cX5_enlist 55 = .ok (.aload_n 0, 1) := by decide +kernel
theorem dX5_enlist_56 : decode cX5_enlist 56 = .ok (.getfield 62, 3) := by decide +kernel
theorem dX5_enlist_59 : decode cX5_enlist 59 = .ok (.iload 5, 2) := by decide +kernel
theorem dX5_enlist_61 : decode cX5_enlist 61 = .ok (.iaload, 1) := by decide +kernel
theorem dX5_enlist_62 : decode cX5_enlist 62 = .ok (.istore 7, 2) := by decide +kernel
theorem dX5_enlist_64 : decode cX5_enlist 64 = .ok (.aload_n 0, 1) := by decide +kernel
theorem dX5_enlist_65 : decode cX5_enlist 65 = .ok (.getfield 59, 3) := by decide +kernel
theorem dX5_enlist_68 : decode cX5_enlist 68 = .ok (.iload 5, 2) := by decide +kernel
theorem dX5_enlist_70 : decode cX5_enlist 70 = .ok (.aload_n 0, 1) := by decide +kernel
theorem dX5_enlist_71 : decode cX5_enlist 71 = .ok (.getfield 59, 3) := by decide +kernel
theorem dX5_enlist_74 : decode cX5_enlist 74 = .ok (.iload 5, 2) := by decide +kernel
theorem dX5_enlist_76 : decode cX5_enlist 76 = .ok (.iconst 1, 1) := by decide +kernel
theorem dX5_enlist_77 : decode cX5_enlist 77 = .ok (.isub, 1) := by decide +kernel
theorem dX5_enlist_78 : decode cX5_enlist 78 = .ok (.iaload, 1) := by decide +kernel
theorem dX5_enlist_79 : decode cX5_enlist 79 = .ok (.iastore, 1) := by decide +kernel
theorem dX5_enlist_80 : decode cX5_enlist 80 = .ok (.aload_n 0, 1) := by decide +kernel
theorem dX5_enlist_81 : decode cX5_enlist 81 = .ok (.getfield 62, 3) := by decide +kernel
theorem dX5_enlist_84 : decode cX5_enlist 84 = .ok (.iload 5, 2) := by decide +kernel
theorem dX5_enlist_86 : decode cX5_enlist 86 = .ok (.aload_n 0, 1) := by decide +kernel
theorem dX5_enlist_87 : decode cX5_enlist 87 = .ok (.getfield 62, 3) := by decide +kernel
theorem dX5_enlist_90 : decode cX5_enlist 90 = .ok (.iload 5, 2) := by decide +kernel
theorem dX5_enlist_92 : decode cX5_enlist 92 = .ok (.iconst 1, 1) := by decide +kernel
theorem dX5_enlist_93 : decode cX5_enlist 93 = .ok (.isub, 1) := by decide +kernel
theorem dX5_enlist_94 : decode cX5_enlist 94 = .ok (.iaload, 1) := by decide +kernel
theorem dX5_enlist_95 : decode cX5_enlist 95 = .ok (.iastore, 1) := by decide +kernel
theorem dX5_enlist_96 : decode cX5_enlist 96 = .ok (.aload_n 0, 1) := by decide +kernel
theorem dX5_enlist_97 : decode cX5_enlist 97 = .ok (.getfield 59, 3) := by decide +kernel
theorem dX5_enlist_100 : decode cX5_enlist 100 = .ok (.iload 5, 2) := by decide +kernel
theorem dX5_enlist_102 : decode cX5_enlist 102 = .ok (.iconst 1, 1) := by decide +kernel
theorem dX5_enlist_103 : decode cX5_enlist 103 = .ok (.isub, 1) := by decide +kernel
theorem dX5_enlist_104 : decode cX5_enlist 104 = .ok (.iload 6, 2) := by decide +kernel
theorem dX5_enlist_106 : decode cX5_enlist 106 = .ok (.iastore, 1) := by decide +kernel
theorem dX5_enlist_107 : decode cX5_enlist 107 = .ok (.aload_n 0, 1) := by decide +kernel
theorem dX5_enlist_108 : decode cX5_enlist 108 = .ok (.getfield 62, 3) := by decide +kernel
theorem dX5_enlist_111 : decode cX5_enlist 111 = .ok (.iload 5, 2) := by decide +kernel
theorem dX5_enlist_113 : decode cX5_enlist 113 = .ok (.iconst 1, 1) := by decide +kernel
theorem dX5_enlist_114 : decode cX5_enlist 114 = .ok (.isub, 1) := by decide +kernel
theorem dX5_enlist_115 : decode cX5_enlist 115 = .ok (.iload 7, 2) := by decide +kernel
theorem dX5_enlist_117 : decode cX5_enlist 117 = .ok (.iastore, 1) := by decide +kernel
theorem dX5_enlist_118 : decode cX5_enlist 118 = .ok (.iinc 5 (-1), 3) := by decide +kernel
theorem dX5_enlist_121 : decode cX5_enlist 121 = .ok (.goto (-94), 3) := by decide +kernel
theorem dX5_enlist_124 : decode cX5_enlist 124 = .ok (.aload_n 0, 1) := by decide +kernel
theorem dX5_enlist_125 : decode cX5_enlist 125 = .ok (.aload_n 0, 1) := by decide +kernel
theorem dX5_enlist_126 : decode cX5_enlist 126 = .ok (.getfield 145, 3) := by decide +kernel
theorem dX5_enlist_129 : decode cX5_enlist 129 = .ok (.iload_n 1, 1) := by decide +kernel
theorem dX5_enlist_130 : decode cX5_enlist 130 = .ok (.isub, 1) := by decide +kernel
theorem dX5_enlist_131 : decode cX5_enlist 131 = .ok (.iload_n 2, 1) := by decide +kernel
theorem dX5_enlist_132 : decode cX5_enlist 132 = .ok (.if_icmp .ge 12, 3) := by decide +kernel
theorem dX5_enlist_135 : decode cX5_enlist 135 = .ok (.aload_n 0, 1) := by decide +kernel
theorem dX5_enlist_136 : decode cX5_enlist 136 = .ok (.getfield 145, 3) := by decide +kernel
theorem dX5_enlist_139 : decode cX5_enlist 139 = .ok (.iconst 1, 1) := by decide +kernel
theorem dX5_enlist_140 : decode cX5_enlist 140 = .ok (.iadd, 1) := by decide +kernel
theorem dX5_enlist_141 : decode cX5_enlist 141 = .ok (.goto 7, 3) := by decide +kernel
theorem dX5_enlist_144 : decode cX5_enlist 144 = .ok (.aload_n 0, 1) := by decide +kernel
theorem dX5_enlist_145 : decode cX5_enlist 145 = .ok (.getfield 145, 3) := by decide +kernel
theorem dX5_enlist_148 : decode cX5_enlist 148 = .ok (.putfield 145, 3) := by decide +kernel
theorem dX5_enlist_151 : decode cX5_enlist 151 = .ok (.return_, 1) := by decide +kernel
theorem dX5_run_0 : decode cX5_run 0 = .ok (.aload_n 0, 1) := by decide +kernel
theorem dX5_run_1 : decode cX5_run 1 = .ok (.iload_n 1, 1) := by decide +kernel
theorem dX5_run_2 : decode cX5_run 2 = .ok (.iconst 1, 1) := by decide +kernel
theorem dX5_run_3 : decode cX5_run 3 = .ok (.if_icmp .lt 9, 3) := by decide +kernel
theorem dX5_run_6 : decode cX5_run 6 = .ok (.iload_n 1, 1) := by decide +kernel
theorem dX5_run_7 : decode cX5_run 7 = .ok (.bipush 40, 2) := by decide +kernel
theorem dX5_run_9 : decode cX5_run 9 = .ok (.if_icmp .le 7, 3) := by decide +kernel
theorem dX5_run_12 : decode cX5_run 12 = .ok (.iconst 1, 1) := by decide +kernel
theorem dX5_run_13 : decode cX5_run 13 = .ok (.goto 4, 3) := by decide +kernel
theorem dX5_run_16 : decode cX5_run 16 = .ok (.iconst 0, 1) := by decide +kernel
theorem dX5_run_17 : decode cX5_run 17 = .ok (.putfield 81, 3) := by decide +kernel
theorem dX5_run_20 : decode cX5_run 20 = .ok (.aload_n 0, 1) := by decide +kernel
theorem dX5_run_21 : decode cX5_run 21 = .ok (.getfield 81, 3) := by decide +kernel
theorem dX5_run_24 : decode cX5_run 24 = .ok (.ifCond .le 5, 3) := by decide +kernel
theorem dX5_run_27 : decode cX5_run 27 = .ok (.iconst 0, 1) := by decide +kernel
theorem dX5_run_28 : decode cX5_run 28 = .ok (.ireturn, 1) := by decide +kernel
theorem dX5_run_29 : decode cX5_run 29 = .ok (.aload_n 0, 1) := by decide +kernel
theorem dX5_run_30 : decode cX5_run 30 = .ok (.iload_n 1, 1) := by decide +kernel
theorem dX5_run_31 : decode cX5_run 31 = .ok (.invokevirtual 152, 3) := by decide +kernel
theorem dX5_run_34 : decode cX5_run 34 = .ok (.aload_n 0, 1) := by decide +kernel
theorem dX5_run_35 : decode cX5_run 35 = .ok (.iconst 0, 1) := by decide +kernel
theorem dX5_run_36 : decode cX5_run 36 = .ok (.putfield 145, 3) := by decide +kernel
theorem dX5_run_39 : decode cX5_run 39 = .ok (.iconst 0, 1) := by decide +kernel
theorem dX5_run_40 : decode cX5_run 40 = .ok (.istore_n 2, 1) := by decide +kernel
theorem dX5_run_41 : decode cX5_run 41 = .ok (.iload_n 2, 1) := by decide +kernel
theorem dX5_run_42 : decode cX5_run 42 = .ok (.bipush 8, 2) := by decide +kernel
theorem dX5_run_44 : decode cX5_run 44 = .ok (.if_icmp .ge 95, 3) := by decide +kernel
theorem dX5_run_47 : decode cX5_run 47 = .ok (.aload_n 0, 1) := by decide +kernel
theorem dX5_run_48 : decode cX5_run 48 = .ok (.getfield 145, 3) := by decide +kernel
theorem dX5_run_51 : decode cX5_run 51 = .ok (.istore_n 3, 1) := by decide +kernel
theorem dX5_run_52 : decode cX5_run 52 = .ok (.iconst 0, 1) := by decide +kernel
theorem dX5_run_53 : decode cX5_run 53 = .ok (.istore 4, 2) := by decide +kernel
theorem dX5_run_55 : decode cX5_run 55 = .ok (.iload 4, 2) := by decide +kernel
theorem dX5_run_57 : decode cX5_run 57 = .ok (.aload_n 0, 1) := by decide +kernel
theorem dX5_run_58 : decode cX5_run 58 = .ok (.getfield 111, 3) := by decide +kernel
theorem dX5_run_61 : decode cX5_run 61 = .ok (.if_icmp .ge 72, 3) := by decide +kernel
theorem dX5_run_64 : decode cX5_run 64 = .ok (.bipush 11, 2) := by decide +kernel
theorem dX5_run_66 : decode cX5_run 66 = .ok (.aload_n 0, 1) := by decide +kernel
theorem dX5_run_67 : decode cX5_run 67 = .ok (.getfield 29, 3) := by decide +kernel
theorem dX5_run_70 : decode cX5_run 70 = .ok (.iload 4, 2) := by decide +kernel
theorem dX5_run_72 : decode cX5_run 72 = .ok (.iaload, 1) := by decide +kernel
theorem dX5_run_73 : decode cX5_run 73 = .ok (.imul, 1) := by decide +kernel
theorem dX5_run_74 : decode cX5_run 74 = .ok (.bipush 10, 2) := by decide +kernel
theorem dX5_run_76 : decode cX5_run 76 = .ok (.iadd, 1) := by decide +kernel
theorem dX5_run_77 : decode cX5_run 77 = .ok (.istore 5, 2) := by decide +kernel
theorem dX5_run_79 : decode cX5_run 79 = .ok (.iconst 0, 1) := by decide +kernel
theorem dX5_run_80 : decode cX5_run 80 = .ok (.istore 6, 2) := by decide +kernel
theorem dX5_run_82 : decode cX5_run 82 = .ok (.iload 6, 2) := by decide +kernel
theorem dX5_run_84 : decode cX5_run 84 = .ok (.aload_n 0, 1) := by decide +kernel
theorem dX5_run_85 : decode cX5_run 85 = .ok (.getfield 56, 3) := by decide +kernel
theorem dX5_run_88 : decode cX5_run 88 = .ok (.iload 5, 2) := by decide +kernel
theorem dX5_run_90 : decode cX5_run 90 = .ok (.iaload, 1) := by decide +kernel
theorem dX5_run_91 : decode cX5_run 91 = .ok (.if_icmp .ge 36, 3) := by decide +kernel
theorem dX5_run_94 : decode cX5_run 94 = .ok (.aload_n 0, 1) := by decide +kernel
theorem dX5_run_95 : decode cX5_run 95 = .ok (.getfield 35, 3) := by decide +kernel
theorem dX5_run_98 : decode cX5_run 98 = .ok (.iload 4, 2) := by decide +kernel
theorem dX5_run_100 : decode cX5_run 100 = .ok (.iaload, 1) := by decide +kernel
theorem dX5_run_101 : decode cX5_run 101 = .ok (.iload_n 2, 1) := by decide +kernel
theorem dX5_run_102 : decode cX5_run 102 = .ok (.if_icmp .ne 25, 3) := by decide +kernel
theorem dX5_run_105 : decode cX5_run 105 = .ok (.aload_n 0, 1) := by decide +kernel
theorem dX5_run_106 : decode cX5_run 106 = .ok (.iload_n 3, 1) := by decide +kernel
theorem dX5_run_107 : decode cX5_run 107 = .ok (.iload_n 1, 1) := by decide +kernel
theorem dX5_run_108 : decode cX5_run 108 = .ok (.bipush 40, 2) := by decide +kernel
theorem dX5_run_110 : decode cX5_run 110 = .ok (.iload 5, 2) := by decide +kernel
theorem dX5_run_112 : decode cX5_run 112 = .ok (.imul, 1) := by decide +kernel
theorem dX5_run_113 : decode cX5_run 113 = .ok (.iload 6, 2) := by decide +kernel
theorem dX5_run_115 : decode cX5_run 115 = .ok (.iadd, 1) := by decide +kernel
theorem dX5_run_116 : decode cX5_run 116 = .ok (.iload 4, 2) := by decide +kernel
theorem dX5_run_118 : decode cX5_run 118 = .ok (.invokevirtual 156, 3) := by decide +kernel
theorem dX5_run_121 : decode cX5_run 121 = .ok (.iinc 6 1, 3) := by decide +kernel
theorem dX5_run_124 : decode cX5_run 124 = .ok (.goto (-42), 3) := by decide +kernel
theorem dX5_run_127 : decode cX5_run 127 = .ok (.iinc 4 1, 3) := by decide +kernel
theorem dX5_run_130 : decode cX5_run 130 = .ok (.goto (-75), 3) := by decide +kernel
theorem dX5_run_133 : decode cX5_run 133 = .ok (.iinc 2 1, 3) := by decide +kernel
theorem dX5_run_136 : decode cX5_run 136 = .ok (.goto (-95), 3) := by decide +kernel
theorem dX5_run_139 : decode cX5_run 139 = .ok (.aload_n 0, 1) := by decide +kernel
theorem dX5_run_140 : decode cX5_run 140 = .ok (.getfield 145, 3) := by decide +kernel
theorem dX5_run_143 : decode cX5_run 143 = .ok (.istore_n 2, 1) := by decide +kernel
theorem dX5_run_144 : decode cX5_run 144 = .ok (.aload_n 0, 1) := by decide +kernel
theorem dX5_run_145 : decode cX5_run 145 = .ok (.iconst 0, 1) := by decide +kernel
theorem dX5_run_146 : decode cX5_run 146 = .ok (.putfield 145, 3) := by decide +kernel
theorem dX5_run_149 : decode cX5_run 149 = .ok (.iconst 0, 1) := by decide +kernel
theorem dX5_run_150 : decode cX5_run 150 = .ok (.istore_n 3, 1) := by decide +kernel
theorem dX5_run_151 : decode cX5_run 151 = .ok (.iload_n 3, 1) := by decide +kernel
theorem dX5_run_152 : decode cX5_run 152 = .ok (.iload_n 2, 1) := by decide +kernel
theorem dX5_run_153 : decode cX5_run 153 = .ok (.if_icmp .ge 29, 3) := by decide +kernel
theorem dX5_run_156 : decode cX5_run 156 = .ok (.aload_n 0, 1) := by decide +kernel
theorem dX5_run_157 : decode cX5_run 157 = .ok (.iconst 0, 1) := by decide +kernel
theorem dX5_run_158 : decode cX5_run 158 = .ok (.sipush 400, 3) := by decide +kernel
theorem dX5_run_161 : decode cX5_run 161 = .ok (.aload_n 0, 1) := by decide +kernel
theorem dX5_run_162 : decode cX5_run 162 = .ok (.getfield 59, 3) := by decide +kernel
theorem dX5_run_165 : decode cX5_run 165 = .ok (.iload_n 3, 1) := by decide +kernel
theorem dX5_run_166 : decode cX5_run 166 = .ok (.iaload, 1) := by decide +kernel
theorem dX5_run_167 : decode cX5_run 167 = .ok (.aload_n 0, 1) := by decide +kernel
theorem dX5_run_168 : decode cX5_run 168 = .ok (.getfield 62, 3) := by decide +kernel
theorem dX5_run_171 : decode cX5_run 171 = .ok (.iload_n 3, 1) := by decide +kernel
theorem dX5_run_172 : decode cX5_run 172 = .ok (.iaload, 1) := by decide +kernel
theorem dX5_run_173 : decode cX5_run 173 = .ok (.invokevirtual 156, 3) := by decide +kernel
theorem dX5_run_176 : decode cX5_run 176 = .ok (.iinc 3 1, 3) := by decide +kernel
theorem dX5_run_179 : decode cX5_run 179 = .ok (.goto (-28), 3) := by decide +kernel
theorem dX5_run_182 : decode cX5_run 182 = .ok (.aload_n 0, 1) := by decide +kernel
theorem dX5_run_183 : decode cX5_run 183 = .ok (.iconst 1, 1) := by decide +kernel
theorem dX5_run_184 : decode cX5_run 184 = .ok (.putfield 92, 3) := by decide +kernel
theorem dX5_run_187 : decode cX5_run 187 = .ok (.aload_n 0, 1) := by decide +kernel
theorem dX5_run_188 : decode cX5_run 188 = .ok (.getfield 145, 3) := by decide +kernel
theorem dX5_run_191 : decode cX5_run 191 = .ok (.ireturn, 1) := by decide +kernel
theorem dX5_faultOf_0 : decode cX5_faultOf 0 = .ok (.aload_n 0, 1) := by decide +kernel
theorem dX5_faultOf_1 : decode cX5_faultOf 1 = .ok (.getfield 92, 3) := by decide +kernel
theorem dX5_faultOf_4 : decode cX5_faultOf 4 = .ok (.ifCond .ne 7, 3) := by decide +kernel
theorem dX5_faultOf_7 : decode cX5_faultOf 7 = .ok (.iconst 1, 1) := by decide +kernel
theorem dX5_faultOf_8 : decode cX5_faultOf 8 = .ok (.goto 20, 3) := by decide +kernel
theorem dX5_faultOf_11 : decode cX5_faultOf 11 = .ok (.iload_n 1, 1) := by decide +kernel
theorem dX5_faultOf_12 : decode cX5_faultOf 12 = .ok (.ifCond .lt 11, 3) := by decide +kernel
theorem dX5_faultOf_15 : decode cX5_faultOf 15 = .ok (.iload_n 1, 1) := by decide +kernel
theorem dX5_faultOf_16 : decode cX5_faultOf 16 = .ok (.aload_n 0, 1) := by decide +kernel
theorem dX5_faultOf_17 : decode cX5_faultOf 17 = .ok (.getfield 145, 3) := by decide +kernel
theorem dX5_faultOf_20 : decode cX5_faultOf 20 = .ok (.if_icmp .lt 7, 3) := by decide +kernel
theorem dX5_faultOf_23 : decode cX5_faultOf 23 = .ok (.iconst 2, 1) := by decide +kernel
theorem dX5_faultOf_24 : decode cX5_faultOf 24 = .ok (.goto 4, 3) := by decide +kernel
theorem dX5_faultOf_27 : decode cX5_faultOf 27 = .ok (.iconst 0, 1) := by decide +kernel
theorem dX5_faultOf_28 : decode cX5_faultOf 28 = .ok (.ireturn, 1) := by decide +kernel
theorem dX5_slack_0 : decode cX5_slack 0 = .ok (.aload_n 0, 1) := by decide +kernel
theorem dX5_slack_1 : decode cX5_slack 1 = .ok (.aload_n 0, 1) := by decide +kernel
theorem dX5_slack_2 : decode cX5_slack 2 = .ok (.iload_n 1, 1) := by decide +kernel
theorem dX5_slack_3 : decode cX5_slack 3 = .ok (.invokevirtual 160, 3) := by decide +kernel
theorem dX5_slack_6 : decode cX5_slack 6 = .ok (.putfield 81, 3) := by decide +kernel
theorem dX5_slack_9 : decode cX5_slack 9 = .ok (.aload_n 0, 1) := by decide +kernel
theorem dX5_slack_10 : decode cX5_slack 10 = .ok (.getfield 81, 3) := by decide +kernel
theorem dX5_slack_13 : decode cX5_slack 13 = .ok (.ifCond .le 7, 3) := by decide +kernel
theorem dX5_slack_16 : decode cX5_slack 16 = .ok (.dconst 0, 1) := by decide +kernel
theorem dX5_slack_17 : decode cX5_slack 17 = .ok (.goto 8, 3) := by decide +kernel
theorem dX5_slack_20 : decode cX5_slack 20 = .ok (.aload_n 0, 1) := by decide +kernel
theorem dX5_slack_21 : decode cX5_slack 21 = .ok (.iload_n 1, 1) := by decide +kernel
theorem dX5_slack_22 : decode cX5_slack 22 = .ok (.invokevirtual 141, 3) := by decide +kernel
theorem dX5_slack_25 : decode cX5_slack 25 = .ok (.dreturn, 1) := by decide +kernel
theorem dX5_at_0 : decode cX5_at 0 = .ok (.aload_n 0, 1) := by decide +kernel
theorem dX5_at_1 : decode cX5_at 1 = .ok (.aload_n 0, 1) := by decide +kernel
theorem dX5_at_2 : decode cX5_at 2 = .ok (.iload_n 1, 1) := by decide +kernel
theorem dX5_at_3 : decode cX5_at 3 = .ok (.invokevirtual 160, 3) := by decide +kernel
theorem dX5_at_6 : decode cX5_at 6 = .ok (.putfield 81, 3) := by decide +kernel
theorem dX5_at_9 : decode cX5_at 9 = .ok (.aload_n 0, 1) := by decide +kernel
theorem dX5_at_10 : decode cX5_at 10 = .ok (.getfield 81, 3) := by decide +kernel
theorem dX5_at_13 : decode cX5_at 13 = .ok (.ifCond .le 5, 3) := by decide +kernel
theorem dX5_at_16 : decode cX5_at 16 = .ok (.iconst 0, 1) := by decide +kernel
theorem dX5_at_17 : decode cX5_at 17 = .ok (.ireturn, 1) := by decide +kernel
theorem dX5_at_18 : decode cX5_at 18 = .ok (.aload_n 0, 1) := by decide +kernel
theorem dX5_at_19 : decode cX5_at 19 = .ok (.aload_n 0, 1) := by decide +kernel
theorem dX5_at_20 : decode cX5_at 20 = .ok (.getfield 59, 3) := by decide +kernel
theorem dX5_at_23 : decode cX5_at 23 = .ok (.iload_n 1, 1) := by decide +kernel
theorem dX5_at_24 : decode cX5_at 24 = .ok (.iaload, 1) := by decide +kernel
theorem dX5_at_25 : decode cX5_at 25 = .ok (.iconst 1, 1) := by decide +kernel
theorem dX5_at_26 : decode cX5_at 26 = .ok (.invokevirtual 123, 3) := by decide +kernel
theorem dX5_at_29 : decode cX5_at 29 = .ok (.istore_n 3, 1) := by decide +kernel
theorem dX5_at_30 : decode cX5_at 30 = .ok (.aload_n 0, 1) := by decide +kernel
theorem dX5_at_31 : decode cX5_at 31 = .ok (.iload_n 2, 1) := by decide +kernel
theorem dX5_at_32 : decode cX5_at 32 = .ok (.ifCond .lt 10, 3) := by decide +kernel
theorem dX5_at_35 : decode cX5_at 35 = .ok (.iload_n 2, 1) := by decide +kernel
theorem dX5_at_36 : decode cX5_at 36 = .ok (.iload_n 3, 1) := by decide +kernel
theorem dX5_at_37 : decode cX5_at 37 = .ok (.iconst 1, 1) := by decide +kernel
theorem dX5_at_38 : decode cX5_at 38 = .ok (.iadd, 1) := by decide +kernel
theorem dX5_at_39 : decode cX5_at 39 = .ok (.if_icmp .le 7, 3) := by decide +kernel
theorem dX5_at_42 : decode cX5_at 42 = .ok (.iconst 2, 1) := by decide +kernel
theorem dX5_at_43 : decode cX5_at 43 = .ok (.goto 4, 3) := by decide +kernel
theorem dX5_at_46 : decode cX5_at 46 = .ok (.iconst 0, 1) := by decide +kernel
theorem dX5_at_47 : decode cX5_at 47 = .ok (.putfield 81, 3) := by decide +kernel
theorem dX5_at_50 : decode cX5_at 50 = .ok (.aload_n 0, 1) := by decide +kernel
theorem dX5_at_51 : decode cX5_at 51 = .ok (.getfield 81, 3) := by decide +kernel
theorem dX5_at_54 : decode cX5_at 54 = .ok (.ifCond .le 7, 3) := by decide +kernel
theorem dX5_at_57 : decode cX5_at 57 = .ok (.iconst 0, 1) := by decide +kernel
theorem dX5_at_58 : decode cX5_at 58 = .ok (.goto 42, 3) := by decide +kernel
theorem dX5_at_61 : decode cX5_at 61 = .ok (.iload_n 2, 1) := by decide +kernel
theorem dX5_at_62 : decode cX5_at 62 = .ok (.ifCond .ne 16, 3) := by decide +kernel
theorem dX5_at_65 : decode cX5_at 65 = .ok (.aload_n 0, 1) := by decide +kernel
theorem dX5_at_66 : decode cX5_at 66 = .ok (.aload_n 0, 1) := by decide +kernel
theorem dX5_at_67 : decode cX5_at 67 = .ok (.getfield 59, 3) := by decide +kernel
theorem dX5_at_70 : decode cX5_at 70 = .ok (.iload_n 1, 1) := by decide +kernel
theorem dX5_at_71 : decode cX5_at 71 = .ok (.iaload, 1) := by decide +kernel
theorem dX5_at_72 : decode cX5_at 72 = .ok (.invokevirtual 119, 3) := by decide +kernel
theorem dX5_at_75 : decode cX5_at 75 = .ok (.goto 25, 3) := by decide +kernel
theorem dX5_at_78 : decode cX5_at 78 = .ok (.iload_n 2, 1) := by decide +kernel
theorem dX5_at_79 : decode cX5_at 79 = .ok (.iload_n 3, 1) := by decide +kernel
theorem dX5_at_80 : decode cX5_at 80 = .ok (.if_icmp .gt 14, 3) := by decide +kernel
theorem dX5_at_83 : decode cX5_at 83 = .ok (.aload_n 0, 1) := by decide +kernel
theorem dX5_at_84 : decode cX5_at 84 = .ok (.getfield 69, 3) := by decide +kernel
theorem dX5_at_87 : decode cX5_at 87 = .ok (.iload_n 2, 1) := by decide +kernel
theorem dX5_at_88 : decode cX5_at 88 = .ok (.iconst 1, 1) := by decide +kernel
theorem dX5_at_89 : decode cX5_at 89 = .ok (.isub, 1) := by decide +kernel
theorem dX5_at_90 : decode cX5_at 90 = .ok (.iaload, 1) := by decide +kernel
theorem dX5_at_91 : decode cX5_at 91 = .ok (.goto 9, 3) := by decide +kernel
theorem dX5_at_94 : decode cX5_at 94 = .ok (.aload_n 0, 1) := by decide +kernel
theorem dX5_at_95 : decode cX5_at 95 = .ok (.getfield 62, 3) := by decide +kernel
theorem dX5_at_98 : decode cX5_at 98 = .ok (.iload_n 1, 1) := by decide +kernel
theorem dX5_at_99 : decode cX5_at 99 = .ok (.iaload, 1) := by decide +kernel
theorem dX5_at_100 : decode cX5_at 100 = .ok (.ireturn, 1) := by decide +kernel
theorem dX5_budget_0 : decode cX5_budget 0 = .ok (.aload_n 0, 1) := by decide +kernel
theorem dX5_budget_1 : decode cX5_budget 1 = .ok (.aload_n 0, 1) := by decide +kernel
theorem dX5_budget_2 : decode cX5_budget 2 = .ok (.getfield 92, 3) := by decide +kernel
theorem dX5_budget_5 : decode cX5_budget 5 = .ok (.ifCond .ne 7, 3) := by decide +kernel
theorem dX5_budget_8 : decode cX5_budget 8 = .ok (.iconst 1, 1) := by decide +kernel
theorem dX5_budget_9 : decode cX5_budget 9 = .ok (.goto 30, 3) := by decide +kernel
theorem dX5_budget_12 : decode cX5_budget 12 = .ok (.iload_n 1, 1) := by decide +kernel
theorem dX5_budget_13 : decode cX5_budget 13 = .ok (.ifCond .lt 21, 3) := by decide +kernel
theorem dX5_budget_16 : decode cX5_budget 16 = .ok (.iload_n 1, 1) := by decide +kernel
theorem dX5_budget_17 : decode cX5_budget 17 = .ok (.bipush 8, 2) := by decide +kernel
theorem dX5_budget_19 : decode cX5_budget 19 = .ok (.if_icmp .ge 15, 3) := by decide +kernel
theorem dX5_budget_22 : decode cX5_budget 22 = .ok (.iload_n 2, 1) := by decide +kernel
theorem dX5_budget_23 : decode cX5_budget 23 = .ok (.ifCond .lt 11, 3) := by decide +kernel
theorem dX5_budget_26 : decode cX5_budget 26 = .ok (.iload_n 2, 1) := by decide +kernel
theorem dX5_budget_27 : decode cX5_budget 27 = .ok (.aload_n 0, 1) := by decide +kernel
theorem dX5_budget_28 : decode cX5_budget 28 = .ok (.getfield 145, 3) := by decide +kernel
theorem dX5_budget_31 : decode cX5_budget 31 = .ok (.if_icmp .lt 7, 3) := by decide +kernel
theorem dX5_budget_34 : decode cX5_budget 34 = .ok (.iconst 2, 1) := by decide +kernel
theorem dX5_budget_35 : decode cX5_budget 35 = .ok (.goto 4, 3) := by decide +kernel
theorem dX5_budget_38 : decode cX5_budget 38 = .ok (.iconst 0, 1) := by decide +kernel
theorem dX5_budget_39 : decode cX5_budget 39 = .ok (.putfield 81, 3) := by decide +kernel
theorem dX5_budget_42 : decode cX5_budget 42 = .ok (.aload_n 0, 1) := by decide +kernel
theorem dX5_budget_43 : decode cX5_budget 43 = .ok (.getfield 81, 3) := by decide +kernel
theorem dX5_budget_46 : decode cX5_budget 46 = .ok (.ifCond .le 5, 3) := by decide +kernel
theorem dX5_budget_49 : decode cX5_budget 49 = .ok (.dconst 0, 1) := by decide +kernel
theorem dX5_budget_50 : decode cX5_budget 50 = .ok (.dreturn, 1) := by decide +kernel
theorem dX5_budget_51 : decode cX5_budget 51 = .ok (.aload_n 0, 1) := by decide +kernel
theorem dX5_budget_52 : decode cX5_budget 52 = .ok (.aload_n 0, 1) := by decide +kernel
theorem dX5_budget_53 : decode cX5_budget 53 = .ok (.getfield 59, 3) := by decide +kernel
theorem dX5_budget_56 : decode cX5_budget 56 = .ok (.iload_n 2, 1) := by decide +kernel
theorem dX5_budget_57 : decode cX5_budget 57 = .ok (.iaload, 1) := by decide +kernel
theorem dX5_budget_58 : decode cX5_budget 58 = .ok (.iconst 1, 1) := by decide +kernel
theorem dX5_budget_59 : decode cX5_budget 59 = .ok (.invokevirtual 123, 3) := by decide +kernel
theorem dX5_budget_62 : decode cX5_budget 62 = .ok (.istore_n 3, 1) := by decide +kernel
theorem dX5_budget_63 : decode cX5_budget 63 = .ok (.dconst 0, 1) := by decide +kernel
theorem dX5_budget_64 : decode cX5_budget 64 = .ok (.dstore 4, 2) := by decide +kernel
theorem dX5_budget_66 : decode cX5_budget 66 = .ok (.dconst 0, 1) := by decide +kernel
theorem dX5_budget_67 : decode cX5_budget 67 = .ok (.dstore 6, 2) := by decide +kernel
theorem dX5_budget_69 : decode cX5_budget 69 = .ok (.iconst 0, 1) := by decide +kernel
theorem dX5_budget_70 : decode cX5_budget 70 = .ok (.istore 8, 2) := by decide +kernel
theorem dX5_budget_72 : decode cX5_budget 72 = .ok (.iload 8, 2) := by decide +kernel
theorem dX5_budget_74 : decode cX5_budget 74 = .ok (.iload_n 3, 1) := by decide +kernel
theorem dX5_budget_75 : decode cX5_budget 75 = .ok (.if_icmp .ge 68, 3) := by decide +kernel
theorem dX5_budget_78 : decode cX5_budget 78 = .ok (.dload 4, 2) := by decide +kernel
theorem dX5_budget_80 : decode cX5_budget 80 = .ok (.aload_n 0, 1) := by decide +kernel
theorem dX5_budget_81 : decode cX5_budget 81 = .ok (.getfield 7, 3) := by decide +kernel
theorem dX5_budget_84 : decode cX5_budget 84 = .ok (.aload_n 0, 1) := by decide +kernel
theorem dX5_budget_85 : decode cX5_budget 85 = .ok (.getfield 16, 3) := by decide +kernel
theorem dX5_budget_88 : decode cX5_budget 88 = .ok (.aload_n 0, 1) := by decide +kernel
theorem dX5_budget_89 : decode cX5_budget 89 = .ok (.getfield 69, 3) := by decide +kernel
theorem dX5_budget_92 : decode cX5_budget 92 = .ok (.iload 8, 2) := by decide +kernel
theorem dX5_budget_94 : decode cX5_budget 94 = .ok (.iaload, 1) := by decide +kernel
theorem dX5_budget_95 : decode cX5_budget 95 = .ok (.iaload, 1) := by decide +kernel
theorem dX5_budget_96 : decode cX5_budget 96 = .ok (.iaload, 1) := by decide +kernel
theorem dX5_budget_97 : decode cX5_budget 97 = .ok (.iload_n 1, 1) := by decide +kernel
theorem dX5_budget_98 : decode cX5_budget 98 = .ok (.if_icmp .ne 18, 3) := by decide +kernel
theorem dX5_budget_101 : decode cX5_budget 101 = .ok (.aload_n 0, 1) := by decide +kernel
theorem dX5_budget_102 : decode cX5_budget 102 = .ok (.getfield 19, 3) := by decide +kernel
theorem dX5_budget_105 : decode cX5_budget 105 = .ok (.aload_n 0, 1) := by decide +kernel
theorem dX5_budget_106 : decode cX5_budget 106 = .ok (.getfield 69, 3) := by decide +kernel
theorem dX5_budget_109 : decode cX5_budget 109 = .ok (.iload 8, 2) := by decide +kernel
theorem dX5_budget_111 : decode cX5_budget 111 = .ok (.iaload, 1) := by decide +kernel
theorem dX5_budget_112 : decode cX5_budget 112 = .ok (.daload, 1) := by decide +kernel
theorem dX5_budget_113 : decode cX5_budget 113 = .ok (.goto 4, 3) := by decide +kernel
theorem dX5_budget_116 : decode cX5_budget 116 = .ok (.dconst 0, 1) := by decide +kernel
theorem dX5_budget_117 : decode cX5_budget 117 = .ok (.dadd, 1) := by decide +kernel
theorem dX5_budget_118 : decode cX5_budget 118 = .ok (.dstore 4, 2) := by decide +kernel
theorem dX5_budget_120 : decode cX5_budget 120 = .ok (.dload 6, 2) := by decide +kernel
theorem dX5_budget_122 : decode cX5_budget 122 = .ok (.aload_n 0, 1) := by decide +kernel
theorem dX5_budget_123 : decode cX5_budget 123 = .ok (.getfield 19, 3) := by decide +kernel
theorem dX5_budget_126 : decode cX5_budget 126 = .ok (.aload_n 0, 1) := by decide +kernel
theorem dX5_budget_127 : decode cX5_budget 127 = .ok (.getfield 69, 3) := by decide +kernel
theorem dX5_budget_130 : decode cX5_budget 130 = .ok (.iload 8, 2) := by decide +kernel
theorem dX5_budget_132 : decode cX5_budget 132 = .ok (.iaload, 1) := by decide +kernel
theorem dX5_budget_133 : decode cX5_budget 133 = .ok (.daload, 1) := by decide +kernel
theorem dX5_budget_134 : decode cX5_budget 134 = .ok (.dadd, 1) := by decide +kernel
theorem dX5_budget_135 : decode cX5_budget 135 = .ok (.dstore 6, 2) := by decide +kernel
theorem dX5_budget_137 : decode cX5_budget 137 = .ok (.iinc 8 1, 3) := by decide +kernel
theorem dX5_budget_140 : decode cX5_budget 140 = .ok (.goto (-68), 3) := by decide +kernel
theorem dX5_budget_143 : decode cX5_budget 143 = .ok (.dload 6, 2) := by decide +kernel
theorem dX5_budget_145 : decode cX5_budget 145 = .ok (.dconst 0, 1) := by decide +kernel
theorem dX5_budget_146 : decode cX5_budget 146 = .ok (.dcmp .l, 1) := by decide +kernel
theorem dX5_budget_147 : decode cX5_budget 147 = .ok (.ifCond .ne 7, 3) := by decide +kernel
theorem dX5_budget_150 : decode cX5_budget 150 = .ok (.dconst 0, 1) := by decide +kernel
theorem dX5_budget_151 : decode cX5_budget 151 = .ok (.goto 14, 3) := by decide +kernel
theorem dX5_budget_154 : decode cX5_budget 154 = .ok (.aload_n 0, 1) := by decide +kernel
theorem dX5_budget_155 : decode cX5_budget 155 = .ok (.iload_n 2, 1) := by decide +kernel
theorem dX5_budget_156 : decode cX5_budget 156 = .ok (.invokevirtual 141, 3) := by decide +kernel
theorem dX5_budget_159 : decode cX5_budget 159 = .ok (.dload 4, 2) := by decide +kernel
theorem dX5_budget_161 : decode cX5_budget 161 = .ok (.dmul, 1) := by decide +kernel
theorem dX5_budget_162 : decode cX5_budget 162 = .ok (.dload 6, 2) := by decide +kernel
theorem dX5_budget_164 : decode cX5_budget 164 = .ok (.ddiv, 1) := by decide +kernel
theorem dX5_budget_165 : decode cX5_budget 165 = .ok (.dreturn, 1) := by decide +kernel
theorem dX5_isEdge_0 : decode cX5_isEdge 0 = .ok (.iconst 0, 1) := by decide +kernel
theorem dX5_isEdge_1 : decode cX5_isEdge 1 = .ok (.istore_n 3, 1) := by decide +kernel
theorem dX5_isEdge_2 : decode cX5_isEdge 2 = .ok (.iconst 0, 1) := by decide +kernel
theorem dX5_isEdge_3 : decode cX5_isEdge 3 = .ok (.istore 4, 2) := by decide +kernel
theorem dX5_isEdge_5 : decode cX5_isEdge 5 = .ok (.iload 4, 2) := by decide +kernel
theorem dX5_isEdge_7 : decode cX5_isEdge 7 = .ok (.iload_n 2, 1) := by decide +kernel
theorem dX5_isEdge_8 : decode cX5_isEdge 8 = .ok (.ifCond .eq 10, 3) := by decide +kernel
theorem dX5_isEdge_11 : decode cX5_isEdge 11 = .ok (.aload_n 0, 1) := by decide +kernel
theorem dX5_isEdge_12 : decode cX5_isEdge 12 = .ok (.getfield 116, 3) := by decide +kernel
theorem dX5_isEdge_15 : decode cX5_isEdge 15 = .ok (.goto 7, 3) := by decide +kernel
theorem dX5_isEdge_18 : decode cX5_isEdge 18 = .ok (.aload_n 0, 1) := by decide +kernel
theorem dX5_isEdge_19 : decode cX5_isEdge 19 = .ok (.getfield 111, 3) := by decide +kernel
theorem dX5_isEdge_22 : decode cX5_isEdge 22 = .ok (.if_icmp .ge 44, 3) := by decide +kernel
theorem dX5_isEdge_25 : decode cX5_isEdge 25 = .ok (.iload_n 3, 1) := by decide +kernel
theorem dX5_isEdge_26 : decode cX5_isEdge 26 = .ok (.ifCond .ne 28, 3) := by decide +kernel
theorem dX5_isEdge_29 : decode cX5_isEdge 29 = .ok (.iload_n 2, 1) := by decide +kernel
theorem dX5_isEdge_30 : decode cX5_isEdge 30 = .ok (.ifCond .eq 13, 3) := by decide +kernel
theorem dX5_isEdge_33 : decode cX5_isEdge 33 = .ok (.aload_n 0, 1) := by decide +kernel
theorem dX5_isEdge_34 : decode cX5_isEdge 34 = .ok (.getfield 23, 3) := by decide +kernel
theorem dX5_isEdge_37 : decode cX5_isEdge 37 = .ok (.iload 4, 2) := by decide +kernel
theorem dX5_isEdge_39 : decode cX5_isEdge 39 = .ok (.iaload, 1) := by decide +kernel
theorem dX5_isEdge_40 : decode cX5_isEdge 40 = .ok (.goto 10, 3) := by decide +kernel
theorem dX5_isEdge_43 : decode cX5_isEdge 43 = .ok (.aload_n 0, 1) := by decide +kernel
theorem dX5_isEdge_44 : decode cX5_isEdge 44 = .ok (.getfield 29, 3) := by decide +kernel
theorem dX5_isEdge_47 : decode cX5_isEdge 47 = .ok (.iload 4, 2) := by decide +kernel
theorem dX5_isEdge_49 : decode cX5_isEdge 49 = .ok (.iaload, 1) := by decide +kernel
theorem dX5_isEdge_50 : decode cX5_isEdge 50 = .ok (.iload_n 1, 1) := by decide +kernel
theorem dX5_isEdge_51 : decode cX5_isEdge 51 = .ok (.if_icmp .ne 7, 3) := by decide +kernel
theorem dX5_isEdge_54 : decode cX5_isEdge 54 = .ok (.iconst 1, 1) := by decide +kernel
theorem dX5_isEdge_55 : decode cX5_isEdge 55 = .ok (.goto 4, 3) := by decide +kernel
theorem dX5_isEdge_58 : decode cX5_isEdge 58 = .ok (.iconst 0, 1) := by decide +kernel
theorem dX5_isEdge_59 : decode cX5_isEdge 59 = .ok (.istore_n 3, 1) := by decide +kernel
theorem dX5_isEdge_60 : decode cX5_isEdge 60 = .ok (.iinc 4 1, 3) := by decide +kernel
theorem dX5_isEdge_63 : decode cX5_isEdge 63 = .ok (.goto (-58), 3) := by decide +kernel
theorem dX5_isEdge_66 : decode cX5_isEdge 66 = .ok (.iconst 0, 1) := by decide +kernel
theorem dX5_isEdge_67 : decode cX5_isEdge 67 = .ok (.istore 4, 2) := by decide +kernel
theorem dX5_isEdge_69 : decode cX5_isEdge 69 = .ok (.iload 4, 2) := by decide +kernel
theorem dX5_isEdge_71 : decode cX5_isEdge 71 = .ok (.aload_n 0, 1) := by decide +kernel
theorem dX5_isEdge_72 : decode cX5_isEdge 72 = .ok (.getfield 96, 3) := by decide +kernel
theorem dX5_isEdge_75 : decode cX5_isEdge 75 = .ok (.if_icmp .ge 91, 3) := by decide +kernel
theorem dX5_isEdge_78 : decode cX5_isEdge 78 = .ok (.iload_n 3, 1) := by decide +kernel
theorem dX5_isEdge_79 : decode cX5_isEdge 79 = .ok (.ifCond .ne 75, 3) := by decide +kernel
theorem dX5_isEdge_82 : decode cX5_isEdge 82 = .ok (.iload_n 2, 1) := by decide +kernel
theorem dX5_isEdge_83 : decode cX5_isEdge 83 = .ok (.ifCond .eq 35, 3) := by decide +kernel
theorem dX5_isEdge_86 : decode cX5_isEdge 86 = .ok (.aload_n 0, 1) := by decide +kernel
theorem dX5_isEdge_87 : decode cX5_isEdge 87 = .ok (.getfield 16, 3) := by decide +kernel
theorem dX5_isEdge_90 : decode cX5_isEdge 90 = .ok (.iload 4, 2) := by decide +kernel
theorem dX5_isEdge_92 : decode cX5_isEdge 92 = .ok (.iaload, 1) := by decide +kernel
theorem dX5_isEdge_93 : decode cX5_isEdge 93 = .ok (.iload_n 1, 1) := by decide +kernel
theorem dX5_isEdge_94 : decode cX5_isEdge 94 = .ok (.if_icmp .ne 24, 3) := by decide +kernel
theorem dX5_isEdge_97 : decode cX5_isEdge 97 = .ok (.aload_n 0, 1) := by decide +kernel
theorem dX5_isEdge_98 : decode cX5_isEdge 98 = .ok (.getfield 7, 3) := by decide +kernel
theorem dX5_isEdge_101 : decode cX5_isEdge 101 = .ok (.aload_n 0, 1) := by decide +kernel
theorem dX5_isEdge_102 : decode cX5_isEdge 102 = .ok (.getfield 13, 3) := by decide +kernel
theorem dX5_isEdge_105 : decode cX5_isEdge 105 = .ok (.iload 4, 2) := by decide +kernel
theorem dX5_isEdge_107 : decode cX5_isEdge 107 = .ok (.iaload, 1) := by decide +kernel
theorem dX5_isEdge_108 : decode cX5_isEdge 108 = .ok (.iaload, 1) := by decide +kernel
theorem dX5_isEdge_109 : decode cX5_isEdge 109 = .ok (.aload_n 0, 1) := by decide +kernel
theorem dX5_isEdge_110 : decode cX5_isEdge 110 = .ok (.getfield 7, 3) := by decide +kernel
theorem dX5_isEdge_113 : decode cX5_isEdge 113 = .ok (.iload_n 1, 1) := by decide +kernel
theorem dX5_isEdge_114 : decode cX5_isEdge 114 = .ok (.iaload, 1) := by decide +kernel
theorem dX5_isEdge_115 : decode cX5_isEdge 115 = .ok (.if_icmp .ne 39, 3) := by decide +kernel
theorem dX5_isEdge_118 : decode cX5_isEdge 118 = .ok (.iload_n 2, 1) := by decide +kernel
theorem dX5_isEdge_119 : decode cX5_isEdge 119 = .ok (.ifCond .ne 39, 3) := by decide +kernel
theorem dX5_isEdge_122 : decode cX5_isEdge 122 = .ok (.aload_n 0, 1) := by decide +kernel
theorem dX5_isEdge_123 : decode cX5_isEdge 123 = .ok (.getfield 13, 3) := by decide +kernel
theorem dX5_isEdge_126 : decode cX5_isEdge 126 = .ok (.iload 4, 2) := by decide +kernel
theorem dX5_isEdge_128 : decode cX5_isEdge 128 = .ok (.iaload, 1) := by decide +kernel
theorem dX5_isEdge_129 : decode cX5_isEdge 129 = .ok (.iload_n 1, 1) := by decide +kernel
theorem dX5_isEdge_130 : decode cX5_isEdge 130 = .ok (.if_icmp .ne 28, 3) := by decide +kernel
theorem dX5_isEdge_133 : decode cX5_isEdge 133 = .ok (.aload_n 0, 1) := by decide +kernel
theorem dX5_isEdge_134 : decode cX5_isEdge 134 = .ok (.getfield 7, 3) := by decide +kernel
theorem dX5_isEdge_137 : decode cX5_isEdge 137 = .ok (.aload_n 0, 1) := by decide +kernel
theorem dX5_isEdge_138 : decode cX5_isEdge 138 = .ok (.getfield 16, 3) := by decide +kernel
theorem dX5_isEdge_141 : decode cX5_isEdge 141 = .ok (.iload 4, 2) := by decide +kernel
theorem dX5_isEdge_143 : decode cX5_isEdge 143 = .ok (.iaload, 1) := by decide +kernel
theorem dX5_isEdge_144 : decode cX5_isEdge 144 = .ok (.iaload, 1) := by decide +kernel
theorem dX5_isEdge_145 : decode cX5_isEdge 145 = .ok (.aload_n 0, 1) := by decide +kernel
theorem dX5_isEdge_146 : decode cX5_isEdge 146 = .ok (.getfield 7, 3) := by decide +kernel
theorem dX5_isEdge_149 : decode cX5_isEdge 149 = .ok (.iload_n 1, 1) := by decide +kernel
theorem dX5_isEdge_150 : decode cX5_isEdge 150 = .ok (.iaload, 1) := by decide +kernel
theorem dX5_isEdge_151 : decode cX5_isEdge 151 = .ok (.if_icmp .eq 7, 3) := by decide +kernel
theorem dX5_isEdge_154 : decode cX5_isEdge 154 = .ok (.iconst 1, 1) := by decide +kernel
theorem dX5_isEdge_155 : decode cX5_isEdge 155 = .ok (.goto 4, 3) := by decide +kernel
theorem dX5_isEdge_158 : decode cX5_isEdge 158 = .ok (.iconst 0, 1) := by decide +kernel
theorem dX5_isEdge_159 : decode cX5_isEdge 159 = .ok (.istore_n 3, 1) := by decide +kernel
theorem dX5_isEdge_160 : decode cX5_isEdge 160 = .ok (.iinc 4 1, 3) := by decide +kernel
theorem dX5_isEdge_163 : decode cX5_isEdge 163 = .ok (.goto (-94), 3) := by decide +kernel
theorem dX5_isEdge_166 : decode cX5_isEdge 166 = .ok (.iload_n 3, 1) := by decide +kernel
theorem dX5_isEdge_167 : decode cX5_isEdge 167 = .ok (.ireturn, 1) := by decide +kernel
theorem dX5_isReduced_0 : decode cX5_isReduced 0 = .ok (.aload_n 0, 1) := by decide +kernel
theorem dX5_isReduced_1 : decode cX5_isReduced 1 = .ok (.getfield 7, 3) := by decide +kernel
theorem dX5_isReduced_4 : decode cX5_isReduced 4 = .ok (.iload_n 2, 1) := by decide +kernel
theorem dX5_isReduced_5 : decode cX5_isReduced 5 = .ok (.iaload, 1) := by decide +kernel
theorem dX5_isReduced_6 : decode cX5_isReduced 6 = .ok (.iload_n 1, 1) := by decide +kernel
theorem dX5_isReduced_7 : decode cX5_isReduced 7 = .ok (.if_icmp .ne 31, 3) := by decide +kernel
theorem dX5_isReduced_10 : decode cX5_isReduced 10 = .ok (.aload_n 0, 1) := by decide +kernel
theorem dX5_isReduced_11 : decode cX5_isReduced 11 = .ok (.getfield 7, 3) := by decide +kernel
theorem dX5_isReduced_14 : decode cX5_isReduced 14 = .ok (.iload_n 3, 1) := by decide +kernel
theorem dX5_isReduced_15 : decode cX5_isReduced 15 = .ok (.iaload, 1) := by decide +kernel
theorem dX5_isReduced_16 : decode cX5_isReduced 16 = .ok (.iload_n 1, 1) := by decide +kernel
theorem dX5_isReduced_17 : decode cX5_isReduced 17 = .ok (.if_icmp .ne 21, 3) := by decide +kernel
theorem dX5_isReduced_20 : decode cX5_isReduced 20 = .ok (.aload_n 0, 1) := by decide +kernel
theorem dX5_isReduced_21 : decode cX5_isReduced 21 = .ok (.iload_n 2, 1) := by decide +kernel
theorem dX5_isReduced_22 : decode cX5_isReduced 22 = .ok (.iconst 1, 1) := by decide +kernel
theorem dX5_isReduced_23 : decode cX5_isReduced 23 = .ok (.invokevirtual 163, 3) := by decide +kernel
theorem dX5_isReduced_26 : decode cX5_isReduced 26 = .ok (.ifCond .eq 12, 3) := by decide +kernel
theorem dX5_isReduced_29 : decode cX5_isReduced 29 = .ok (.aload_n 0, 1) := by decide +kernel
theorem dX5_isReduced_30 : decode cX5_isReduced 30 = .ok (.iload_n 3, 1) := by decide +kernel
theorem dX5_isReduced_31 : decode cX5_isReduced 31 = .ok (.iconst 0, 1) := by decide +kernel
theorem dX5_isReduced_32 : decode cX5_isReduced 32 = .ok (.invokevirtual 163, 3) := by decide +kernel
theorem dX5_isReduced_35 : decode cX5_isReduced 35 = .ok (.ifCond .ne 5, 3) := by decide +kernel
theorem dX5_isReduced_38 : decode cX5_isReduced 38 = .ok (.iconst 0, 1) := by decide +kernel
theorem dX5_isReduced_39 : decode cX5_isReduced 39 = .ok (.ireturn, 1) := by decide +kernel
theorem dX5_isReduced_40 : decode cX5_isReduced 40 = .ok (.aload_n 0, 1) := by decide +kernel
theorem dX5_isReduced_41 : decode cX5_isReduced 41 = .ok (.iload_n 2, 1) := by decide +kernel
theorem dX5_isReduced_42 : decode cX5_isReduced 42 = .ok (.iload_n 1, 1) := by decide +kernel
theorem dX5_isReduced_43 : decode cX5_isReduced 43 = .ok (.invokevirtual 107, 3) := by decide +kernel
theorem dX5_isReduced_46 : decode cX5_isReduced 46 = .ok (.aload_n 0, 1) := by decide +kernel
theorem dX5_isReduced_47 : decode cX5_isReduced 47 = .ok (.getfield 65, 3) := by decide +kernel
theorem dX5_isReduced_50 : decode cX5_isReduced 50 = .ok (.iload_n 3, 1) := by decide +kernel
theorem dX5_isReduced_51 : decode cX5_isReduced 51 = .ok (.baload, 1) := by decide +kernel
theorem dX5_isReduced_52 : decode cX5_isReduced 52 = .ok (.ireturn, 1) := by decide +kernel
theorem dX5_model_0 : decode cX5_model 0 = .ok (.aload_n 0, 1) := by decide +kernel
theorem dX5_model_1 : decode cX5_model 1 = .ok (.iload_n 1, 1) := by decide +kernel
theorem dX5_model_2 : decode cX5_model 2 = .ok (.ifCond .lt 9, 3) := by decide +kernel
theorem dX5_model_5 : decode cX5_model 5 = .ok (.iload_n 1, 1) := by decide +kernel
theorem dX5_model_6 : decode cX5_model 6 = .ok (.bipush 8, 2) := by decide +kernel
theorem dX5_model_8 : decode cX5_model 8 = .ok (.if_icmp .lt 7, 3) := by decide +kernel
theorem dX5_model_11 : decode cX5_model 11 = .ok (.iconst 1, 1) := by decide +kernel
theorem dX5_model_12 : decode cX5_model 12 = .ok (.goto 4, 3) := by decide +kernel
theorem dX5_model_15 : decode cX5_model 15 = .ok (.iconst 0, 1) := by decide +kernel
theorem dX5_model_16 : decode cX5_model 16 = .ok (.putfield 81, 3) := by decide +kernel
theorem dX5_model_19 : decode cX5_model 19 = .ok (.iconst 0, 1) := by decide +kernel
theorem dX5_model_20 : decode cX5_model 20 = .ok (.istore_n 2, 1) := by decide +kernel
theorem dX5_model_21 : decode cX5_model 21 = .ok (.iconst 0, 1) := by decide +kernel
theorem dX5_model_22 : decode cX5_model 22 = .ok (.istore_n 3, 1) := by decide +kernel
theorem dX5_model_23 : decode cX5_model 23 = .ok (.iload_n 3, 1) := by decide +kernel
theorem dX5_model_24 : decode cX5_model 24 = .ok (.aload_n 0, 1) := by decide +kernel
theorem dX5_model_25 : decode cX5_model 25 = .ok (.getfield 85, 3) := by decide +kernel
theorem dX5_model_28 : decode cX5_model 28 = .ok (.if_icmp .ge 53, 3) := by decide +kernel
theorem dX5_model_31 : decode cX5_model 31 = .ok (.aload_n 0, 1) := by decide +kernel
theorem dX5_model_32 : decode cX5_model 32 = .ok (.getfield 81, 3) := by decide +kernel
theorem dX5_model_35 : decode cX5_model 35 = .ok (.ifCond .ne 46, 3) := by decide +kernel
theorem dX5_model_38 : decode cX5_model 38 = .ok (.iconst 0, 1) := by decide +kernel
theorem dX5_model_39 : decode cX5_model 39 = .ok (.istore 4, 2) := by decide +kernel
theorem dX5_model_41 : decode cX5_model 41 = .ok (.iload 4, 2) := by decide +kernel
theorem dX5_model_43 : decode cX5_model 43 = .ok (.aload_n 0, 1) := by decide +kernel
theorem dX5_model_44 : decode cX5_model 44 = .ok (.getfield 85, 3) := by decide +kernel
theorem dX5_model_47 : decode cX5_model 47 = .ok (.if_icmp .ge 28, 3) := by decide +kernel
theorem dX5_model_50 : decode cX5_model 50 = .ok (.iload_n 2, 1) := by decide +kernel
theorem dX5_model_51 : decode cX5_model 51 = .ok (.aload_n 0, 1) := by decide +kernel
theorem dX5_model_52 : decode cX5_model 52 = .ok (.iload_n 1, 1) := by decide +kernel
theorem dX5_model_53 : decode cX5_model 53 = .ok (.iload_n 3, 1) := by decide +kernel
end
section
theorem dX5_model_54 : decode cX5_model 54 = .ok (.iload 4, 2) := by decide +kernel
theorem dX5_model_56 : decode cX5_model 56 = .ok (.invokevirtual 167, 3) := by decide +kernel
theorem dX5_model_59 : decode cX5_model 59 = .ok (.ifCond .eq 7, 3) := by decide +kernel
theorem dX5_model_62 : decode cX5_model 62 = .ok (.iconst 1, 1) := by decide +kernel
theorem dX5_model_63 : decode cX5_model 63 = .ok (.goto 4, 3) := by decide +kernel
theorem dX5_model_66 : decode cX5_model 66 = .ok (.iconst 0, 1) := by decide +kernel
theorem dX5_model_67 : decode cX5_model 67 = .ok (.iadd, 1) := by decide +kernel
theorem dX5_model_68 : decode cX5_model 68 = .ok (.istore_n 2, 1) := by decide +kernel
theorem dX5_model_69 : decode cX5_model 69 = .ok (.iinc 4 1, 3) := by decide +kernel
theorem dX5_model_72 : decode cX5_model 72 = .ok (.goto (-31), 3) := by decide +kernel
theorem dX5_model_75 : decode cX5_model 75 = .ok (.iinc 3 1, 3) := by decide +kernel
theorem dX5_model_78 : decode cX5_model 78 = .ok (.goto (-55), 3) := by decide +kernel
theorem dX5_model_81 : decode cX5_model 81 = .ok (.iload_n 2, 1) := by decide +kernel
theorem dX5_model_82 : decode cX5_model 82 = .ok (.ireturn, 1) := by decide +kernel
theorem dX5_reduced_0 : decode cX5_reduced 0 = .ok (.aload_n 0, 1) := by decide +kernel
theorem dX5_reduced_1 : decode cX5_reduced 1 = .ok (.iload_n 1, 1) := by decide +kernel
theorem dX5_reduced_2 : decode cX5_reduced 2 = .ok (.ifCond .lt 25, 3) := by decide +kernel
theorem dX5_reduced_5 : decode cX5_reduced 5 = .ok (.iload_n 1, 1) := by decide +kernel
theorem dX5_reduced_6 : decode cX5_reduced 6 = .ok (.bipush 8, 2) := by decide +kernel
theorem dX5_reduced_8 : decode cX5_reduced 8 = .ok (.if_icmp .ge 19, 3) := by decide +kernel
theorem dX5_reduced_11 : decode cX5_reduced 11 = .ok (.aload_n 0, 1) := by decide +kernel
theorem dX5_reduced_12 : decode cX5_reduced 12 = .ok (.iload_n 2, 1) := by decide +kernel
theorem dX5_reduced_13 : decode cX5_reduced 13 = .ok (.invokevirtual 99, 3) := by decide +kernel
theorem dX5_reduced_16 : decode cX5_reduced 16 = .ok (.ifCond .eq 11, 3) := by decide +kernel
theorem dX5_reduced_19 : decode cX5_reduced 19 = .ok (.aload_n 0, 1) := by decide +kernel
theorem dX5_reduced_20 : decode cX5_reduced 20 = .ok (.iload_n 3, 1) := by decide +kernel
theorem dX5_reduced_21 : decode cX5_reduced 21 = .ok (.invokevirtual 99, 3) := by decide +kernel
theorem dX5_reduced_24 : decode cX5_reduced 24 = .ok (.ifCond .ne 7, 3) := by decide +kernel
theorem dX5_reduced_27 : decode cX5_reduced 27 = .ok (.iconst 1, 1) := by decide +kernel
theorem dX5_reduced_28 : decode cX5_reduced 28 = .ok (.goto 4, 3) := by decide +kernel
theorem dX5_reduced_31 : decode cX5_reduced 31 = .ok (.iconst 0, 1) := by decide +kernel
theorem dX5_reduced_32 : decode cX5_reduced 32 = .ok (.putfield 81, 3) := by decide +kernel
theorem dX5_reduced_35 : decode cX5_reduced 35 = .ok (.aload_n 0, 1) := by decide +kernel
theorem dX5_reduced_36 : decode cX5_reduced 36 = .ok (.getfield 81, 3) := by decide +kernel
theorem dX5_reduced_39 : decode cX5_reduced 39 = .ok (.ifCond .le 5, 3) := by decide +kernel
theorem dX5_reduced_42 : decode cX5_reduced 42 = .ok (.dconst 0, 1) := by decide +kernel
theorem dX5_reduced_43 : decode cX5_reduced 43 = .ok (.dreturn, 1) := by decide +kernel
theorem dX5_reduced_44 : decode cX5_reduced 44 = .ok (.aload_n 0, 1) := by decide +kernel
theorem dX5_reduced_45 : decode cX5_reduced 45 = .ok (.iload_n 1, 1) := by decide +kernel
theorem dX5_reduced_46 : decode cX5_reduced 46 = .ok (.iload_n 2, 1) := by decide +kernel
theorem dX5_reduced_47 : decode cX5_reduced 47 = .ok (.iload_n 3, 1) := by decide +kernel
theorem dX5_reduced_48 : decode cX5_reduced 48 = .ok (.invokevirtual 167, 3) := by decide +kernel
theorem dX5_reduced_51 : decode cX5_reduced 51 = .ok (.ifCond .ne 7, 3) := by decide +kernel
theorem dX5_reduced_54 : decode cX5_reduced 54 = .ok (.ldc2_w 171, 3) := by decide +kernel
theorem dX5_reduced_57 : decode cX5_reduced 57 = .ok (.dreturn, 1) := by decide +kernel
theorem dX5_reduced_58 : decode cX5_reduced 58 = .ok (.iconst 0, 1) := by decide +kernel
theorem dX5_reduced_59 : decode cX5_reduced 59 = .ok (.istore 4, 2) := by decide +kernel
theorem dX5_reduced_61 : decode cX5_reduced 61 = .ok (.iload 4, 2) := by decide +kernel
theorem dX5_reduced_63 : decode cX5_reduced 63 = .ok (.bipush 60, 2) := by decide +kernel
theorem dX5_reduced_65 : decode cX5_reduced 65 = .ok (.if_icmp .ge 29, 3) := by decide +kernel
theorem dX5_reduced_68 : decode cX5_reduced 68 = .ok (.aload_n 0, 1) := by decide +kernel
theorem dX5_reduced_69 : decode cX5_reduced 69 = .ok (.getfield 78, 3) := by decide +kernel
theorem dX5_reduced_72 : decode cX5_reduced 72 = .ok (.iload 4, 2) := by decide +kernel
theorem dX5_reduced_74 : decode cX5_reduced 74 = .ok (.iload 4, 2) := by decide +kernel
theorem dX5_reduced_76 : decode cX5_reduced 76 = .ok (.iload_n 2, 1) := by decide +kernel
theorem dX5_reduced_77 : decode cX5_reduced 77 = .ok (.if_icmp .ne 7, 3) := by decide +kernel
theorem dX5_reduced_80 : decode cX5_reduced 80 = .ok (.dconst 0, 1) := by decide +kernel
theorem dX5_reduced_81 : decode cX5_reduced 81 = .ok (.goto 6, 3) := by decide +kernel
theorem dX5_reduced_84 : decode cX5_reduced 84 = .ok (.ldc2_w 171, 3) := by decide +kernel
theorem dX5_reduced_87 : decode cX5_reduced 87 = .ok (.dastore, 1) := by decide +kernel
theorem dX5_reduced_88 : decode cX5_reduced 88 = .ok (.iinc 4 1, 3) := by decide +kernel
theorem dX5_reduced_91 : decode cX5_reduced 91 = .ok (.goto (-30), 3) := by decide +kernel
theorem dX5_reduced_94 : decode cX5_reduced 94 = .ok (.iconst 1, 1) := by decide +kernel
theorem dX5_reduced_95 : decode cX5_reduced 95 = .ok (.istore 4, 2) := by decide +kernel
theorem dX5_reduced_97 : decode cX5_reduced 97 = .ok (.iload 4, 2) := by decide +kernel
theorem dX5_reduced_99 : decode cX5_reduced 99 = .ok (.ifCond .eq 159, 3) := by decide +kernel
theorem dX5_reduced_102 : decode cX5_reduced 102 = .ok (.iconst 0, 1) := by decide +kernel
theorem dX5_reduced_103 : decode cX5_reduced 103 = .ok (.istore 4, 2) := by decide +kernel
theorem dX5_reduced_105 : decode cX5_reduced 105 = .ok (.iconst 0, 1) := by decide +kernel
theorem dX5_reduced_106 : decode cX5_reduced 106 = .ok (.istore 5, 2) := by decide +kernel
theorem dX5_reduced_108 : decode cX5_reduced 108 = .ok (.iload 5, 2) := by decide +kernel
theorem dX5_reduced_110 : decode cX5_reduced 110 = .ok (.aload_n 0, 1) := by decide +kernel
theorem dX5_reduced_111 : decode cX5_reduced 111 = .ok (.getfield 96, 3) := by decide +kernel
theorem dX5_reduced_114 : decode cX5_reduced 114 = .ok (.if_icmp .ge 141, 3) := by decide +kernel
theorem dX5_reduced_117 : decode cX5_reduced 117 = .ok (.aload_n 0, 1) := by decide +kernel
theorem dX5_reduced_118 : decode cX5_reduced 118 = .ok (.getfield 7, 3) := by decide +kernel
theorem dX5_reduced_121 : decode cX5_reduced 121 = .ok (.aload_n 0, 1) := by decide +kernel
theorem dX5_reduced_122 : decode cX5_reduced 122 = .ok (.getfield 13, 3) := by decide +kernel
theorem dX5_reduced_125 : decode cX5_reduced 125 = .ok (.iload 5, 2) := by decide +kernel
theorem dX5_reduced_127 : decode cX5_reduced 127 = .ok (.iaload, 1) := by decide +kernel
theorem dX5_reduced_128 : decode cX5_reduced 128 = .ok (.iaload, 1) := by decide +kernel
theorem dX5_reduced_129 : decode cX5_reduced 129 = .ok (.iload_n 1, 1) := by decide +kernel
theorem dX5_reduced_130 : decode cX5_reduced 130 = .ok (.if_icmp .ne 23, 3) := by decide +kernel
theorem dX5_reduced_133 : decode cX5_reduced 133 = .ok (.aload_n 0, 1) := by decide +kernel
theorem dX5_reduced_134 : decode cX5_reduced 134 = .ok (.getfield 7, 3) := by decide +kernel
theorem dX5_reduced_137 : decode cX5_reduced 137 = .ok (.aload_n 0, 1) := by decide +kernel
theorem dX5_reduced_138 : decode cX5_reduced 138 = .ok (.getfield 16, 3) := by decide +kernel
theorem dX5_reduced_141 : decode cX5_reduced 141 = .ok (.iload 5, 2) := by decide +kernel
theorem dX5_reduced_143 : decode cX5_reduced 143 = .ok (.iaload, 1) := by decide +kernel
theorem dX5_reduced_144 : decode cX5_reduced 144 = .ok (.iaload, 1) := by decide +kernel
theorem dX5_reduced_145 : decode cX5_reduced 145 = .ok (.iload_n 1, 1) := by decide +kernel
theorem dX5_reduced_146 : decode cX5_reduced 146 = .ok (.if_icmp .ne 7, 3) := by decide +kernel
theorem dX5_reduced_149 : decode cX5_reduced 149 = .ok (.iconst 1, 1) := by decide +kernel
theorem dX5_reduced_150 : decode cX5_reduced 150 = .ok (.goto 4, 3) := by decide +kernel
theorem dX5_reduced_153 : decode cX5_reduced 153 = .ok (.iconst 0, 1) := by decide +kernel
theorem dX5_reduced_154 : decode cX5_reduced 154 = .ok (.istore 6, 2) := by decide +kernel
theorem dX5_reduced_156 : decode cX5_reduced 156 = .ok (.iload 6, 2) := by decide +kernel
theorem dX5_reduced_158 : decode cX5_reduced 158 = .ok (.ifCond .eq 91, 3) := by decide +kernel
theorem dX5_reduced_161 : decode cX5_reduced 161 = .ok (.aload_n 0, 1) := by decide +kernel
theorem dX5_reduced_162 : decode cX5_reduced 162 = .ok (.getfield 78, 3) := by decide +kernel
theorem dX5_reduced_165 : decode cX5_reduced 165 = .ok (.aload_n 0, 1) := by decide +kernel
theorem dX5_reduced_166 : decode cX5_reduced 166 = .ok (.getfield 13, 3) := by decide +kernel
theorem dX5_reduced_169 : decode cX5_reduced 169 = .ok (.iload 5, 2) := by decide +kernel
theorem dX5_reduced_171 : decode cX5_reduced 171 = .ok (.iaload, 1) := by decide +kernel
theorem dX5_reduced_172 : decode cX5_reduced 172 = .ok (.daload, 1) := by decide +kernel
theorem dX5_reduced_173 : decode cX5_reduced 173 = .ok (.dconst 0, 1) := by decide +kernel
theorem dX5_reduced_174 : decode cX5_reduced 174 = .ok (.dcmp .l, 1) := by decide +kernel
theorem dX5_reduced_175 : decode cX5_reduced 175 = .ok (.ifCond .lt 74, 3) := by decide +kernel
theorem dX5_reduced_178 : decode cX5_reduced 178 = .ok (.aload_n 0, 1) := by decide +kernel
theorem dX5_reduced_179 : decode cX5_reduced 179 = .ok (.getfield 78, 3) := by decide +kernel
theorem dX5_reduced_182 : decode cX5_reduced 182 = .ok (.aload_n 0, 1) := by decide +kernel
theorem dX5_reduced_183 : decode cX5_reduced 183 = .ok (.getfield 13, 3) := by decide +kernel
theorem dX5_reduced_186 : decode cX5_reduced 186 = .ok (.iload 5, 2) := by decide +kernel
theorem dX5_reduced_188 : decode cX5_reduced 188 = .ok (.iaload, 1) := by decide +kernel
theorem dX5_reduced_189 : decode cX5_reduced 189 = .ok (.daload, 1) := by decide +kernel
theorem dX5_reduced_190 : decode cX5_reduced 190 = .ok (.aload_n 0, 1) := by decide +kernel
theorem dX5_reduced_191 : decode cX5_reduced 191 = .ok (.getfield 19, 3) := by decide +kernel
theorem dX5_reduced_194 : decode cX5_reduced 194 = .ok (.iload 5, 2) := by decide +kernel
theorem dX5_reduced_196 : decode cX5_reduced 196 = .ok (.daload, 1) := by decide +kernel
theorem dX5_reduced_197 : decode cX5_reduced 197 = .ok (.dadd, 1) := by decide +kernel
theorem dX5_reduced_198 : decode cX5_reduced 198 = .ok (.aload_n 0, 1) := by decide +kernel
theorem dX5_reduced_199 : decode cX5_reduced 199 = .ok (.getfield 78, 3) := by decide +kernel
theorem dX5_reduced_202 : decode cX5_reduced 202 = .ok (.aload_n 0, 1) := by decide +kernel
theorem dX5_reduced_203 : decode cX5_reduced 203 = .ok (.getfield 16, 3) := by decide +kernel
theorem dX5_reduced_206 : decode cX5_reduced 206 = .ok (.iload 5, 2) := by decide +kernel
theorem dX5_reduced_208 : decode cX5_reduced 208 = .ok (.iaload, 1) := by decide +kernel
theorem dX5_reduced_209 : decode cX5_reduced 209 = .ok (.daload, 1) := by decide +kernel
theorem dX5_reduced_210 : decode cX5_reduced 210 = .ok (.dcmp .l, 1) := by decide +kernel
theorem dX5_reduced_211 : decode cX5_reduced 211 = .ok (.ifCond .le 38, 3) := by decide +kernel
theorem dX5_reduced_214 : decode cX5_reduced 214 = .ok (.aload_n 0, 1) := by decide +kernel
theorem dX5_reduced_215 : decode cX5_reduced 215 = .ok (.getfield 78, 3) := by decide +kernel
theorem dX5_reduced_218 : decode cX5_reduced 218 = .ok (.aload_n 0, 1) := by decide +kernel
theorem dX5_reduced_219 : decode cX5_reduced 219 = .ok (.getfield 16, 3) := by decide +kernel
theorem dX5_reduced_222 : decode cX5_reduced 222 = .ok (.iload 5, 2) := by decide +kernel
theorem dX5_reduced_224 : decode cX5_reduced 224 = .ok (.iaload, 1) := by decide +kernel
theorem dX5_reduced_225 : decode cX5_reduced 225 = .ok (.aload_n 0, 1) := by decide +kernel
theorem dX5_reduced_226 : decode cX5_reduced 226 = .ok (.getfield 78, 3) := by decide +kernel
theorem dX5_reduced_229 : decode cX5_reduced 229 = .ok (.aload_n 0, 1) := by decide +kernel
theorem dX5_reduced_230 : decode cX5_reduced 230 = .ok (.getfield 13, 3) := by decide +kernel
theorem dX5_reduced_233 : decode cX5_reduced 233 = .ok (.iload 5, 2) := by decide +kernel
theorem dX5_reduced_235 : decode cX5_reduced 235 = .ok (.iaload, 1) := by decide +kernel
theorem dX5_reduced_236 : decode cX5_reduced 236 = .ok (.daload, 1) := by decide +kernel
theorem dX5_reduced_237 : decode cX5_reduced 237 = .ok (.aload_n 0, 1) := by decide +kernel
theorem dX5_reduced_238 : decode cX5_reduced 238 = .ok (.getfield 19, 3) := by decide +kernel
theorem dX5_reduced_241 : decode cX5_reduced 241 = .ok (.iload 5, 2) := by decide +kernel
theorem dX5_reduced_243 : decode cX5_reduced 243 = .ok (.daload, 1) := by decide +kernel
theorem dX5_reduced_244 : decode cX5_reduced 244 = .ok (.dadd, 1) := by decide +kernel
theorem dX5_reduced_245 : decode cX5_reduced 245 = .ok (.dastore, 1) := by decide +kernel
theorem dX5_reduced_246 : decode cX5_reduced 246 = .ok (.iconst 1, 1) := by decide +kernel
theorem dX5_reduced_247 : decode cX5_reduced 247 = .ok (.istore 4, 2) := by decide +kernel
theorem dX5_reduced_249 : decode cX5_reduced 249 = .ok (.iinc 5 1, 3) := by decide +kernel
theorem dX5_reduced_252 : decode cX5_reduced 252 = .ok (.goto (-144), 3) := by decide +kernel
theorem dX5_reduced_255 : decode cX5_reduced 255 = .ok (.goto (-158), 3) := by decide +kernel
theorem dX5_reduced_258 : decode cX5_reduced 258 = .ok (.aload_n 0, 1) := by decide +kernel
theorem dX5_reduced_259 : decode cX5_reduced 259 = .ok (.getfield 78, 3) := by decide +kernel
theorem dX5_reduced_262 : decode cX5_reduced 262 = .ok (.iload_n 3, 1) := by decide +kernel
theorem dX5_reduced_263 : decode cX5_reduced 263 = .ok (.daload, 1) := by decide +kernel
theorem dX5_reduced_264 : decode cX5_reduced 264 = .ok (.dreturn, 1) := by decide +kernel
theorem dX5_into_0 : decode cX5_into 0 = .ok (.aload_n 0, 1) := by decide +kernel
theorem dX5_into_1 : decode cX5_into 1 = .ok (.aload_n 0, 1) := by decide +kernel
theorem dX5_into_2 : decode cX5_into 2 = .ok (.iload_n 1, 1) := by decide +kernel
theorem dX5_into_3 : decode cX5_into 3 = .ok (.invokevirtual 99, 3) := by decide +kernel
theorem dX5_into_6 : decode cX5_into 6 = .ok (.ifCond .eq 14, 3) := by decide +kernel
theorem dX5_into_9 : decode cX5_into 9 = .ok (.iload_n 2, 1) := by decide +kernel
theorem dX5_into_10 : decode cX5_into 10 = .ok (.iconst (-1), 1) := by decide +kernel
theorem dX5_into_11 : decode cX5_into 11 = .ok (.if_icmp .lt 9, 3) := by decide +kernel
theorem dX5_into_14 : decode cX5_into 14 = .ok (.iload_n 2, 1) := by decide +kernel
theorem dX5_into_15 : decode cX5_into 15 = .ok (.bipush 8, 2) := by decide +kernel
theorem dX5_into_17 : decode cX5_into 17 = .ok (.if_icmp .lt 7, 3) := by decide +kernel
theorem dX5_into_20 : decode cX5_into 20 = .ok (.iconst 1, 1) := by decide +kernel
theorem dX5_into_21 : decode cX5_into 21 = .ok (.goto 4, 3) := by decide +kernel
theorem dX5_into_24 : decode cX5_into 24 = .ok (.iconst 0, 1) := by decide +kernel
theorem dX5_into_25 : decode cX5_into 25 = .ok (.putfield 81, 3) := by decide +kernel
theorem dX5_into_28 : decode cX5_into 28 = .ok (.aload_n 0, 1) := by decide +kernel
theorem dX5_into_29 : decode cX5_into 29 = .ok (.getfield 81, 3) := by decide +kernel
theorem dX5_into_32 : decode cX5_into 32 = .ok (.ifCond .gt 13, 3) := by decide +kernel
theorem dX5_into_35 : decode cX5_into 35 = .ok (.aload_n 0, 1) := by decide +kernel
theorem dX5_into_36 : decode cX5_into 36 = .ok (.getfield 7, 3) := by decide +kernel
theorem dX5_into_39 : decode cX5_into 39 = .ok (.iload_n 1, 1) := by decide +kernel
theorem dX5_into_40 : decode cX5_into 40 = .ok (.iaload, 1) := by decide +kernel
theorem dX5_into_41 : decode cX5_into 41 = .ok (.iload_n 2, 1) := by decide +kernel
theorem dX5_into_42 : decode cX5_into 42 = .ok (.if_icmp .ne 5, 3) := by decide +kernel
theorem dX5_into_45 : decode cX5_into 45 = .ok (.iconst 0, 1) := by decide +kernel
theorem dX5_into_46 : decode cX5_into 46 = .ok (.ireturn, 1) := by decide +kernel
theorem dX5_into_47 : decode cX5_into 47 = .ok (.aload_n 0, 1) := by decide +kernel
theorem dX5_into_48 : decode cX5_into 48 = .ok (.getfield 7, 3) := by decide +kernel
theorem dX5_into_51 : decode cX5_into 51 = .ok (.iload_n 1, 1) := by decide +kernel
theorem dX5_into_52 : decode cX5_into 52 = .ok (.iload_n 2, 1) := by decide +kernel
theorem dX5_into_53 : decode cX5_into 53 = .ok (.iastore, 1) := by decide +kernel
theorem dX5_into_54 : decode cX5_into 54 = .ok (.iconst 1, 1) := by decide +kernel
theorem dX5_into_55 : decode cX5_into 55 = .ok (.ireturn, 1) := by decide +kernel
theorem dX5_whatIf_0 : decode cX5_whatIf 0 = .ok (.aload_n 0, 1) := by decide +kernel
theorem dX5_whatIf_1 : decode cX5_whatIf 1 = .ok (.iload_n 1, 1) := by decide +kernel
theorem dX5_whatIf_2 : decode cX5_whatIf 2 = .ok (.ifCond .lt 11, 3) := by decide +kernel
theorem dX5_whatIf_5 : decode cX5_whatIf 5 = .ok (.iload_n 1, 1) := by decide +kernel
theorem dX5_whatIf_6 : decode cX5_whatIf 6 = .ok (.aload_n 0, 1) := by decide +kernel
theorem dX5_whatIf_7 : decode cX5_whatIf 7 = .ok (.getfield 96, 3) := by decide +kernel
theorem dX5_whatIf_10 : decode cX5_whatIf 10 = .ok (.if_icmp .lt 7, 3) := by decide +kernel
theorem dX5_whatIf_13 : decode cX5_whatIf 13 = .ok (.iconst 1, 1) := by decide +kernel
theorem dX5_whatIf_14 : decode cX5_whatIf 14 = .ok (.goto 29, 3) := by decide +kernel
theorem dX5_whatIf_17 : decode cX5_whatIf 17 = .ok (.aload_n 0, 1) := by decide +kernel
theorem dX5_whatIf_18 : decode cX5_whatIf 18 = .ok (.getfield 173, 3) := by decide +kernel
theorem dX5_whatIf_21 : decode cX5_whatIf 21 = .ok (.bipush 50, 2) := by decide +kernel
theorem dX5_whatIf_23 : decode cX5_whatIf 23 = .ok (.if_icmp .ne 7, 3) := by decide +kernel
theorem dX5_whatIf_26 : decode cX5_whatIf 26 = .ok (.iconst 2, 1) := by decide +kernel
theorem dX5_whatIf_27 : decode cX5_whatIf 27 = .ok (.goto 16, 3) := by decide +kernel
theorem dX5_whatIf_30 : decode cX5_whatIf 30 = .ok (.dload_n 2, 1) := by decide +kernel
theorem dX5_whatIf_31 : decode cX5_whatIf 31 = .ok (.dconst 0, 1) := by decide +kernel
theorem dX5_whatIf_32 : decode cX5_whatIf 32 = .ok (.invokestatic 103, 3) := by decide +kernel
theorem dX5_whatIf_35 : decode cX5_whatIf 35 = .ok (.ifCond .eq 7, 3) := by decide +kernel
theorem dX5_whatIf_38 : decode cX5_whatIf 38 = .ok (.iconst 0, 1) := by decide +kernel
theorem dX5_whatIf_39 : decode cX5_whatIf 39 = .ok (.goto 4, 3) := by decide +kernel
theorem dX5_whatIf_42 : decode cX5_whatIf 42 = .ok (.iconst 3, 1) := by decide +kernel
theorem dX5_whatIf_43 : decode cX5_whatIf 43 = .ok (.putfield 81, 3) := by decide +kernel
theorem dX5_whatIf_46 : decode cX5_whatIf 46 = .ok (.aload_n 0, 1) := by decide +kernel
theorem dX5_whatIf_47 : decode cX5_whatIf 47 = .ok (.getfield 81, 3) := by decide +kernel
theorem dX5_whatIf_50 : decode cX5_whatIf 50 = .ok (.ifCond .gt 14, 3) := by decide +kernel
theorem dX5_whatIf_53 : decode cX5_whatIf 53 = .ok (.aload_n 0, 1) := by decide +kernel
theorem dX5_whatIf_54 : decode cX5_whatIf 54 = .ok (.getfield 19, 3) := by decide +kernel
theorem dX5_whatIf_57 : decode cX5_whatIf 57 = .ok (.iload_n 1, 1) := by decide +kernel
theorem dX5_whatIf_58 : decode cX5_whatIf 58 = .ok (.daload, 1) := by decide +kernel
theorem dX5_whatIf_59 : decode cX5_whatIf 59 = .ok (.dload_n 2, 1) := by decide +kernel
theorem dX5_whatIf_60 : decode cX5_whatIf 60 = .ok (.dcmp .l, 1) := by decide +kernel
theorem dX5_whatIf_61 : decode cX5_whatIf 61 = .ok (.ifCond .ne 5, 3) := by decide +kernel
theorem dX5_whatIf_64 : decode cX5_whatIf 64 = .ok (.iconst 0, 1) := by decide +kernel
theorem dX5_whatIf_65 : decode cX5_whatIf 65 = .ok (.ireturn, 1) := by decide +kernel
theorem dX5_whatIf_66 : decode cX5_whatIf 66 = .ok (.aload_n 0, 1) := by decide +kernel
theorem dX5_whatIf_67 : decode cX5_whatIf 67 = .ok (.getfield 41, 3) := by decide +kernel
theorem dX5_whatIf_70 : decode cX5_whatIf 70 = .ok (.aload_n 0, 1) := by decide +kernel
theorem dX5_whatIf_71 : decode cX5_whatIf 71 = .ok (.getfield 173, 3) := by decide +kernel
theorem dX5_whatIf_74 : decode cX5_whatIf 74 = .ok (.iload_n 1, 1) := by decide +kernel
theorem dX5_whatIf_75 : decode cX5_whatIf 75 = .ok (.iastore, 1) := by decide +kernel
theorem dX5_whatIf_76 : decode cX5_whatIf 76 = .ok (.aload_n 0, 1) := by decide +kernel
theorem dX5_whatIf_77 : decode cX5_whatIf 77 = .ok (.getfield 44, 3) := by decide +kernel
theorem dX5_whatIf_80 : decode cX5_whatIf 80 = .ok (.aload_n 0, 1) := by decide +kernel
theorem dX5_whatIf_81 : decode cX5_whatIf 81 = .ok (.getfield 173, 3) := by decide +kernel
theorem dX5_whatIf_84 : decode cX5_whatIf 84 = .ok (.aload_n 0, 1) := by decide +kernel
theorem dX5_whatIf_85 : decode cX5_whatIf 85 = .ok (.getfield 19, 3) := by decide +kernel
theorem dX5_whatIf_88 : decode cX5_whatIf 88 = .ok (.iload_n 1, 1) := by decide +kernel
theorem dX5_whatIf_89 : decode cX5_whatIf 89 = .ok (.daload, 1) := by decide +kernel
theorem dX5_whatIf_90 : decode cX5_whatIf 90 = .ok (.dastore, 1) := by decide +kernel
theorem dX5_whatIf_91 : decode cX5_whatIf 91 = .ok (.aload_n 0, 1) := by decide +kernel
theorem dX5_whatIf_92 : decode cX5_whatIf 92 = .ok (.dup, 1) := by decide +kernel
theorem dX5_whatIf_93 : decode cX5_whatIf 93 = .ok (.getfield 173, 3) := by decide +kernel
theorem dX5_whatIf_96 : decode cX5_whatIf 96 = .ok (.iconst 1, 1) := by decide +kernel
theorem dX5_whatIf_97 : decode cX5_whatIf 97 = .ok (.iadd, 1) := by decide +kernel
theorem dX5_whatIf_98 : decode cX5_whatIf 98 = .ok (.putfield 173, 3) := by decide +kernel
theorem dX5_whatIf_101 : decode cX5_whatIf 101 = .ok (.aload_n 0, 1) := by decide +kernel
theorem dX5_whatIf_102 : decode cX5_whatIf 102 = .ok (.getfield 19, 3) := by decide +kernel
theorem dX5_whatIf_105 : decode cX5_whatIf 105 = .ok (.iload_n 1, 1) := by decide +kernel
theorem dX5_whatIf_106 : decode cX5_whatIf 106 = .ok (.dload_n 2, 1) := by decide +kernel
theorem dX5_whatIf_107 : decode cX5_whatIf 107 = .ok (.dconst 0, 1) := by decide +kernel
theorem dX5_whatIf_108 : decode cX5_whatIf 108 = .ok (.dadd, 1) := by decide +kernel
theorem dX5_whatIf_109 : decode cX5_whatIf 109 = .ok (.dastore, 1) := by decide +kernel
theorem dX5_whatIf_110 : decode cX5_whatIf 110 = .ok (.aload_n 0, 1) := by decide +kernel
theorem dX5_whatIf_111 : decode cX5_whatIf 111 = .ok (.iconst 0, 1) := by decide +kernel
theorem dX5_whatIf_112 : decode cX5_whatIf 112 = .ok (.putfield 92, 3) := by decide +kernel
theorem dX5_whatIf_115 : decode cX5_whatIf 115 = .ok (.iconst 1, 1) := by decide +kernel
theorem dX5_whatIf_116 : decode cX5_whatIf 116 = .ok (.ireturn, 1) := by decide +kernel
theorem dX5_back_0 : decode cX5_back 0 = .ok (.aload_n 0, 1) := by decide +kernel
theorem dX5_back_1 : decode cX5_back 1 = .ok (.iconst 0, 1) := by decide +kernel
theorem dX5_back_2 : decode cX5_back 2 = .ok (.putfield 81, 3) := by decide +kernel
theorem dX5_back_5 : decode cX5_back 5 = .ok (.aload_n 0, 1) := by decide +kernel
theorem dX5_back_6 : decode cX5_back 6 = .ok (.getfield 173, 3) := by decide +kernel
theorem dX5_back_9 : decode cX5_back 9 = .ok (.ifCond .ne 5, 3) := by decide +kernel
theorem dX5_back_12 : decode cX5_back 12 = .ok (.iconst 0, 1) := by decide +kernel
theorem dX5_back_13 : decode cX5_back 13 = .ok (.ireturn, 1) := by decide +kernel
theorem dX5_back_14 : decode cX5_back 14 = .ok (.aload_n 0, 1) := by decide +kernel
theorem dX5_back_15 : decode cX5_back 15 = .ok (.dup, 1) := by decide +kernel
theorem dX5_back_16 : decode cX5_back 16 = .ok (.getfield 173, 3) := by decide +kernel
theorem dX5_back_19 : decode cX5_back 19 = .ok (.iconst 1, 1) := by decide +kernel
theorem dX5_back_20 : decode cX5_back 20 = .ok (.isub, 1) := by decide +kernel
theorem dX5_back_21 : decode cX5_back 21 = .ok (.putfield 173, 3) := by decide +kernel
theorem dX5_back_24 : decode cX5_back 24 = .ok (.aload_n 0, 1) := by decide +kernel
theorem dX5_back_25 : decode cX5_back 25 = .ok (.getfield 19, 3) := by decide +kernel
theorem dX5_back_28 : decode cX5_back 28 = .ok (.aload_n 0, 1) := by decide +kernel
theorem dX5_back_29 : decode cX5_back 29 = .ok (.getfield 41, 3) := by decide +kernel
theorem dX5_back_32 : decode cX5_back 32 = .ok (.aload_n 0, 1) := by decide +kernel
theorem dX5_back_33 : decode cX5_back 33 = .ok (.getfield 173, 3) := by decide +kernel
theorem dX5_back_36 : decode cX5_back 36 = .ok (.iaload, 1) := by decide +kernel
theorem dX5_back_37 : decode cX5_back 37 = .ok (.aload_n 0, 1) := by decide +kernel
theorem dX5_back_38 : decode cX5_back 38 = .ok (.getfield 44, 3) := by decide +kernel
theorem dX5_back_41 : decode cX5_back 41 = .ok (.aload_n 0, 1) := by decide +kernel
theorem dX5_back_42 : decode cX5_back 42 = .ok (.getfield 173, 3) := by decide +kernel
theorem dX5_back_45 : decode cX5_back 45 = .ok (.daload, 1) := by decide +kernel
theorem dX5_back_46 : decode cX5_back 46 = .ok (.dastore, 1) := by decide +kernel
theorem dX5_back_47 : decode cX5_back 47 = .ok (.aload_n 0, 1) := by decide +kernel
theorem dX5_back_48 : decode cX5_back 48 = .ok (.iconst 0, 1) := by decide +kernel
theorem dX5_back_49 : decode cX5_back 49 = .ok (.putfield 92, 3) := by decide +kernel
theorem dX5_back_52 : decode cX5_back 52 = .ok (.iconst 1, 1) := by decide +kernel
theorem dX5_back_53 : decode cX5_back 53 = .ok (.ireturn, 1) := by decide +kernel
theorem dJ9_max_7cf53_0 : decode cJ9_max_7cf53 0 = .ok (.iload_n 0, 1) := by decide +kernel
theorem dJ9_max_7cf53_1 : decode cJ9_max_7cf53 1 = .ok (.iload_n 1, 1) := by decide +kernel
theorem dJ9_max_7cf53_2 : decode cJ9_max_7cf53 2 = .ok (.if_icmp .lt 7, 3) := by decide +kernel
theorem dJ9_max_7cf53_5 : decode cJ9_max_7cf53 5 = .ok (.iload_n 0, 1) := by decide +kernel
theorem dJ9_max_7cf53_6 : decode cJ9_max_7cf53 6 = .ok (.goto 4, 3) := by decide +kernel
theorem dJ9_max_7cf53_9 : decode cJ9_max_7cf53 9 = .ok (.iload_n 1, 1) := by decide +kernel
theorem dJ9_max_7cf53_10 : decode cJ9_max_7cf53 10 = .ok (.ireturn, 1) := by decide +kernel
theorem dJ9_min_7cf53_0 : decode cJ9_min_7cf53 0 = .ok (.iload_n 0, 1) := by decide +kernel
theorem dJ9_min_7cf53_1 : decode cJ9_min_7cf53 1 = .ok (.iload_n 1, 1) := by decide +kernel
theorem dJ9_min_7cf53_2 : decode cJ9_min_7cf53 2 = .ok (.if_icmp .gt 7, 3) := by decide +kernel
theorem dJ9_min_7cf53_5 : decode cJ9_min_7cf53 5 = .ok (.iload_n 0, 1) := by decide +kernel
theorem dJ9_min_7cf53_6 : decode cJ9_min_7cf53 6 = .ok (.goto 4, 3) := by decide +kernel
theorem dJ9_min_7cf53_9 : decode cJ9_min_7cf53 9 = .ok (.iload_n 1, 1) := by decide +kernel
theorem dJ9_min_7cf53_10 : decode cJ9_min_7cf53 10 = .ok (.ireturn, 1) := by decide +kernel
theorem dJxa1e45_init_da8c8_0 : decode cJxa1e45_init_da8c8 0 = .ok (.aload_n 0, 1) := by decide +kernel
theorem dJxa1e45_init_da8c8_1 : decode cJxa1e45_init_da8c8 1 = .ok (.invokespecial 1, 3) := by decide +kernel
theorem dJxa1e45_init_da8c8_4 : decode cJxa1e45_init_da8c8 4 = .ok (.return_, 1) := by decide +kernel
theorem dJxc12de_init_da8c8_0 : decode cJxc12de_init_da8c8 0 = .ok (.aload_n 0, 1) := by decide +kernel
theorem dJxc12de_init_da8c8_1 : decode cJxc12de_init_da8c8 1 = .ok (.invokespecial 1, 3) := by decide +kernel
theorem dJxc12de_init_da8c8_4 : decode cJxc12de_init_da8c8 4 = .ok (.aload_n 0, 1) := by decide +kernel
theorem dJxc12de_init_da8c8_5 : decode cJxc12de_init_da8c8 5 = .ok (.iconst 0, 1) := by decide +kernel
theorem dJxc12de_init_da8c8_6 : decode cJxc12de_init_da8c8 6 = .ok (.putfield 7, 3) := by decide +kernel
theorem dJxc12de_init_da8c8_9 : decode cJxc12de_init_da8c8 9 = .ok (.return_, 1) := by decide +kernel
theorem dJx4a65c_init_da8c8_0 : decode cJx4a65c_init_da8c8 0 = .ok (.aload_n 0, 1) := by decide +kernel
theorem dJx4a65c_init_da8c8_1 : decode cJx4a65c_init_da8c8 1 = .ok (.invokespecial 1, 3) := by decide +kernel
theorem dJx4a65c_init_da8c8_4 : decode cJx4a65c_init_da8c8 4 = .ok (.aload_n 0, 1) := by decide +kernel
theorem dJx4a65c_init_da8c8_5 : decode cJx4a65c_init_da8c8 5 = .ok (.getstatic 39, 3) := by decide +kernel
theorem dJx4a65c_init_da8c8_8 : decode cJx4a65c_init_da8c8 8 = .ok (.putfield 9, 3) := by decide +kernel
theorem dJx4a65c_init_da8c8_11 : decode cJx4a65c_init_da8c8 11 = .ok (.return_, 1) := by decide +kernel
theorem dJx4a65c_grow_92f84_0 : decode cJx4a65c_grow_92f84 0 = .ok (.aload_n 0, 1) := by decide +kernel
theorem dJx4a65c_grow_92f84_1 : decode cJx4a65c_grow_92f84 1 = .ok (.getfield 9, 3) := by decide +kernel
theorem dJx4a65c_grow_92f84_4 : decode cJx4a65c_grow_92f84 4 = .ok (.arraylength, 1) := by decide +kernel
theorem dJx4a65c_grow_92f84_5 : decode cJx4a65c_grow_92f84 5 = .ok (.istore_n 2, 1) := by decide +kernel
theorem dJx4a65c_grow_92f84_6 : decode cJx4a65c_grow_92f84 6 = .ok (.iload_n 2, 1) := by decide +kernel
theorem dJx4a65c_grow_92f84_7 : decode cJx4a65c_grow_92f84 7 = .ok (.ifCond .gt 13, 3) := by decide +kernel
theorem dJx4a65c_grow_92f84_10 : decode cJx4a65c_grow_92f84 10 = .ok (.aload_n 0, 1) := by decide +kernel
theorem dJx4a65c_grow_92f84_11 : decode cJx4a65c_grow_92f84 11 = .ok (.getfield 9, 3) := by decide +kernel
theorem dJx4a65c_grow_92f84_14 : decode cJx4a65c_grow_92f84 14 = .ok (.getstatic 39, 3) := by decide +kernel
theorem dJx4a65c_grow_92f84_17 : decode cJx4a65c_grow_92f84 17 = .ok (.if_acmp .eq 28, 3) := by decide +kernel
theorem dJx4a65c_grow_92f84_20 : decode cJx4a65c_grow_92f84 20 = .ok (.iload_n 2, 1) := by decide +kernel
theorem dJx4a65c_grow_92f84_21 : decode cJx4a65c_grow_92f84 21 = .ok (.iload_n 1, 1) := by decide +kernel
theorem dJx4a65c_grow_92f84_22 : decode cJx4a65c_grow_92f84 22 = .ok (.iload_n 2, 1) := by decide +kernel
theorem dJx4a65c_grow_92f84_23 : decode cJx4a65c_grow_92f84 23 = .ok (.isub, 1) := by decide +kernel
theorem dJx4a65c_grow_92f84_24 : decode cJx4a65c_grow_92f84 24 = .ok (.iload_n 2, 1) := by decide +kernel
theorem dJx4a65c_grow_92f84_25 : decode cJx4a65c_grow_92f84 25 = .ok (.iconst 1, 1) := by decide +kernel
theorem dJx4a65c_grow_92f84_26 : decode cJx4a65c_grow_92f84 26 = .ok (.ishr, 1) := by decide +kernel
theorem dJx4a65c_grow_92f84_27 : decode cJx4a65c_grow_92f84 27 = .ok (.invokestatic 73, 3) := by decide +kernel
theorem dJx4a65c_grow_92f84_30 : decode cJx4a65c_grow_92f84 30 = .ok (.istore_n 3, 1) := by decide +kernel
theorem dJx4a65c_grow_92f84_31 : decode cJx4a65c_grow_92f84 31 = .ok (.aload_n 0, 1) := by decide +kernel
theorem dJx4a65c_grow_92f84_32 : decode cJx4a65c_grow_92f84 32 = .ok (.aload_n 0, 1) := by decide +kernel
theorem dJx4a65c_grow_92f84_33 : decode cJx4a65c_grow_92f84 33 = .ok (.getfield 9, 3) := by decide +kernel
theorem dJx4a65c_grow_92f84_36 : decode cJx4a65c_grow_92f84 36 = .ok (.iload_n 3, 1) := by decide +kernel
theorem dJx4a65c_grow_92f84_37 : decode cJx4a65c_grow_92f84 37 = .ok (.invokestatic 66, 3) := by decide +kernel
theorem dJx4a65c_grow_92f84_40 : decode cJx4a65c_grow_92f84 40 = .ok (.dup_x1, 1) := by decide +kernel
theorem dJx4a65c_grow_92f84_41 : decode cJx4a65c_grow_92f84 41 = .ok (.putfield 9, 3) := by decide +kernel
theorem dJx4a65c_grow_92f84_44 : decode cJx4a65c_grow_92f84 44 = .ok (.areturn, 1) := by decide +kernel
theorem dJx4a65c_grow_92f84_45 : decode cJx4a65c_grow_92f84 45 = .ok (.aload_n 0, 1) := by decide +kernel
theorem dJx4a65c_grow_92f84_46 : decode cJx4a65c_grow_92f84 46 = .ok (.bipush 10, 2) := by decide +kernel
theorem dJx4a65c_grow_92f84_48 : decode cJx4a65c_grow_92f84 48 = .ok (.iload_n 1, 1) := by decide +kernel
theorem dJx4a65c_grow_92f84_49 : decode cJx4a65c_grow_92f84 49 = .ok (.invokestatic 79, 3) := by decide +kernel
theorem dJx4a65c_grow_92f84_52 : decode cJx4a65c_grow_92f84 52 = .ok (.anewarray 7, 3) := by decide +kernel
theorem dJx4a65c_grow_92f84_55 : decode cJx4a65c_grow_92f84 55 = .ok (.dup_x1, 1) := by decide +kernel
theorem dJx4a65c_grow_92f84_56 : decode cJx4a65c_grow_92f84 56 = .ok (.putfield 9, 3) := by decide +kernel
theorem dJx4a65c_grow_92f84_59 : decode cJx4a65c_grow_92f84 59 = .ok (.areturn, 1) := by decide +kernel
theorem dJx4a65c_grow_d5877_0 : decode cJx4a65c_grow_d5877 0 = .ok (.aload_n 0, 1) := by decide +kernel
theorem dJx4a65c_grow_d5877_1 : decode cJx4a65c_grow_d5877 1 = .ok (.aload_n 0, 1) := by decide +kernel
theorem dJx4a65c_grow_d5877_2 : decode cJx4a65c_grow_d5877 2 = .ok (.getfield 48, 3) := by decide +kernel
theorem dJx4a65c_grow_d5877_5 : decode cJx4a65c_grow_d5877 5 = .ok (.iconst 1, 1) := by decide +kernel
theorem dJx4a65c_grow_d5877_6 : decode cJx4a65c_grow_d5877 6 = .ok (.iadd, 1) := by decide +kernel
theorem dJx4a65c_grow_d5877_7 : decode cJx4a65c_grow_d5877 7 = .ok (.invokevirtual 69, 3) := by decide +kernel
theorem dJx4a65c_grow_d5877_10 : decode cJx4a65c_grow_d5877 10 = .ok (.areturn, 1) := by decide +kernel
theorem dJx4a65c_size_8abf5_0 : decode cJx4a65c_size_8abf5 0 = .ok (.aload_n 0, 1) := by decide +kernel
theorem dJx4a65c_size_8abf5_1 : decode cJx4a65c_size_8abf5 1 = .ok (.getfield 48, 3) := by decide +kernel
theorem dJx4a65c_size_8abf5_4 : decode cJx4a65c_size_8abf5 4 = .ok (.ireturn, 1) := by decide +kernel
theorem dJx4a65c_isEmpty_aae02_0 : decode cJx4a65c_isEmpty_aae02 0 = .ok (.aload_n 0, 1) := by decide +kernel
theorem dJx4a65c_isEmpty_aae02_1 : decode cJx4a65c_isEmpty_aae02 1 = .ok (.getfield 48, 3) := by decide +kernel
theorem dJx4a65c_isEmpty_aae02_4 : decode cJx4a65c_isEmpty_aae02 4 = .ok (.ifCond .ne 7, 3) := by decide +kernel
theorem dJx4a65c_isEmpty_aae02_7 : decode cJx4a65c_isEmpty_aae02 7 = .ok (.iconst 1, 1) := by decide +kernel
theorem dJx4a65c_isEmpty_aae02_8 : decode cJx4a65c_isEmpty_aae02 8 = .ok (.goto 4, 3) := by decide +kernel
theorem dJx4a65c_isEmpty_aae02_11 : decode cJx4a65c_isEmpty_aae02 11 = .ok (.iconst 0, 1) := by decide +kernel
theorem dJx4a65c_isEmpty_aae02_12 : decode cJx4a65c_isEmpty_aae02 12 = .ok (.ireturn, 1) := by decide +kernel
theorem dJx4a65c_elementData_915e3_0 : decode cJx4a65c_elementData_915e3 0 = .ok (.aload_n 0, 1) := by decide +kernel
theorem dJx4a65c_elementData_915e3_1 : decode cJx4a65c_elementData_915e3 1 = .ok (.getfield 9, 3) := by decide +kernel
theorem dJx4a65c_elementData_915e3_4 : decode cJx4a65c_elementData_915e3 4 = .ok (.iload_n 1, 1) := by decide +kernel
theorem dJx4a65c_elementData_915e3_5 : decode cJx4a65c_elementData_915e3 5 = .ok (.aaload, 1) := by decide +kernel
theorem dJx4a65c_elementData_915e3_6 : decode cJx4a65c_elementData_915e3 6 = .ok (.areturn, 1) := by decide +kernel
theorem dJx4a65c_get_915e3_0 : decode cJx4a65c_get_915e3 0 = .ok (.iload_n 1, 1) := by decide +kernel
theorem dJx4a65c_get_915e3_1 : decode cJx4a65c_get_915e3 1 = .ok (.aload_n 0, 1) := by decide +kernel
theorem dJx4a65c_get_915e3_2 : decode cJx4a65c_get_915e3 2 = .ok (.getfield 48, 3) := by decide +kernel
theorem dJx4a65c_get_915e3_5 : decode cJx4a65c_get_915e3 5 = .ok (.invokestatic 118, 3) := by decide +kernel
theorem dJx4a65c_get_915e3_8 : decode cJx4a65c_get_915e3 8 = .ok (.pop, 1) := by decide +kernel
theorem dJx4a65c_get_915e3_9 : decode cJx4a65c_get_915e3 9 = .ok (.aload_n 0, 1) := by decide +kernel
theorem dJx4a65c_get_915e3_10 : decode cJx4a65c_get_915e3 10 = .ok (.iload_n 1, 1) := by decide +kernel
theorem dJx4a65c_get_915e3_11 : decode cJx4a65c_get_915e3 11 = .ok (.invokevirtual 123, 3) := by decide +kernel
theorem dJx4a65c_get_915e3_14 : decode cJx4a65c_get_915e3 14 = .ok (.areturn, 1) := by decide +kernel
theorem dJx4a65c_add_72be8_0 : decode cJx4a65c_add_72be8 0 = .ok (.iload_n 3, 1) := by decide +kernel
theorem dJx4a65c_add_72be8_1 : decode cJx4a65c_add_72be8 1 = .ok (.aload_n 2, 1) := by decide +kernel
theorem dJx4a65c_add_72be8_2 : decode cJx4a65c_add_72be8 2 = .ok (.arraylength, 1) := by decide +kernel
theorem dJx4a65c_add_72be8_3 : decode cJx4a65c_add_72be8 3 = .ok (.if_icmp .ne 8, 3) := by decide +kernel
theorem dJx4a65c_add_72be8_6 : decode cJx4a65c_add_72be8 6 = .ok (.aload_n 0, 1) := by decide +kernel
theorem dJx4a65c_add_72be8_7 : decode cJx4a65c_add_72be8 7 = .ok (.invokevirtual 129, 3) := by decide +kernel
theorem dJx4a65c_add_72be8_10 : decode cJx4a65c_add_72be8 10 = .ok (.astore_n 2, 1) := by decide +kernel
theorem dJx4a65c_add_72be8_11 : decode cJx4a65c_add_72be8 11 = .ok (.aload_n 2, 1) := by decide +kernel
theorem dJx4a65c_add_72be8_12 : decode cJx4a65c_add_72be8 12 = .ok (.iload_n 3, 1) := by decide +kernel
theorem dJx4a65c_add_72be8_13 : decode cJx4a65c_add_72be8 13 = .ok (.aload_n 1, 1) := by decide +kernel
theorem dJx4a65c_add_72be8_14 : decode cJx4a65c_add_72be8 14 = .ok (.aastore, 1) := by decide +kernel
theorem dJx4a65c_add_72be8_15 : decode cJx4a65c_add_72be8 15 = .ok (.aload_n 0, 1) := by decide +kernel
theorem dJx4a65c_add_72be8_16 : decode cJx4a65c_add_72be8 16 = .ok (.iload_n 3, 1) := by decide +kernel
theorem dJx4a65c_add_72be8_17 : decode cJx4a65c_add_72be8 17 = .ok (.iconst 1, 1) := by decide +kernel
theorem dJx4a65c_add_72be8_18 : decode cJx4a65c_add_72be8 18 = .ok (.iadd, 1) := by decide +kernel
theorem dJx4a65c_add_72be8_19 : decode cJx4a65c_add_72be8 19 = .ok (.putfield 48, 3) := by decide +kernel
theorem dJx4a65c_add_72be8_22 : decode cJx4a65c_add_72be8 22 = .ok (.return_, 1) := by decide +kernel
theorem dJx4a65c_add_9ea2d_0 : decode cJx4a65c_add_9ea2d 0 = .ok (.aload_n 0, 1) := by decide +kernel
theorem dJx4a65c_add_9ea2d_1 : decode cJx4a65c_add_9ea2d 1 = .ok (.dup, 1) := by decide +kernel
theorem dJx4a65c_add_9ea2d_2 : decode cJx4a65c_add_9ea2d 2 = .ok (.getfield 63, 3) := by decide +kernel
theorem dJx4a65c_add_9ea2d_5 : decode cJx4a65c_add_9ea2d 5 = .ok (.iconst 1, 1) := by decide +kernel
theorem dJx4a65c_add_9ea2d_6 : decode cJx4a65c_add_9ea2d 6 = .ok (.iadd, 1) := by decide +kernel
theorem dJx4a65c_add_9ea2d_7 : decode cJx4a65c_add_9ea2d 7 = .ok (.putfield 63, 3) := by decide +kernel
theorem dJx4a65c_add_9ea2d_10 : decode cJx4a65c_add_9ea2d 10 = .ok (.aload_n 0, 1) := by decide +kernel
theorem dJx4a65c_add_9ea2d_11 : decode cJx4a65c_add_9ea2d 11 = .ok (.aload_n 1, 1) := by decide +kernel
theorem dJx4a65c_add_9ea2d_12 : decode cJx4a65c_add_9ea2d 12 = .ok (.aload_n 0, 1) := by decide +kernel
theorem dJx4a65c_add_9ea2d_13 : decode cJx4a65c_add_9ea2d 13 = .ok (.getfield 9, 3) := by decide +kernel
theorem dJx4a65c_add_9ea2d_16 : decode cJx4a65c_add_9ea2d 16 = .ok (.aload_n 0, 1) := by decide +kernel
theorem dJx4a65c_add_9ea2d_17 : decode cJx4a65c_add_9ea2d 17 = .ok (.getfield 48, 3) := by decide +kernel
theorem dJx4a65c_add_9ea2d_20 : decode cJx4a65c_add_9ea2d 20 = .ok (.invokevirtual 131, 3) := by decide +kernel
theorem dJx4a65c_add_9ea2d_23 : decode cJx4a65c_add_9ea2d 23 = .ok (.iconst 1, 1) := by decide +kernel
theorem dJx4a65c_add_9ea2d_24 : decode cJx4a65c_add_9ea2d 24 = .ok (.ireturn, 1) := by decide +kernel
theorem dJx4a65c_add_7a177_0 : decode cJx4a65c_add_7a177 0 = .ok (.aload_n 0, 1) := by decide +kernel
theorem dJx4a65c_add_7a177_1 : decode cJx4a65c_add_7a177 1 = .ok (.iload_n 1, 1) := by decide +kernel
theorem dJx4a65c_add_7a177_2 : decode cJx4a65c_add_7a177 2 = .ok (.invokevirtual 135, 3) := by decide +kernel
theorem dJx4a65c_add_7a177_5 : decode cJx4a65c_add_7a177 5 = .ok (.aload_n 0, 1) := by decide +kernel
theorem dJx4a65c_add_7a177_6 : decode cJx4a65c_add_7a177 6 = .ok (.dup, 1) := by decide +kernel
theorem dJx4a65c_add_7a177_7 : decode cJx4a65c_add_7a177 7 = .ok (.getfield 63, 3) := by decide +kernel
theorem dJx4a65c_add_7a177_10 : decode cJx4a65c_add_7a177 10 = .ok (.iconst 1, 1) := by decide +kernel
theorem dJx4a65c_add_7a177_11 : decode cJx4a65c_add_7a177 11 = .ok (.iadd, 1) := by decide +kernel
theorem dJx4a65c_add_7a177_12 : decode cJx4a65c_add_7a177 12 = .ok (.putfield 63, 3) := by decide +kernel
theorem dJx4a65c_add_7a177_15 : decode cJx4a65c_add_7a177 15 = .ok (.aload_n 0, 1) := by decide +kernel
theorem dJx4a65c_add_7a177_16 : decode cJx4a65c_add_7a177 16 = .ok (.getfield 48, 3) := by decide +kernel
theorem dJx4a65c_add_7a177_19 : decode cJx4a65c_add_7a177 19 = .ok (.dup, 1) := by decide +kernel
theorem dJx4a65c_add_7a177_20 : decode cJx4a65c_add_7a177 20 = .ok (.istore_n 3, 1) := by decide +kernel
theorem dJx4a65c_add_7a177_21 : decode cJx4a65c_add_7a177 21 = .ok (.aload_n 0, 1) := by decide +kernel
theorem dJx4a65c_add_7a177_22 : decode cJx4a65c_add_7a177 22 = .ok (.getfield 9, 3) := by decide +kernel
theorem dJx4a65c_add_7a177_25 : decode cJx4a65c_add_7a177 25 = .ok (.dup, 1) := by decide +kernel
theorem dJx4a65c_add_7a177_26 : decode cJx4a65c_add_7a177 26 = .ok (.astore 4, 2) := by decide +kernel
theorem dJx4a65c_add_7a177_28 : decode cJx4a65c_add_7a177 28 = .ok (.arraylength, 1) := by decide +kernel
theorem dJx4a65c_add_7a177_29 : decode cJx4a65c_add_7a177 29 = .ok (.if_icmp .ne 9, 3) := by decide +kernel
theorem dJx4a65c_add_7a177_32 : decode cJx4a65c_add_7a177 32 = .ok (.aload_n 0, 1) := by decide +kernel
theorem dJx4a65c_add_7a177_33 : decode cJx4a65c_add_7a177 33 = .ok (.invokevirtual 129, 3) := by decide +kernel
theorem dJx4a65c_add_7a177_36 : decode cJx4a65c_add_7a177 36 = .ok (.astore 4, 2) := by decide +kernel
theorem dJx4a65c_add_7a177_38 : decode cJx4a65c_add_7a177 38 = .ok (.aload 4, 2) := by decide +kernel
theorem dJx4a65c_add_7a177_40 : decode cJx4a65c_add_7a177 40 = .ok (.iload_n 1, 1) := by decide +kernel
theorem dJx4a65c_add_7a177_41 : decode cJx4a65c_add_7a177 41 = .ok (.aload 4, 2) := by decide +kernel
theorem dJx4a65c_add_7a177_43 : decode cJx4a65c_add_7a177 43 = .ok (.iload_n 1, 1) := by decide +kernel
theorem dJx4a65c_add_7a177_44 : decode cJx4a65c_add_7a177 44 = .ok (.iconst 1, 1) := by decide +kernel
theorem dJx4a65c_add_7a177_45 : decode cJx4a65c_add_7a177 45 = .ok (.iadd, 1) := by decide +kernel
theorem dJx4a65c_add_7a177_46 : decode cJx4a65c_add_7a177 46 = .ok (.iload_n 3, 1) := by decide +kernel
theorem dJx4a65c_add_7a177_47 : decode cJx4a65c_add_7a177 47 = .ok (.iload_n 1, 1) := by decide +kernel
theorem dJx4a65c_add_7a177_48 : decode cJx4a65c_add_7a177 48 = .ok (.isub, 1) := by decide +kernel
theorem dJx4a65c_add_7a177_49 : decode cJx4a65c_add_7a177 49 = .ok (.invokestatic 112, 3) := by decide +kernel
theorem dJx4a65c_add_7a177_52 : decode cJx4a65c_add_7a177 52 = .ok (.aload 4, 2) := by decide +kernel
theorem dJx4a65c_add_7a177_54 : decode cJx4a65c_add_7a177 54 = .ok (.iload_n 1, 1) := by decide +kernel
theorem dJx4a65c_add_7a177_55 : decode cJx4a65c_add_7a177 55 = .ok (.aload_n 2, 1) := by decide +kernel
theorem dJx4a65c_add_7a177_56 : decode cJx4a65c_add_7a177 56 = .ok (.aastore, 1) := by decide +kernel
theorem dJx4a65c_add_7a177_57 : decode cJx4a65c_add_7a177 57 = .ok (.aload_n 0, 1) := by decide +kernel
theorem dJx4a65c_add_7a177_58 : decode cJx4a65c_add_7a177 58 = .ok (.iload_n 3, 1) := by decide +kernel
theorem dJx4a65c_add_7a177_59 : decode cJx4a65c_add_7a177 59 = .ok (.iconst 1, 1) := by decide +kernel
theorem dJx4a65c_add_7a177_60 : decode cJx4a65c_add_7a177 60 = .ok (.iadd, 1) := by decide +kernel
theorem dJx4a65c_add_7a177_61 : decode cJx4a65c_add_7a177 61 = .ok (.putfield 48, 3) := by decide +kernel
theorem dJx4a65c_add_7a177_64 : decode cJx4a65c_add_7a177 64 = .ok (.return_, 1) := by decide +kernel
theorem dJx4a65c_remove_915e3_0 : decode cJx4a65c_remove_915e3 0 = .ok (.iload_n 1, 1) := by decide +kernel
theorem dJx4a65c_remove_915e3_1 : decode cJx4a65c_remove_915e3 1 = .ok (.aload_n 0, 1) := by decide +kernel
theorem dJx4a65c_remove_915e3_2 : decode cJx4a65c_remove_915e3 2 = .ok (.getfield 48, 3) := by decide +kernel
theorem dJx4a65c_remove_915e3_5 : decode cJx4a65c_remove_915e3 5 = .ok (.invokestatic 118, 3) := by decide +kernel
theorem dJx4a65c_remove_915e3_8 : decode cJx4a65c_remove_915e3 8 = .ok (.pop, 1) := by decide +kernel
theorem dJx4a65c_remove_915e3_9 : decode cJx4a65c_remove_915e3 9 = .ok (.aload_n 0, 1) := by decide +kernel
theorem dJx4a65c_remove_915e3_10 : decode cJx4a65c_remove_915e3 10 = .ok (.getfield 9, 3) := by decide +kernel
theorem dJx4a65c_remove_915e3_13 : decode cJx4a65c_remove_915e3 13 = .ok (.astore_n 2, 1) := by decide +kernel
theorem dJx4a65c_remove_915e3_14 : decode cJx4a65c_remove_915e3 14 = .ok (.aload_n 2, 1) := by decide +kernel
theorem dJx4a65c_remove_915e3_15 : decode cJx4a65c_remove_915e3 15 = .ok (.iload_n 1, 1) := by decide +kernel
theorem dJx4a65c_remove_915e3_16 : decode cJx4a65c_remove_915e3 16 = .ok (.aaload, 1) := by decide +kernel
theorem dJx4a65c_remove_915e3_17 : decode cJx4a65c_remove_915e3 17 = .ok (.astore_n 3, 1) := by decide +kernel
theorem dJx4a65c_remove_915e3_18 : decode cJx4a65c_remove_915e3 18 = .ok (.aload_n 0, 1) := by decide +kernel
theorem dJx4a65c_remove_915e3_19 : decode cJx4a65c_remove_915e3 19 = .ok (.aload_n 2, 1) := by decide +kernel
theorem dJx4a65c_remove_915e3_20 : decode cJx4a65c_remove_915e3 20 = .ok (.iload_n 1, 1) := by decide +kernel
theorem dJx4a65c_remove_915e3_21 : decode cJx4a65c_remove_915e3 21 = .ok (.invokevirtual 144, 3) := by decide +kernel
theorem dJx4a65c_remove_915e3_24 : decode cJx4a65c_remove_915e3 24 = .ok (.aload_n 3, 1) := by decide +kernel
theorem dJx4a65c_remove_915e3_25 : decode cJx4a65c_remove_915e3 25 = .ok (.areturn, 1) := by decide +kernel
theorem dJx4a65c_fastRemove_b59b0_0 : decode cJx4a65c_fastRemove_b59b0 0 = .ok (.aload_n 0, 1) := by decide +kernel
theorem dJx4a65c_fastRemove_b59b0_1 : decode cJx4a65c_fastRemove_b59b0 1 = .ok (.dup, 1) := by decide +kernel
theorem dJx4a65c_fastRemove_b59b0_2 : decode cJx4a65c_fastRemove_b59b0 2 = .ok (.getfield 63, 3) := by decide +kernel
theorem dJx4a65c_fastRemove_b59b0_5 : decode cJx4a65c_fastRemove_b59b0 5 = .ok (.iconst 1, 1) := by decide +kernel
theorem dJx4a65c_fastRemove_b59b0_6 : decode cJx4a65c_fastRemove_b59b0 6 = .ok (.iadd, 1) := by decide +kernel
theorem dJx4a65c_fastRemove_b59b0_7 : decode cJx4a65c_fastRemove_b59b0 7 = .ok (.putfield 63, 3) := by decide +kernel
theorem dJx4a65c_fastRemove_b59b0_10 : decode cJx4a65c_fastRemove_b59b0 10 = .ok (.aload_n 0, 1) := by decide +kernel
theorem dJx4a65c_fastRemove_b59b0_11 : decode cJx4a65c_fastRemove_b59b0 11 = .ok (.getfield 48, 3) := by decide +kernel
theorem dJx4a65c_fastRemove_b59b0_14 : decode cJx4a65c_fastRemove_b59b0 14 = .ok (.iconst 1, 1) := by decide +kernel
theorem dJx4a65c_fastRemove_b59b0_15 : decode cJx4a65c_fastRemove_b59b0 15 = .ok (.isub, 1) := by decide +kernel
theorem dJx4a65c_fastRemove_b59b0_16 : decode cJx4a65c_fastRemove_b59b0 16 = .ok (.dup, 1) := by decide +kernel
theorem dJx4a65c_fastRemove_b59b0_17 : decode cJx4a65c_fastRemove_b59b0 17 = .ok (.istore_n 3, 1) := by decide +kernel
theorem dJx4a65c_fastRemove_b59b0_18 : decode cJx4a65c_fastRemove_b59b0 18 = .ok (.iload_n 2, 1) := by decide +kernel
theorem dJx4a65c_fastRemove_b59b0_19 : decode cJx4a65c_fastRemove_b59b0 19 = .ok (.if_icmp .le 15, 3) := by decide +kernel
theorem dJx4a65c_fastRemove_b59b0_22 : decode cJx4a65c_fastRemove_b59b0 22 = .ok (.aload_n 1, 1) := by decide +kernel
theorem dJx4a65c_fastRemove_b59b0_23 : decode cJx4a65c_fastRemove_b59b0 23 = .ok (.iload_n 2, 1) := by decide +kernel
theorem dJx4a65c_fastRemove_b59b0_24 : decode cJx4a65c_fastRemove_b59b0 24 = .ok (.iconst 1, 1) := by decide +kernel
theorem dJx4a65c_fastRemove_b59b0_25 : decode cJx4a65c_fastRemove_b59b0 25 = .ok (.iadd, 1) := by decide +kernel
theorem dJx4a65c_fastRemove_b59b0_26 : decode cJx4a65c_fastRemove_b59b0 26 = .ok (.aload_n 1, 1) := by decide +kernel
theorem dJx4a65c_fastRemove_b59b0_27 : decode cJx4a65c_fastRemove_b59b0 27 = .ok (.iload_n 2, 1) := by decide +kernel
theorem dJx4a65c_fastRemove_b59b0_28 : decode cJx4a65c_fastRemove_b59b0 28 = .ok (.iload_n 3, 1) := by decide +kernel
theorem dJx4a65c_fastRemove_b59b0_29 : decode cJx4a65c_fastRemove_b59b0 29 = .ok (.iload_n 2, 1) := by decide +kernel
theorem dJx4a65c_fastRemove_b59b0_30 : decode cJx4a65c_fastRemove_b59b0 30 = .ok (.isub, 1) := by decide +kernel
theorem dJx4a65c_fastRemove_b59b0_31 : decode cJx4a65c_fastRemove_b59b0 31 = .ok (.invokestatic 112, 3) := by decide +kernel
theorem dJx4a65c_fastRemove_b59b0_34 : decode cJx4a65c_fastRemove_b59b0 34 = .ok (.aload_n 1, 1) := by decide +kernel
theorem dJx4a65c_fastRemove_b59b0_35 : decode cJx4a65c_fastRemove_b59b0 35 = .ok (.aload_n 0, 1) := by decide +kernel
theorem dJx4a65c_fastRemove_b59b0_36 : decode cJx4a65c_fastRemove_b59b0 36 = .ok (.iload_n 3, 1) := by decide +kernel
theorem dJx4a65c_fastRemove_b59b0_37 : decode cJx4a65c_fastRemove_b59b0 37 = .ok (.dup_x1, 1) := by decide +kernel
theorem dJx4a65c_fastRemove_b59b0_38 : decode cJx4a65c_fastRemove_b59b0 38 = .ok (.putfield 48, 3) := by decide +kernel
theorem dJx4a65c_fastRemove_b59b0_41 : decode cJx4a65c_fastRemove_b59b0 41 = .ok (.aconst_null, 1) := by decide +kernel
theorem dJx4a65c_fastRemove_b59b0_42 : decode cJx4a65c_fastRemove_b59b0 42 = .ok (.aastore, 1) := by decide +kernel
theorem dJx4a65c_fastRemove_b59b0_43 : decode cJx4a65c_fastRemove_b59b0 43 = .ok (.return_, 1) := by decide +kernel
theorem dJx4a65c_rangeCheckForAdd_d00df_0 : decode cJx4a65c_rangeCheckForAdd_d00df 0 = .ok (.iload_n 1, 1) := by decide +kernel
theorem dJx4a65c_rangeCheckForAdd_d00df_1 : decode cJx4a65c_rangeCheckForAdd_d00df 1 = .ok (.aload_n 0, 1) := by decide +kernel
theorem dJx4a65c_rangeCheckForAdd_d00df_2 : decode cJx4a65c_rangeCheckForAdd_d00df 2 = .ok (.getfield 48, 3) := by decide +kernel
theorem dJx4a65c_rangeCheckForAdd_d00df_5 : decode cJx4a65c_rangeCheckForAdd_d00df 5 = .ok (.if_icmp .gt 7, 3) := by decide +kernel
theorem dJx4a65c_rangeCheckForAdd_d00df_8 : decode cJx4a65c_rangeCheckForAdd_d00df 8 = .ok (.iload_n 1, 1) := by decide +kernel
theorem dJx4a65c_rangeCheckForAdd_d00df_9 : decode cJx4a65c_rangeCheckForAdd_d00df 9 = .ok (.ifCond .ge 16, 3) := by decide +kernel
theorem dJx4a65c_rangeCheckForAdd_d00df_12 : decode cJx4a65c_rangeCheckForAdd_d00df 12 = .ok (.new 187, 3) := by decide +kernel
theorem dJx4a65c_rangeCheckForAdd_d00df_15 : decode cJx4a65c_rangeCheckForAdd_d00df 15 = .ok (.dup, 1) := by decide +kernel
theorem dJx4a65c_rangeCheckForAdd_d00df_16 : decode cJx4a65c_rangeCheckForAdd_d00df 16 = .ok (.aload_n 0, 1) := by decide +kernel
theorem dJx4a65c_rangeCheckForAdd_d00df_17 : decode cJx4a65c_rangeCheckForAdd_d00df 17 = .ok (.iload_n 1, 1) := by decide +kernel
theorem dJx4a65c_rangeCheckForAdd_d00df_18 : decode cJx4a65c_rangeCheckForAdd_d00df 18 = .ok (.invokevirtual 198, 3) := by decide +kernel
theorem dJx4a65c_rangeCheckForAdd_d00df_21 : decode cJx4a65c_rangeCheckForAdd_d00df 21 = .ok (.invokespecial 193, 3) := by decide +kernel
theorem dJx4a65c_rangeCheckForAdd_d00df_24 : decode cJx4a65c_rangeCheckForAdd_d00df 24 = .ok (.athrow, 1) := by decide +kernel
theorem dJx4a65c_rangeCheckForAdd_d00df_25 : decode cJx4a65c_rangeCheckForAdd_d00df 25 = .ok (.return_, 1) := by decide +kernel
theorem dJx4a65c_outOfBoundsMsg_b52d3_0 : decode cJx4a65c_outOfBoundsMsg_b52d3 0 = .ok (.new 20, 3) := by decide +kernel
theorem dJx4a65c_outOfBoundsMsg_b52d3_3 : decode cJx4a65c_outOfBoundsMsg_b52d3 3 = .ok (.dup, 1) := by decide +kernel
theorem dJx4a65c_outOfBoundsMsg_b52d3_4 : decode cJx4a65c_outOfBoundsMsg_b52d3 4 = .ok (.invokespecial 22, 3) := by decide +kernel
theorem dJx4a65c_outOfBoundsMsg_b52d3_7 : decode cJx4a65c_outOfBoundsMsg_b52d3 7 = .ok (.ldc 201, 2) := by decide +kernel
theorem dJx4a65c_outOfBoundsMsg_b52d3_9 : decode cJx4a65c_outOfBoundsMsg_b52d3 9 = .ok (.invokevirtual 25, 3) := by decide +kernel
theorem dJx4a65c_outOfBoundsMsg_b52d3_12 : decode cJx4a65c_outOfBoundsMsg_b52d3 12 = .ok (.iload_n 1, 1) := by decide +kernel
theorem dJx4a65c_outOfBoundsMsg_b52d3_13 : decode cJx4a65c_outOfBoundsMsg_b52d3 13 = .ok (.invokevirtual 29, 3) := by decide +kernel
theorem dJx4a65c_outOfBoundsMsg_b52d3_16 : decode cJx4a65c_outOfBoundsMsg_b52d3 16 = .ok (.ldc 203, 2) := by decide +kernel
theorem dJx4a65c_outOfBoundsMsg_b52d3_18 : decode cJx4a65c_outOfBoundsMsg_b52d3 18 = .ok (.invokevirtual 25, 3) := by decide +kernel
theorem dJx4a65c_outOfBoundsMsg_b52d3_21 : decode cJx4a65c_outOfBoundsMsg_b52d3 21 = .ok (.aload_n 0, 1) := by decide +kernel
theorem dJx4a65c_outOfBoundsMsg_b52d3_22 : decode cJx4a65c_outOfBoundsMsg_b52d3 22 = .ok (.getfield 48, 3) := by decide +kernel
theorem dJx4a65c_outOfBoundsMsg_b52d3_25 : decode cJx4a65c_outOfBoundsMsg_b52d3 25 = .ok (.invokevirtual 29, 3) := by decide +kernel
theorem dJx4a65c_outOfBoundsMsg_b52d3_28 : decode cJx4a65c_outOfBoundsMsg_b52d3 28 = .ok (.invokevirtual 32, 3) := by decide +kernel
theorem dJx4a65c_outOfBoundsMsg_b52d3_31 : decode cJx4a65c_outOfBoundsMsg_b52d3 31 = .ok (.areturn, 1) := by decide +kernel
theorem dJ7_fill_53178_0 : decode cJ7_fill_53178 0 = .ok (.iconst 0, 1) := by decide +kernel
theorem dJ7_fill_53178_1 : decode cJ7_fill_53178 1 = .ok (.istore_n 2, 1) := by decide +kernel
theorem dJ7_fill_53178_2 : decode cJ7_fill_53178 2 = .ok (.aload_n 0, 1) := by decide +kernel
theorem dJ7_fill_53178_3 : decode cJ7_fill_53178 3 = .ok (.arraylength, 1) := by decide +kernel
theorem dJ7_fill_53178_4 : decode cJ7_fill_53178 4 = .ok (.istore_n 3, 1) := by decide +kernel
theorem dJ7_fill_53178_5 : decode cJ7_fill_53178 5 = .ok (.iload_n 2, 1) := by decide +kernel
theorem dJ7_fill_53178_6 : decode cJ7_fill_53178 6 = .ok (.iload_n 3, 1) := by decide +kernel
theorem dJ7_fill_53178_7 : decode cJ7_fill_53178 7 = .ok (.if_icmp .ge 13, 3) := by decide +kernel
theorem dJ7_fill_53178_10 : decode cJ7_fill_53178 10 = .ok (.aload_n 0, 1) := by decide +kernel
theorem dJ7_fill_53178_11 : decode cJ7_fill_53178 11 = .ok (.iload_n 2, 1) := by decide +kernel
theorem dJ7_fill_53178_12 : decode cJ7_fill_53178 12 = .ok (.iload_n 1, 1) := by decide +kernel
theorem dJ7_fill_53178_13 : decode cJ7_fill_53178 13 = .ok (.iastore, 1) := by decide +kernel
theorem dJ7_fill_53178_14 : decode cJ7_fill_53178 14 = .ok (.iinc 2 1, 3) := by decide +kernel
theorem dJ7_fill_53178_17 : decode cJ7_fill_53178 17 = .ok (.goto (-12), 3) := by decide +kernel
theorem dJ7_fill_53178_20 : decode cJ7_fill_53178 20 = .ok (.return_, 1) := by decide +kernel
theorem dJ7_copyOf_1904c_0 : decode cJ7_copyOf_1904c 0 = .ok (.aload_n 0, 1) := by decide +kernel
theorem dJ7_copyOf_1904c_1 : decode cJ7_copyOf_1904c 1 = .ok (.iload_n 1, 1) := by decide +kernel
theorem dJ7_copyOf_1904c_2 : decode cJ7_copyOf_1904c 2 = .ok (.aload_n 0, 1) := by decide +kernel
theorem dJ7_copyOf_1904c_3 : decode cJ7_copyOf_1904c 3 = .ok (.invokevirtual 86, 3) := by decide +kernel
theorem dJ7_copyOf_1904c_6 : decode cJ7_copyOf_1904c 6 = .ok (.invokestatic 300, 3) := by decide +kernel
theorem dJ7_copyOf_1904c_9 : decode cJ7_copyOf_1904c 9 = .ok (.areturn, 1) := by decide +kernel
theorem dJ7_copyOf_6403c_0 : decode cJ7_copyOf_6403c 0 = .ok (.aload_n 2, 1) := by decide +kernel
theorem dJ7_copyOf_6403c_1 : decode cJ7_copyOf_6403c 1 = .ok (.ldc 110, 2) := by decide +kernel
theorem dJ7_copyOf_6403c_3 : decode cJ7_copyOf_6403c 3 = .ok (.if_acmp .ne 10, 3) := by decide +kernel
theorem dJ7_copyOf_6403c_6 : decode cJ7_copyOf_6403c 6 = .ok (.iload_n 1, 1) := by decide +kernel
theorem dJ7_copyOf_6403c_7 : decode cJ7_copyOf_6403c 7 = .ok (.anewarray 2, 3) := by decide +kernel
theorem dJ7_copyOf_6403c_10 : decode cJ7_copyOf_6403c 10 = .ok (.goto 14, 3) := by decide +kernel
theorem dJ7_copyOf_6403c_13 : decode cJ7_copyOf_6403c 13 = .ok (.aload_n 2, 1) := by decide +kernel
theorem dJ7_copyOf_6403c_14 : decode cJ7_copyOf_6403c 14 = .ok (.invokevirtual 90, 3) := by decide +kernel
theorem dJ7_copyOf_6403c_17 : decode cJ7_copyOf_6403c 17 = .ok (.iload_n 1, 1) := by decide +kernel
theorem dJ7_copyOf_6403c_18 : decode cJ7_copyOf_6403c 18 = .ok (.invokestatic 95, 3) := by decide +kernel
theorem dJ7_copyOf_6403c_21 : decode cJ7_copyOf_6403c 21 = .ok (.checkcast 110, 3) := by decide +kernel
theorem dJ7_copyOf_6403c_24 : decode cJ7_copyOf_6403c 24 = .ok (.astore_n 3, 1) := by decide +kernel
theorem dJ7_copyOf_6403c_25 : decode cJ7_copyOf_6403c 25 = .ok (.aload_n 0, 1) := by decide +kernel
theorem dJ7_copyOf_6403c_26 : decode cJ7_copyOf_6403c 26 = .ok (.iconst 0, 1) := by decide +kernel
theorem dJ7_copyOf_6403c_27 : decode cJ7_copyOf_6403c 27 = .ok (.aload_n 3, 1) := by decide +kernel
theorem dJ7_copyOf_6403c_28 : decode cJ7_copyOf_6403c 28 = .ok (.iconst 0, 1) := by decide +kernel
theorem dJ7_copyOf_6403c_29 : decode cJ7_copyOf_6403c 29 = .ok (.aload_n 0, 1) := by decide +kernel
theorem dJ7_copyOf_6403c_30 : decode cJ7_copyOf_6403c 30 = .ok (.arraylength, 1) := by decide +kernel
theorem dJ7_copyOf_6403c_31 : decode cJ7_copyOf_6403c 31 = .ok (.iload_n 1, 1) := by decide +kernel
theorem dJ7_copyOf_6403c_32 : decode cJ7_copyOf_6403c 32 = .ok (.invokestatic 304, 3) := by decide +kernel
theorem dJ7_copyOf_6403c_35 : decode cJ7_copyOf_6403c 35 = .ok (.invokestatic 150, 3) := by decide +kernel
theorem dJ7_copyOf_6403c_38 : decode cJ7_copyOf_6403c 38 = .ok (.aload_n 3, 1) := by decide +kernel
theorem dJ7_copyOf_6403c_39 : decode cJ7_copyOf_6403c 39 = .ok (.areturn, 1) := by decide +kernel
theorem dJ15_checkIndex_7cf53_0 : decode cJ15_checkIndex_7cf53 0 = .ok (.iload_n 0, 1) := by decide +kernel
theorem dJ15_checkIndex_7cf53_1 : decode cJ15_checkIndex_7cf53 1 = .ok (.iload_n 1, 1) := by decide +kernel
theorem dJ15_checkIndex_7cf53_2 : decode cJ15_checkIndex_7cf53 2 = .ok (.aconst_null, 1) := by decide +kernel
theorem dJ15_checkIndex_7cf53_3 : decode cJ15_checkIndex_7cf53 3 = .ok (.invokestatic 105, 3) := by decide +kernel
theorem dJ15_checkIndex_7cf53_6 : decode cJ15_checkIndex_7cf53 6 = .ok (.ireturn, 1) := by decide +kernel
theorem dJ8_newLength_cabcc_0 : decode cJ8_newLength_cabcc 0 = .ok (.iload_n 0, 1) := by decide +kernel
theorem dJ8_newLength_cabcc_1 : decode cJ8_newLength_cabcc 1 = .ok (.iload_n 1, 1) := by decide +kernel
theorem dJ8_newLength_cabcc_2 : decode cJ8_newLength_cabcc 2 = .ok (.iload_n 2, 1) := by decide +kernel
theorem dJ8_newLength_cabcc_3 : decode cJ8_newLength_cabcc 3 = .ok (.invokestatic 194, 3) := by decide +kernel
theorem dJ8_newLength_cabcc_6 : decode cJ8_newLength_cabcc 6 = .ok (.iadd, 1) := by decide +kernel
theorem dJ8_newLength_cabcc_7 : decode cJ8_newLength_cabcc 7 = .ok (.istore_n 3, 1) := by decide +kernel
theorem dJ8_newLength_cabcc_8 : decode cJ8_newLength_cabcc 8 = .ok (.iconst 0, 1) := by decide +kernel
theorem dJ8_newLength_cabcc_9 : decode cJ8_newLength_cabcc 9 = .ok (.iload_n 3, 1) := by decide +kernel
theorem dJ8_newLength_cabcc_10 : decode cJ8_newLength_cabcc 10 = .ok (.if_icmp .ge 11, 3) := by decide +kernel
theorem dJ8_newLength_cabcc_13 : decode cJ8_newLength_cabcc 13 = .ok (.iload_n 3, 1) := by decide +kernel
theorem dJ8_newLength_cabcc_14 : decode cJ8_newLength_cabcc 14 = .ok (.ldc 200, 2) := by decide +kernel
theorem dJ8_newLength_cabcc_16 : decode cJ8_newLength_cabcc 16 = .ok (.if_icmp .gt 5, 3) := by decide +kernel
theorem dJ8_newLength_cabcc_19 : decode cJ8_newLength_cabcc 19 = .ok (.iload_n 3, 1) := by decide +kernel
theorem dJ8_newLength_cabcc_20 : decode cJ8_newLength_cabcc 20 = .ok (.ireturn, 1) := by decide +kernel
theorem dJ8_newLength_cabcc_21 : decode cJ8_newLength_cabcc 21 = .ok (.iload_n 0, 1) := by decide +kernel
theorem dJ8_newLength_cabcc_22 : decode cJ8_newLength_cabcc 22 = .ok (.iload_n 1, 1) := by decide +kernel
theorem dJ8_newLength_cabcc_23 : decode cJ8_newLength_cabcc 23 = .ok (.invokestatic 201, 3) := by decide +kernel
theorem dJ8_newLength_cabcc_26 : decode cJ8_newLength_cabcc 26 = .ok (.ireturn, 1) := by decide +kernel
theorem dJ3_checkIndex_8e157_0 : decode cJ3_checkIndex_8e157 0 = .ok (.iload_n 0, 1) := by decide +kernel
theorem dJ3_checkIndex_8e157_1 : decode cJ3_checkIndex_8e157 1 = .ok (.ifCond .lt 8, 3) := by decide +kernel
theorem dJ3_checkIndex_8e157_4 : decode cJ3_checkIndex_8e157 4 = .ok (.iload_n 0, 1) := by decide +kernel
theorem dJ3_checkIndex_8e157_5 : decode cJ3_checkIndex_8e157 5 = .ok (.iload_n 1, 1) := by decide +kernel
theorem dJ3_checkIndex_8e157_6 : decode cJ3_checkIndex_8e157 6 = .ok (.if_icmp .lt 10, 3) := by decide +kernel
theorem dJ3_checkIndex_8e157_9 : decode cJ3_checkIndex_8e157 9 = .ok (.aload_n 2, 1) := by decide +kernel
theorem dJ3_checkIndex_8e157_10 : decode cJ3_checkIndex_8e157 10 = .ok (.iload_n 0, 1) := by decide +kernel
theorem dJ3_checkIndex_8e157_11 : decode cJ3_checkIndex_8e157 11 = .ok (.iload_n 1, 1) := by decide +kernel
theorem dJ3_checkIndex_8e157_12 : decode cJ3_checkIndex_8e157 12 = .ok (.invokestatic 95, 3) := by decide +kernel
theorem dJ3_checkIndex_8e157_15 : decode cJ3_checkIndex_8e157 15 = .ok (.athrow, 1) := by decide +kernel
theorem dJ3_checkIndex_8e157_16 : decode cJ3_checkIndex_8e157 16 = .ok (.iload_n 0, 1) := by decide +kernel
theorem dJ3_checkIndex_8e157_17 : decode cJ3_checkIndex_8e157 17 = .ok (.ireturn, 1) := by decide +kernel
theorem dL_pin_0 : decode cL_pin 0 = .ok (.aload_n 1, 1) := by decide +kernel
theorem dL_pin_1 : decode cL_pin 1 = .ok (.iconst 0, 1) := by decide +kernel
theorem dL_pin_2 : decode cL_pin 2 = .ok (.aload_n 0, 1) := by decide +kernel
theorem dL_pin_3 : decode cL_pin 3 = .ok (.invokevirtual 7, 3) := by decide +kernel
theorem dL_pin_6 : decode cL_pin 6 = .ok (.i2l, 1) := by decide +kernel
theorem dL_pin_7 : decode cL_pin 7 = .ok (.lastore, 1) := by decide +kernel
theorem dL_pin_8 : decode cL_pin 8 = .ok (.goto 6, 3) := by decide +kernel
theorem dL_pin_11 : decode cL_pin 11 = .ok (.astore_n 2, 1) := by decide +kernel
theorem dL_pin_12 : decode cL_pin 12 = .ok (.iconst 1, 1) := by decide +kernel
theorem dL_pin_13 : decode cL_pin 13 = .ok (.ireturn, 1) := by decide +kernel
theorem dL_pin_14 : decode cL_pin 14 = .ok (.iconst 0, 1) := by decide +kernel
theorem dL_pin_15 : decode cL_pin 15 = .ok (.ireturn, 1) := by decide +kernel
theorem dL_arc_0 : decode cL_arc 0 = .ok (.aload 5, 2) := by decide +kernel
theorem dL_arc_2 : decode cL_arc 2 = .ok (.iconst 0, 1) := by decide +kernel
theorem dL_arc_3 : decode cL_arc 3 = .ok (.aload_n 0, 1) := by decide +kernel
theorem dL_arc_4 : decode cL_arc 4 = .ok (.iload_n 1, 1) := by decide +kernel
theorem dL_arc_5 : decode cL_arc 5 = .ok (.iload_n 2, 1) := by decide +kernel
theorem dL_arc_6 : decode cL_arc 6 = .ok (.dload_n 3, 1) := by decide +kernel
theorem dL_arc_7 : decode cL_arc 7 = .ok (.invokevirtual 15, 3) := by decide +kernel
theorem dL_arc_10 : decode cL_arc 10 = .ok (.i2l, 1) := by decide +kernel
theorem dL_arc_11 : decode cL_arc 11 = .ok (.lastore, 1) := by decide +kernel
theorem dL_arc_12 : decode cL_arc 12 = .ok (.goto 15, 3) := by decide +kernel
theorem dL_arc_15 : decode cL_arc 15 = .ok (.astore 6, 2) := by decide +kernel
theorem dL_arc_17 : decode cL_arc 17 = .ok (.iconst 1, 1) := by decide +kernel
theorem dL_arc_18 : decode cL_arc 18 = .ok (.ireturn, 1) := by decide +kernel
theorem dL_arc_19 : decode cL_arc 19 = .ok (.astore 6, 2) := by decide +kernel
theorem dL_arc_21 : decode cL_arc 21 = .ok (.iconst 2, 1) := by decide +kernel
theorem dL_arc_22 : decode cL_arc 22 = .ok (.ireturn, 1) := by decide +kernel
theorem dL_arc_23 : decode cL_arc 23 = .ok (.astore 6, 2) := by decide +kernel
theorem dL_arc_25 : decode cL_arc 25 = .ok (.iconst 3, 1) := by decide +kernel
theorem dL_arc_26 : decode cL_arc 26 = .ok (.ireturn, 1) := by decide +kernel
theorem dL_arc_27 : decode cL_arc 27 = .ok (.iconst 0, 1) := by decide +kernel
theorem dL_arc_28 : decode cL_arc 28 = .ok (.ireturn, 1) := by decide +kernel
theorem dL_end_0 : decode cL_end 0 = .ok (.aload 4, 2) := by decide +kernel
theorem dL_end_2 : decode cL_end 2 = .ok (.iconst 0, 1) := by decide +kernel
theorem dL_end_3 : decode cL_end 3 = .ok (.aload_n 0, 1) := by decide +kernel
theorem dL_end_4 : decode cL_end 4 = .ok (.iload_n 1, 1) := by decide +kernel
theorem dL_end_5 : decode cL_end 5 = .ok (.dload_n 2, 1) := by decide +kernel
theorem dL_end_6 : decode cL_end 6 = .ok (.invokevirtual 23, 3) := by decide +kernel
theorem dL_end_9 : decode cL_end 9 = .ok (.i2l, 1) := by decide +kernel
theorem dL_end_10 : decode cL_end 10 = .ok (.lastore, 1) := by decide +kernel
theorem dL_end_11 : decode cL_end 11 = .ok (.goto 15, 3) := by decide +kernel
theorem dL_end_14 : decode cL_end 14 = .ok (.astore 5, 2) := by decide +kernel
theorem dL_end_16 : decode cL_end 16 = .ok (.iconst 1, 1) := by decide +kernel
theorem dL_end_17 : decode cL_end 17 = .ok (.ireturn, 1) := by decide +kernel
theorem dL_end_18 : decode cL_end 18 = .ok (.astore 5, 2) := by decide +kernel
theorem dL_end_20 : decode cL_end 20 = .ok (.iconst 2, 1) := by decide +kernel
theorem dL_end_21 : decode cL_end 21 = .ok (.ireturn, 1) := by decide +kernel
theorem dL_end_22 : decode cL_end 22 = .ok (.astore 5, 2) := by decide +kernel
theorem dL_end_24 : decode cL_end 24 = .ok (.iconst 3, 1) := by decide +kernel
theorem dL_end_25 : decode cL_end 25 = .ok (.ireturn, 1) := by decide +kernel
theorem dL_end_26 : decode cL_end 26 = .ok (.iconst 0, 1) := by decide +kernel
theorem dL_end_27 : decode cL_end 27 = .ok (.ireturn, 1) := by decide +kernel
theorem dL_start_0 : decode cL_start 0 = .ok (.aload 4, 2) := by decide +kernel
theorem dL_start_2 : decode cL_start 2 = .ok (.iconst 0, 1) := by decide +kernel
theorem dL_start_3 : decode cL_start 3 = .ok (.aload_n 0, 1) := by decide +kernel
theorem dL_start_4 : decode cL_start 4 = .ok (.iload_n 1, 1) := by decide +kernel
theorem dL_start_5 : decode cL_start 5 = .ok (.dload_n 2, 1) := by decide +kernel
theorem dL_start_6 : decode cL_start 6 = .ok (.invokevirtual 27, 3) := by decide +kernel
theorem dL_start_9 : decode cL_start 9 = .ok (.i2l, 1) := by decide +kernel
theorem dL_start_10 : decode cL_start 10 = .ok (.lastore, 1) := by decide +kernel
theorem dL_start_11 : decode cL_start 11 = .ok (.goto 15, 3) := by decide +kernel
theorem dL_start_14 : decode cL_start 14 = .ok (.astore 5, 2) := by decide +kernel
theorem dL_start_16 : decode cL_start 16 = .ok (.iconst 1, 1) := by decide +kernel
theorem dL_start_17 : decode cL_start 17 = .ok (.ireturn, 1) := by decide +kernel
theorem dL_start_18 : decode cL_start 18 = .ok (.astore 5, 2) := by decide +kernel
theorem dL_start_20 : decode cL_start 20 = .ok (.iconst 2, 1) := by decide +kernel
theorem dL_start_21 : decode cL_start 21 = .ok (.ireturn, 1) := by decide +kernel
theorem dL_start_22 : decode cL_start 22 = .ok (.astore 5, 2) := by decide +kernel
theorem dL_start_24 : decode cL_start 24 = .ok (.iconst 3, 1) := by decide +kernel
theorem dL_start_25 : decode cL_start 25 = .ok (.ireturn, 1) := by decide +kernel
theorem dL_start_26 : decode cL_start 26 = .ok (.iconst 0, 1) := by decide +kernel
theorem dL_start_27 : decode cL_start 27 = .ok (.ireturn, 1) := by decide +kernel
theorem dL_through_0 : decode cL_through 0 = .ok (.aload_n 3, 1) := by decide +kernel
theorem dL_through_1 : decode cL_through 1 = .ok (.iconst 0, 1) := by decide +kernel
theorem dL_through_2 : decode cL_through 2 = .ok (.aload_n 0, 1) := by decide +kernel
theorem dL_through_3 : decode cL_through 3 = .ok (.iload_n 1, 1) := by decide +kernel
theorem dL_through_4 : decode cL_through 4 = .ok (.iload_n 2, 1) := by decide +kernel
theorem dL_through_5 : decode cL_through 5 = .ok (.invokevirtual 30, 3) := by decide +kernel
theorem dL_through_8 : decode cL_through 8 = .ok (.ifCond .eq 7, 3) := by decide +kernel
theorem dL_through_11 : decode cL_through 11 = .ok (.lconst 1, 1) := by decide +kernel
theorem dL_through_12 : decode cL_through 12 = .ok (.goto 4, 3) := by decide +kernel
theorem dL_through_15 : decode cL_through 15 = .ok (.lconst 0, 1) := by decide +kernel
theorem dL_through_16 : decode cL_through 16 = .ok (.lastore, 1) := by decide +kernel
theorem dL_through_17 : decode cL_through 17 = .ok (.goto 11, 3) := by decide +kernel
theorem dL_through_20 : decode cL_through 20 = .ok (.astore 4, 2) := by decide +kernel
theorem dL_through_22 : decode cL_through 22 = .ok (.iconst 1, 1) := by decide +kernel
theorem dL_through_23 : decode cL_through 23 = .ok (.ireturn, 1) := by decide +kernel
theorem dL_through_24 : decode cL_through 24 = .ok (.astore 4, 2) := by decide +kernel
theorem dL_through_26 : decode cL_through 26 = .ok (.iconst 2, 1) := by decide +kernel
theorem dL_through_27 : decode cL_through 27 = .ok (.ireturn, 1) := by decide +kernel
theorem dL_through_28 : decode cL_through 28 = .ok (.iconst 0, 1) := by decide +kernel
theorem dL_through_29 : decode cL_through 29 = .ok (.ireturn, 1) := by decide +kernel
theorem dL_run_0 : decode cL_run 0 = .ok (.aload_n 2, 1) := by decide +kernel
theorem dL_run_1 : decode cL_run 1 = .ok (.iconst 0, 1) := by decide +kernel
theorem dL_run_2 : decode cL_run 2 = .ok (.aload_n 0, 1) := by decide +kernel
theorem dL_run_3 : decode cL_run 3 = .ok (.iload_n 1, 1) := by decide +kernel
theorem dL_run_4 : decode cL_run 4 = .ok (.invokevirtual 34, 3) := by decide +kernel
theorem dL_run_7 : decode cL_run 7 = .ok (.i2l, 1) := by decide +kernel
theorem dL_run_8 : decode cL_run 8 = .ok (.lastore, 1) := by decide +kernel
theorem dL_run_9 : decode cL_run 9 = .ok (.goto 6, 3) := by decide +kernel
theorem dL_run_12 : decode cL_run 12 = .ok (.astore_n 3, 1) := by decide +kernel
theorem dL_run_13 : decode cL_run 13 = .ok (.iconst 1, 1) := by decide +kernel
theorem dL_run_14 : decode cL_run 14 = .ok (.ireturn, 1) := by decide +kernel
theorem dL_run_15 : decode cL_run 15 = .ok (.iconst 0, 1) := by decide +kernel
theorem dL_run_16 : decode cL_run 16 = .ok (.ireturn, 1) := by decide +kernel
theorem dL_slack_0 : decode cL_slack 0 = .ok (.aload_n 2, 1) := by decide +kernel
theorem dL_slack_1 : decode cL_slack 1 = .ok (.iconst 0, 1) := by decide +kernel
theorem dL_slack_2 : decode cL_slack 2 = .ok (.aload_n 0, 1) := by decide +kernel
theorem dL_slack_3 : decode cL_slack 3 = .ok (.iload_n 1, 1) := by decide +kernel
theorem dL_slack_4 : decode cL_slack 4 = .ok (.invokevirtual 38, 3) := by decide +kernel
theorem dL_slack_7 : decode cL_slack 7 = .ok (.dastore, 1) := by decide +kernel
theorem dL_slack_8 : decode cL_slack 8 = .ok (.goto 9, 3) := by decide +kernel
theorem dL_slack_11 : decode cL_slack 11 = .ok (.astore_n 3, 1) := by decide +kernel
theorem dL_slack_12 : decode cL_slack 12 = .ok (.iconst 1, 1) := by decide +kernel
theorem dL_slack_13 : decode cL_slack 13 = .ok (.ireturn, 1) := by decide +kernel
theorem dL_slack_14 : decode cL_slack 14 = .ok (.astore_n 3, 1) := by decide +kernel
theorem dL_slack_15 : decode cL_slack 15 = .ok (.iconst 2, 1) := by decide +kernel
theorem dL_slack_16 : decode cL_slack 16 = .ok (.ireturn, 1) := by decide +kernel
theorem dL_slack_17 : decode cL_slack 17 = .ok (.iconst 0, 1) := by decide +kernel
theorem dL_slack_18 : decode cL_slack 18 = .ok (.ireturn, 1) := by decide +kernel
theorem dL_at_0 : decode cL_at 0 = .ok (.aload_n 3, 1) := by decide +kernel
theorem dL_at_1 : decode cL_at 1 = .ok (.iconst 0, 1) := by decide +kernel
theorem dL_at_2 : decode cL_at 2 = .ok (.aload_n 0, 1) := by decide +kernel
theorem dL_at_3 : decode cL_at 3 = .ok (.iload_n 1, 1) := by decide +kernel
theorem dL_at_4 : decode cL_at 4 = .ok (.iload_n 2, 1) := by decide +kernel
theorem dL_at_5 : decode cL_at 5 = .ok (.invokevirtual 42, 3) := by decide +kernel
theorem dL_at_8 : decode cL_at 8 = .ok (.i2l, 1) := by decide +kernel
theorem dL_at_9 : decode cL_at 9 = .ok (.lastore, 1) := by decide +kernel
theorem dL_at_10 : decode cL_at 10 = .ok (.goto 11, 3) := by decide +kernel
theorem dL_at_13 : decode cL_at 13 = .ok (.astore 4, 2) := by decide +kernel
theorem dL_at_15 : decode cL_at 15 = .ok (.iconst 1, 1) := by decide +kernel
theorem dL_at_16 : decode cL_at 16 = .ok (.ireturn, 1) := by decide +kernel
theorem dL_at_17 : decode cL_at 17 = .ok (.astore 4, 2) := by decide +kernel
theorem dL_at_19 : decode cL_at 19 = .ok (.iconst 2, 1) := by decide +kernel
theorem dL_at_20 : decode cL_at 20 = .ok (.ireturn, 1) := by decide +kernel
theorem dL_at_21 : decode cL_at 21 = .ok (.iconst 0, 1) := by decide +kernel
theorem dL_at_22 : decode cL_at 22 = .ok (.ireturn, 1) := by decide +kernel
theorem dL_group_0 : decode cL_group 0 = .ok (.aload_n 3, 1) := by decide +kernel
theorem dL_group_1 : decode cL_group 1 = .ok (.iconst 0, 1) := by decide +kernel
theorem dL_group_2 : decode cL_group 2 = .ok (.aload_n 0, 1) := by decide +kernel
theorem dL_group_3 : decode cL_group 3 = .ok (.iload_n 1, 1) := by decide +kernel
theorem dL_group_4 : decode cL_group 4 = .ok (.iload_n 2, 1) := by decide +kernel
theorem dL_group_5 : decode cL_group 5 = .ok (.invokevirtual 46, 3) := by decide +kernel
theorem dL_group_8 : decode cL_group 8 = .ok (.i2l, 1) := by decide +kernel
theorem dL_group_9 : decode cL_group 9 = .ok (.lastore, 1) := by decide +kernel
theorem dL_group_10 : decode cL_group 10 = .ok (.goto 11, 3) := by decide +kernel
theorem dL_group_13 : decode cL_group 13 = .ok (.astore 4, 2) := by decide +kernel
theorem dL_group_15 : decode cL_group 15 = .ok (.iconst 1, 1) := by decide +kernel
theorem dL_group_16 : decode cL_group 16 = .ok (.ireturn, 1) := by decide +kernel
theorem dL_group_17 : decode cL_group 17 = .ok (.astore 4, 2) := by decide +kernel
theorem dL_group_19 : decode cL_group 19 = .ok (.iconst 2, 1) := by decide +kernel
theorem dL_group_20 : decode cL_group 20 = .ok (.ireturn, 1) := by decide +kernel
theorem dL_group_21 : decode cL_group 21 = .ok (.iconst 0, 1) := by decide +kernel
theorem dL_group_22 : decode cL_group 22 = .ok (.ireturn, 1) := by decide +kernel
theorem dL_model_0 : decode cL_model 0 = .ok (.aload_n 2, 1) := by decide +kernel
theorem dL_model_1 : decode cL_model 1 = .ok (.iconst 0, 1) := by decide +kernel
theorem dL_model_2 : decode cL_model 2 = .ok (.aload_n 0, 1) := by decide +kernel
theorem dL_model_3 : decode cL_model 3 = .ok (.iload_n 1, 1) := by decide +kernel
theorem dL_model_4 : decode cL_model 4 = .ok (.invokevirtual 49, 3) := by decide +kernel
theorem dL_model_7 : decode cL_model 7 = .ok (.i2l, 1) := by decide +kernel
theorem dL_model_8 : decode cL_model 8 = .ok (.lastore, 1) := by decide +kernel
theorem dL_model_9 : decode cL_model 9 = .ok (.goto 6, 3) := by decide +kernel
theorem dL_model_12 : decode cL_model 12 = .ok (.astore_n 3, 1) := by decide +kernel
theorem dL_model_13 : decode cL_model 13 = .ok (.iconst 1, 1) := by decide +kernel
theorem dL_model_14 : decode cL_model 14 = .ok (.ireturn, 1) := by decide +kernel
theorem dL_model_15 : decode cL_model 15 = .ok (.iconst 0, 1) := by decide +kernel
theorem dL_model_16 : decode cL_model 16 = .ok (.ireturn, 1) := by decide +kernel
theorem dL_into_0 : decode cL_into 0 = .ok (.aload_n 3, 1) := by decide +kernel
theorem dL_into_1 : decode cL_into 1 = .ok (.iconst 0, 1) := by decide +kernel
theorem dL_into_2 : decode cL_into 2 = .ok (.aload_n 0, 1) := by decide +kernel
theorem dL_into_3 : decode cL_into 3 = .ok (.iload_n 1, 1) := by decide +kernel
theorem dL_into_4 : decode cL_into 4 = .ok (.iload_n 2, 1) := by decide +kernel
theorem dL_into_5 : decode cL_into 5 = .ok (.invokevirtual 52, 3) := by decide +kernel
theorem dL_into_8 : decode cL_into 8 = .ok (.ifCond .eq 7, 3) := by decide +kernel
theorem dL_into_11 : decode cL_into 11 = .ok (.lconst 1, 1) := by decide +kernel
theorem dL_into_12 : decode cL_into 12 = .ok (.goto 4, 3) := by decide +kernel
theorem dL_into_15 : decode cL_into 15 = .ok (.lconst 0, 1) := by decide +kernel
theorem dL_into_16 : decode cL_into 16 = .ok (.lastore, 1) := by decide +kernel
theorem dL_into_17 : decode cL_into 17 = .ok (.goto 7, 3) := by decide +kernel
theorem dL_into_20 : decode cL_into 20 = .ok (.astore 4, 2) := by decide +kernel
theorem dL_into_22 : decode cL_into 22 = .ok (.iconst 1, 1) := by decide +kernel
theorem dL_into_23 : decode cL_into 23 = .ok (.ireturn, 1) := by decide +kernel
theorem dL_into_24 : decode cL_into 24 = .ok (.iconst 0, 1) := by decide +kernel
theorem dL_into_25 : decode cL_into 25 = .ok (.ireturn, 1) := by decide +kernel
theorem dL_reduced_0 : decode cL_reduced 0 = .ok (.aload 4, 2) := by decide +kernel
theorem dL_reduced_2 : decode cL_reduced 2 = .ok (.iconst 0, 1) := by decide +kernel
theorem dL_reduced_3 : decode cL_reduced 3 = .ok (.aload_n 0, 1) := by decide +kernel
theorem dL_reduced_4 : decode cL_reduced 4 = .ok (.iload_n 1, 1) := by decide +kernel
theorem dL_reduced_5 : decode cL_reduced 5 = .ok (.iload_n 2, 1) := by decide +kernel
theorem dL_reduced_6 : decode cL_reduced 6 = .ok (.iload_n 3, 1) := by decide +kernel
theorem dL_reduced_7 : decode cL_reduced 7 = .ok (.invokevirtual 55, 3) := by decide +kernel
theorem dL_reduced_10 : decode cL_reduced 10 = .ok (.dastore, 1) := by decide +kernel
theorem dL_reduced_11 : decode cL_reduced 11 = .ok (.goto 7, 3) := by decide +kernel
theorem dL_reduced_14 : decode cL_reduced 14 = .ok (.astore 5, 2) := by decide +kernel
theorem dL_reduced_16 : decode cL_reduced 16 = .ok (.iconst 1, 1) := by decide +kernel
theorem dL_reduced_17 : decode cL_reduced 17 = .ok (.ireturn, 1) := by decide +kernel
theorem dL_reduced_18 : decode cL_reduced 18 = .ok (.iconst 0, 1) := by decide +kernel
theorem dL_reduced_19 : decode cL_reduced 19 = .ok (.ireturn, 1) := by decide +kernel
theorem dL_budget_0 : decode cL_budget 0 = .ok (.aload_n 3, 1) := by decide +kernel
theorem dL_budget_1 : decode cL_budget 1 = .ok (.iconst 0, 1) := by decide +kernel
theorem dL_budget_2 : decode cL_budget 2 = .ok (.aload_n 0, 1) := by decide +kernel
theorem dL_budget_3 : decode cL_budget 3 = .ok (.iload_n 1, 1) := by decide +kernel
theorem dL_budget_4 : decode cL_budget 4 = .ok (.iload_n 2, 1) := by decide +kernel
theorem dL_budget_5 : decode cL_budget 5 = .ok (.invokevirtual 59, 3) := by decide +kernel
theorem dL_budget_8 : decode cL_budget 8 = .ok (.dastore, 1) := by decide +kernel
theorem dL_budget_9 : decode cL_budget 9 = .ok (.goto 11, 3) := by decide +kernel
theorem dL_budget_12 : decode cL_budget 12 = .ok (.astore 4, 2) := by decide +kernel
theorem dL_budget_14 : decode cL_budget 14 = .ok (.iconst 1, 1) := by decide +kernel
theorem dL_budget_15 : decode cL_budget 15 = .ok (.ireturn, 1) := by decide +kernel
theorem dL_budget_16 : decode cL_budget 16 = .ok (.astore 4, 2) := by decide +kernel
theorem dL_budget_18 : decode cL_budget 18 = .ok (.iconst 2, 1) := by decide +kernel
theorem dL_budget_19 : decode cL_budget 19 = .ok (.ireturn, 1) := by decide +kernel
theorem dL_budget_20 : decode cL_budget 20 = .ok (.iconst 0, 1) := by decide +kernel
theorem dL_budget_21 : decode cL_budget 21 = .ok (.ireturn, 1) := by decide +kernel
theorem dL_whatIf_0 : decode cL_whatIf 0 = .ok (.aload 4, 2) := by decide +kernel
theorem dL_whatIf_2 : decode cL_whatIf 2 = .ok (.iconst 0, 1) := by decide +kernel
theorem dL_whatIf_3 : decode cL_whatIf 3 = .ok (.aload_n 0, 1) := by decide +kernel
theorem dL_whatIf_4 : decode cL_whatIf 4 = .ok (.iload_n 1, 1) := by decide +kernel
theorem dL_whatIf_5 : decode cL_whatIf 5 = .ok (.dload_n 2, 1) := by decide +kernel
theorem dL_whatIf_6 : decode cL_whatIf 6 = .ok (.invokevirtual 63, 3) := by decide +kernel
theorem dL_whatIf_9 : decode cL_whatIf 9 = .ok (.ifCond .eq 7, 3) := by decide +kernel
theorem dL_whatIf_12 : decode cL_whatIf 12 = .ok (.lconst 1, 1) := by decide +kernel
theorem dL_whatIf_13 : decode cL_whatIf 13 = .ok (.goto 4, 3) := by decide +kernel
theorem dL_whatIf_16 : decode cL_whatIf 16 = .ok (.lconst 0, 1) := by decide +kernel
theorem dL_whatIf_17 : decode cL_whatIf 17 = .ok (.lastore, 1) := by decide +kernel
theorem dL_whatIf_18 : decode cL_whatIf 18 = .ok (.goto 15, 3) := by decide +kernel
theorem dL_whatIf_21 : decode cL_whatIf 21 = .ok (.astore 5, 2) := by decide +kernel
theorem dL_whatIf_23 : decode cL_whatIf 23 = .ok (.iconst 1, 1) := by decide +kernel
theorem dL_whatIf_24 : decode cL_whatIf 24 = .ok (.ireturn, 1) := by decide +kernel
theorem dL_whatIf_25 : decode cL_whatIf 25 = .ok (.astore 5, 2) := by decide +kernel
theorem dL_whatIf_27 : decode cL_whatIf 27 = .ok (.iconst 2, 1) := by decide +kernel
theorem dL_whatIf_28 : decode cL_whatIf 28 = .ok (.ireturn, 1) := by decide +kernel
theorem dL_whatIf_29 : decode cL_whatIf 29 = .ok (.astore 5, 2) := by decide +kernel
theorem dL_whatIf_31 : decode cL_whatIf 31 = .ok (.iconst 3, 1) := by decide +kernel
theorem dL_whatIf_32 : decode cL_whatIf 32 = .ok (.ireturn, 1) := by decide +kernel
theorem dL_whatIf_33 : decode cL_whatIf 33 = .ok (.iconst 0, 1) := by decide +kernel
theorem dL_whatIf_34 : decode cL_whatIf 34 = .ok (.ireturn, 1) := by decide +kernel
theorem dL_law_0 : decode cL_law 0 = .ok (.new 8, 3) := by decide +kernel
theorem dL_law_3 : decode cL_law 3 = .ok (.dup, 1) := by decide +kernel
theorem dL_law_4 : decode cL_law 4 = .ok (.invokespecial 67, 3) := by decide +kernel
theorem dL_law_7 : decode cL_law 7 = .ok (.astore_n 1, 1) := by decide +kernel
theorem dL_law_8 : decode cL_law 8 = .ok (.new 68, 3) := by decide +kernel
theorem dL_law_11 : decode cL_law 11 = .ok (.dup, 1) := by decide +kernel
theorem dL_law_12 : decode cL_law 12 = .ok (.invokespecial 70, 3) := by decide +kernel
theorem dL_law_15 : decode cL_law 15 = .ok (.astore_n 2, 1) := by decide +kernel
theorem dL_law_16 : decode cL_law 16 = .ok (.iconst 1, 1) := by decide +kernel
theorem dL_law_17 : decode cL_law 17 = .ok (.newarray .long, 2) := by decide +kernel
theorem dL_law_19 : decode cL_law 19 = .ok (.astore_n 3, 1) := by decide +kernel
theorem dL_law_20 : decode cL_law 20 = .ok (.iconst 1, 1) := by decide +kernel
theorem dL_law_21 : decode cL_law 21 = .ok (.newarray .double, 2) := by decide +kernel
theorem dL_law_23 : decode cL_law 23 = .ok (.astore 4, 2) := by decide +kernel
theorem dL_law_25 : decode cL_law 25 = .ok (.iconst 0, 1) := by decide +kernel
theorem dL_law_26 : decode cL_law 26 = .ok (.istore 5, 2) := by decide +kernel
theorem dL_law_28 : decode cL_law 28 = .ok (.iload 5, 2) := by decide +kernel
theorem dL_law_30 : decode cL_law 30 = .ok (.aload_n 0, 1) := by decide +kernel
theorem dL_law_31 : decode cL_law 31 = .ok (.arraylength, 1) := by decide +kernel
theorem dL_law_32 : decode cL_law 32 = .ok (.iconst 4, 1) := by decide +kernel
theorem dL_law_33 : decode cL_law 33 = .ok (.isub, 1) := by decide +kernel
theorem dL_law_34 : decode cL_law 34 = .ok (.if_icmp .gt 1145, 3) := by decide +kernel
theorem dL_law_37 : decode cL_law 37 = .ok (.aload_n 0, 1) := by decide +kernel
theorem dL_law_38 : decode cL_law 38 = .ok (.iload 5, 2) := by decide +kernel
theorem dL_law_40 : decode cL_law 40 = .ok (.iaload, 1) := by decide +kernel
theorem dL_law_41 : decode cL_law 41 = .ok (.bipush 15, 2) := by decide +kernel
theorem dL_law_43 : decode cL_law 43 = .ok (.iand, 1) := by decide +kernel
theorem dL_law_44 : decode cL_law 44 = .ok (.tableswitch 1129 0 14 #[76, 120, 210, 288, 366, 441, 497, 574, 642, 710, 766, 841, 942, 1031, 1116], 76) := by decide +kernel
theorem dL_law_120 : decode cL_law 120 = .ok (.aload_n 1, 1) := by decide +kernel
theorem dL_law_121 : decode cL_law 121 = .ok (.aload_n 3, 1) := by decide +kernel
theorem dL_law_122 : decode cL_law 122 = .ok (.invokestatic 71, 3) := by decide +kernel
theorem dL_law_125 : decode cL_law 125 = .ok (.istore 6, 2) := by decide +kernel
theorem dL_law_127 : decode cL_law 127 = .ok (.aload_n 2, 1) := by decide +kernel
theorem dL_law_128 : decode cL_law 128 = .ok (.invokevirtual 76, 3) := by decide +kernel
theorem dL_law_131 : decode cL_law 131 = .ok (.istore 7, 2) := by decide +kernel
theorem dL_law_133 : decode cL_law 133 = .ok (.aload_n 2, 1) := by decide +kernel
theorem dL_law_134 : decode cL_law 134 = .ok (.invokevirtual 77, 3) := by decide +kernel
theorem dL_law_137 : decode cL_law 137 = .ok (.iload 6, 2) := by decide +kernel
theorem dL_law_139 : decode cL_law 139 = .ok (.if_icmp .eq 5, 3) := by decide +kernel
theorem dL_law_142 : decode cL_law 142 = .ok (.iconst 0, 1) := by decide +kernel
theorem dL_law_143 : decode cL_law 143 = .ok (.ireturn, 1) := by decide +kernel
theorem dL_law_144 : decode cL_law 144 = .ok (.iload 6, 2) := by decide +kernel
theorem dL_law_146 : decode cL_law 146 = .ok (.ifCond .ne 15, 3) := by decide +kernel
theorem dL_law_149 : decode cL_law 149 = .ok (.aload_n 3, 1) := by decide +kernel
theorem dL_law_150 : decode cL_law 150 = .ok (.iconst 0, 1) := by decide +kernel
theorem dL_law_151 : decode cL_law 151 = .ok (.laload, 1) := by decide +kernel
theorem dL_law_152 : decode cL_law 152 = .ok (.iload 7, 2) := by decide +kernel
theorem dL_law_154 : decode cL_law 154 = .ok (.i2l, 1) := by decide +kernel
theorem dL_law_155 : decode cL_law 155 = .ok (.lcmp, 1) := by decide +kernel
theorem dL_law_156 : decode cL_law 156 = .ok (.ifCond .eq 5, 3) := by decide +kernel
theorem dL_law_159 : decode cL_law 159 = .ok (.iconst 0, 1) := by decide +kernel
theorem dL_law_160 : decode cL_law 160 = .ok (.ireturn, 1) := by decide +kernel
theorem dL_law_161 : decode cL_law 161 = .ok (.goto 1012, 3) := by decide +kernel
theorem dL_law_164 : decode cL_law 164 = .ok (.aload_n 1, 1) := by decide +kernel
theorem dL_law_165 : decode cL_law 165 = .ok (.aload_n 0, 1) := by decide +kernel
theorem dL_law_166 : decode cL_law 166 = .ok (.iload 5, 2) := by decide +kernel
theorem dL_law_168 : decode cL_law 168 = .ok (.iconst 1, 1) := by decide +kernel
theorem dL_law_169 : decode cL_law 169 = .ok (.iadd, 1) := by decide +kernel
theorem dL_law_170 : decode cL_law 170 = .ok (.iaload, 1) := by decide +kernel
theorem dL_law_171 : decode cL_law 171 = .ok (.aload_n 0, 1) := by decide +kernel
theorem dL_law_172 : decode cL_law 172 = .ok (.iload 5, 2) := by decide +kernel
theorem dL_law_174 : decode cL_law 174 = .ok (.iconst 2, 1) := by decide +kernel
theorem dL_law_175 : decode cL_law 175 = .ok (.iadd, 1) := by decide +kernel
theorem dL_law_176 : decode cL_law 176 = .ok (.iaload, 1) := by decide +kernel
theorem dL_law_177 : decode cL_law 177 = .ok (.aload_n 0, 1) := by decide +kernel
theorem dL_law_178 : decode cL_law 178 = .ok (.iload 5, 2) := by decide +kernel
theorem dL_law_180 : decode cL_law 180 = .ok (.iconst 3, 1) := by decide +kernel
theorem dL_law_181 : decode cL_law 181 = .ok (.iadd, 1) := by decide +kernel
theorem dL_law_182 : decode cL_law 182 = .ok (.iaload, 1) := by decide +kernel
theorem dL_law_183 : decode cL_law 183 = .ok (.i2d, 1) := by decide +kernel
theorem dL_law_184 : decode cL_law 184 = .ok (.ldc2_w 80, 3) := by decide +kernel
theorem dL_law_187 : decode cL_law 187 = .ok (.dmul, 1) := by decide +kernel
theorem dL_law_188 : decode cL_law 188 = .ok (.aload_n 3, 1) := by decide +kernel
theorem dL_law_189 : decode cL_law 189 = .ok (.invokestatic 82, 3) := by decide +kernel
theorem dL_law_192 : decode cL_law 192 = .ok (.istore 6, 2) := by decide +kernel
theorem dL_law_194 : decode cL_law 194 = .ok (.aload_n 2, 1) := by decide +kernel
theorem dL_law_195 : decode cL_law 195 = .ok (.aload_n 0, 1) := by decide +kernel
theorem dL_law_196 : decode cL_law 196 = .ok (.iload 5, 2) := by decide +kernel
theorem dL_law_198 : decode cL_law 198 = .ok (.iconst 1, 1) := by decide +kernel
theorem dL_law_199 : decode cL_law 199 = .ok (.iadd, 1) := by decide +kernel
theorem dL_law_200 : decode cL_law 200 = .ok (.iaload, 1) := by decide +kernel
theorem dL_law_201 : decode cL_law 201 = .ok (.aload_n 0, 1) := by decide +kernel
theorem dL_law_202 : decode cL_law 202 = .ok (.iload 5, 2) := by decide +kernel
theorem dL_law_204 : decode cL_law 204 = .ok (.iconst 2, 1) := by decide +kernel
theorem dL_law_205 : decode cL_law 205 = .ok (.iadd, 1) := by decide +kernel
theorem dL_law_206 : decode cL_law 206 = .ok (.iaload, 1) := by decide +kernel
theorem dL_law_207 : decode cL_law 207 = .ok (.aload_n 0, 1) := by decide +kernel
theorem dL_law_208 : decode cL_law 208 = .ok (.iload 5, 2) := by decide +kernel
theorem dL_law_210 : decode cL_law 210 = .ok (.iconst 3, 1) := by decide +kernel
theorem dL_law_211 : decode cL_law 211 = .ok (.iadd, 1) := by decide +kernel
theorem dL_law_212 : decode cL_law 212 = .ok (.iaload, 1) := by decide +kernel
theorem dL_law_213 : decode cL_law 213 = .ok (.i2d, 1) := by decide +kernel
theorem dL_law_214 : decode cL_law 214 = .ok (.ldc2_w 80, 3) := by decide +kernel
theorem dL_law_217 : decode cL_law 217 = .ok (.dmul, 1) := by decide +kernel
theorem dL_law_218 : decode cL_law 218 = .ok (.invokevirtual 85, 3) := by decide +kernel
theorem dL_law_221 : decode cL_law 221 = .ok (.istore 7, 2) := by decide +kernel
theorem dL_law_223 : decode cL_law 223 = .ok (.aload_n 2, 1) := by decide +kernel
theorem dL_law_224 : decode cL_law 224 = .ok (.invokevirtual 77, 3) := by decide +kernel
theorem dL_law_227 : decode cL_law 227 = .ok (.iload 6, 2) := by decide +kernel
theorem dL_law_229 : decode cL_law 229 = .ok (.if_icmp .eq 5, 3) := by decide +kernel
theorem dL_law_232 : decode cL_law 232 = .ok (.iconst 0, 1) := by decide +kernel
theorem dL_law_233 : decode cL_law 233 = .ok (.ireturn, 1) := by decide +kernel
theorem dL_law_234 : decode cL_law 234 = .ok (.iload 6, 2) := by decide +kernel
theorem dL_law_236 : decode cL_law 236 = .ok (.ifCond .ne 15, 3) := by decide +kernel
theorem dL_law_239 : decode cL_law 239 = .ok (.aload_n 3, 1) := by decide +kernel
theorem dL_law_240 : decode cL_law 240 = .ok (.iconst 0, 1) := by decide +kernel
theorem dL_law_241 : decode cL_law 241 = .ok (.laload, 1) := by decide +kernel
theorem dL_law_242 : decode cL_law 242 = .ok (.iload 7, 2) := by decide +kernel
theorem dL_law_244 : decode cL_law 244 = .ok (.i2l, 1) := by decide +kernel
theorem dL_law_245 : decode cL_law 245 = .ok (.lcmp, 1) := by decide +kernel
theorem dL_law_246 : decode cL_law 246 = .ok (.ifCond .eq 5, 3) := by decide +kernel
theorem dL_law_249 : decode cL_law 249 = .ok (.iconst 0, 1) := by decide +kernel
theorem dL_law_250 : decode cL_law 250 = .ok (.ireturn, 1) := by decide +kernel
theorem dL_law_251 : decode cL_law 251 = .ok (.goto 922, 3) := by decide +kernel
theorem dL_law_254 : decode cL_law 254 = .ok (.aload_n 1, 1) := by decide +kernel
theorem dL_law_255 : decode cL_law 255 = .ok (.aload_n 0, 1) := by decide +kernel
theorem dL_law_256 : decode cL_law 256 = .ok (.iload 5, 2) := by decide +kernel
theorem dL_law_258 : decode cL_law 258 = .ok (.iconst 1, 1) := by decide +kernel
theorem dL_law_259 : decode cL_law 259 = .ok (.iadd, 1) := by decide +kernel
theorem dL_law_260 : decode cL_law 260 = .ok (.iaload, 1) := by decide +kernel
theorem dL_law_261 : decode cL_law 261 = .ok (.aload_n 0, 1) := by decide +kernel
theorem dL_law_262 : decode cL_law 262 = .ok (.iload 5, 2) := by decide +kernel
theorem dL_law_264 : decode cL_law 264 = .ok (.iconst 2, 1) := by decide +kernel
theorem dL_law_265 : decode cL_law 265 = .ok (.iadd, 1) := by decide +kernel
theorem dL_law_266 : decode cL_law 266 = .ok (.iaload, 1) := by decide +kernel
theorem dL_law_267 : decode cL_law 267 = .ok (.i2d, 1) := by decide +kernel
theorem dL_law_268 : decode cL_law 268 = .ok (.ldc2_w 80, 3) := by decide +kernel
theorem dL_law_271 : decode cL_law 271 = .ok (.dmul, 1) := by decide +kernel
theorem dL_law_272 : decode cL_law 272 = .ok (.aload_n 3, 1) := by decide +kernel
theorem dL_law_273 : decode cL_law 273 = .ok (.invokestatic 86, 3) := by decide +kernel
theorem dL_law_276 : decode cL_law 276 = .ok (.istore 6, 2) := by decide +kernel
theorem dL_law_278 : decode cL_law 278 = .ok (.aload_n 2, 1) := by decide +kernel
theorem dL_law_279 : decode cL_law 279 = .ok (.aload_n 0, 1) := by decide +kernel
theorem dL_law_280 : decode cL_law 280 = .ok (.iload 5, 2) := by decide +kernel
theorem dL_law_282 : decode cL_law 282 = .ok (.iconst 1, 1) := by decide +kernel
theorem dL_law_283 : decode cL_law 283 = .ok (.iadd, 1) := by decide +kernel
theorem dL_law_284 : decode cL_law 284 = .ok (.iaload, 1) := by decide +kernel
theorem dL_law_285 : decode cL_law 285 = .ok (.aload_n 0, 1) := by decide +kernel
theorem dL_law_286 : decode cL_law 286 = .ok (.iload 5, 2) := by decide +kernel
theorem dL_law_288 : decode cL_law 288 = .ok (.iconst 2, 1) := by decide +kernel
theorem dL_law_289 : decode cL_law 289 = .ok (.iadd, 1) := by decide +kernel
theorem dL_law_290 : decode cL_law 290 = .ok (.iaload, 1) := by decide +kernel
theorem dL_law_291 : decode cL_law 291 = .ok (.i2d, 1) := by decide +kernel
theorem dL_law_292 : decode cL_law 292 = .ok (.ldc2_w 80, 3) := by decide +kernel
theorem dL_law_295 : decode cL_law 295 = .ok (.dmul, 1) := by decide +kernel
theorem dL_law_296 : decode cL_law 296 = .ok (.invokevirtual 89, 3) := by decide +kernel
theorem dL_law_299 : decode cL_law 299 = .ok (.istore 7, 2) := by decide +kernel
theorem dL_law_301 : decode cL_law 301 = .ok (.aload_n 2, 1) := by decide +kernel
theorem dL_law_302 : decode cL_law 302 = .ok (.invokevirtual 77, 3) := by decide +kernel
theorem dL_law_305 : decode cL_law 305 = .ok (.iload 6, 2) := by decide +kernel
theorem dL_law_307 : decode cL_law 307 = .ok (.if_icmp .eq 5, 3) := by decide +kernel
theorem dL_law_310 : decode cL_law 310 = .ok (.iconst 0, 1) := by decide +kernel
theorem dL_law_311 : decode cL_law 311 = .ok (.ireturn, 1) := by decide +kernel
theorem dL_law_312 : decode cL_law 312 = .ok (.iload 6, 2) := by decide +kernel
theorem dL_law_314 : decode cL_law 314 = .ok (.ifCond .ne 15, 3) := by decide +kernel
theorem dL_law_317 : decode cL_law 317 = .ok (.aload_n 3, 1) := by decide +kernel
theorem dL_law_318 : decode cL_law 318 = .ok (.iconst 0, 1) := by decide +kernel
theorem dL_law_319 : decode cL_law 319 = .ok (.laload, 1) := by decide +kernel
theorem dL_law_320 : decode cL_law 320 = .ok (.iload 7, 2) := by decide +kernel
theorem dL_law_322 : decode cL_law 322 = .ok (.i2l, 1) := by decide +kernel
theorem dL_law_323 : decode cL_law 323 = .ok (.lcmp, 1) := by decide +kernel
theorem dL_law_324 : decode cL_law 324 = .ok (.ifCond .eq 5, 3) := by decide +kernel
theorem dL_law_327 : decode cL_law 327 = .ok (.iconst 0, 1) := by decide +kernel
theorem dL_law_328 : decode cL_law 328 = .ok (.ireturn, 1) := by decide +kernel
theorem dL_law_329 : decode cL_law 329 = .ok (.goto 844, 3) := by decide +kernel
theorem dL_law_332 : decode cL_law 332 = .ok (.aload_n 1, 1) := by decide +kernel
theorem dL_law_333 : decode cL_law 333 = .ok (.aload_n 0, 1) := by decide +kernel
theorem dL_law_334 : decode cL_law 334 = .ok (.iload 5, 2) := by decide +kernel
theorem dL_law_336 : decode cL_law 336 = .ok (.iconst 1, 1) := by decide +kernel
theorem dL_law_337 : decode cL_law 337 = .ok (.iadd, 1) := by decide +kernel
theorem dL_law_338 : decode cL_law 338 = .ok (.iaload, 1) := by decide +kernel
theorem dL_law_339 : decode cL_law 339 = .ok (.aload_n 0, 1) := by decide +kernel
theorem dL_law_340 : decode cL_law 340 = .ok (.iload 5, 2) := by decide +kernel
theorem dL_law_342 : decode cL_law 342 = .ok (.iconst 2, 1) := by decide +kernel
theorem dL_law_343 : decode cL_law 343 = .ok (.iadd, 1) := by decide +kernel
theorem dL_law_344 : decode cL_law 344 = .ok (.iaload, 1) := by decide +kernel
theorem dL_law_345 : decode cL_law 345 = .ok (.i2d, 1) := by decide +kernel
theorem dL_law_346 : decode cL_law 346 = .ok (.ldc2_w 80, 3) := by decide +kernel
theorem dL_law_349 : decode cL_law 349 = .ok (.dmul, 1) := by decide +kernel
theorem dL_law_350 : decode cL_law 350 = .ok (.aload_n 3, 1) := by decide +kernel
theorem dL_law_351 : decode cL_law 351 = .ok (.invokestatic 90, 3) := by decide +kernel
theorem dL_law_354 : decode cL_law 354 = .ok (.istore 6, 2) := by decide +kernel
theorem dL_law_356 : decode cL_law 356 = .ok (.aload_n 2, 1) := by decide +kernel
theorem dL_law_357 : decode cL_law 357 = .ok (.aload_n 0, 1) := by decide +kernel
theorem dL_law_358 : decode cL_law 358 = .ok (.iload 5, 2) := by decide +kernel
theorem dL_law_360 : decode cL_law 360 = .ok (.iconst 1, 1) := by decide +kernel
theorem dL_law_361 : decode cL_law 361 = .ok (.iadd, 1) := by decide +kernel
theorem dL_law_362 : decode cL_law 362 = .ok (.iaload, 1) := by decide +kernel
theorem dL_law_363 : decode cL_law 363 = .ok (.aload_n 0, 1) := by decide +kernel
theorem dL_law_364 : decode cL_law 364 = .ok (.iload 5, 2) := by decide +kernel
theorem dL_law_366 : decode cL_law 366 = .ok (.iconst 2, 1) := by decide +kernel
theorem dL_law_367 : decode cL_law 367 = .ok (.iadd, 1) := by decide +kernel
theorem dL_law_368 : decode cL_law 368 = .ok (.iaload, 1) := by decide +kernel
theorem dL_law_369 : decode cL_law 369 = .ok (.i2d, 1) := by decide +kernel
theorem dL_law_370 : decode cL_law 370 = .ok (.ldc2_w 80, 3) := by decide +kernel
theorem dL_law_373 : decode cL_law 373 = .ok (.dmul, 1) := by decide +kernel
theorem dL_law_374 : decode cL_law 374 = .ok (.invokevirtual 92, 3) := by decide +kernel
theorem dL_law_377 : decode cL_law 377 = .ok (.istore 7, 2) := by decide +kernel
theorem dL_law_379 : decode cL_law 379 = .ok (.aload_n 2, 1) := by decide +kernel
theorem dL_law_380 : decode cL_law 380 = .ok (.invokevirtual 77, 3) := by decide +kernel
theorem dL_law_383 : decode cL_law 383 = .ok (.iload 6, 2) := by decide +kernel
theorem dL_law_385 : decode cL_law 385 = .ok (.if_icmp .eq 5, 3) := by decide +kernel
theorem dL_law_388 : decode cL_law 388 = .ok (.iconst 0, 1) := by decide +kernel
theorem dL_law_389 : decode cL_law 389 = .ok (.ireturn, 1) := by decide +kernel
theorem dL_law_390 : decode cL_law 390 = .ok (.iload 6, 2) := by decide +kernel
theorem dL_law_392 : decode cL_law 392 = .ok (.ifCond .ne 15, 3) := by decide +kernel
theorem dL_law_395 : decode cL_law 395 = .ok (.aload_n 3, 1) := by decide +kernel
theorem dL_law_396 : decode cL_law 396 = .ok (.iconst 0, 1) := by decide +kernel
theorem dL_law_397 : decode cL_law 397 = .ok (.laload, 1) := by decide +kernel
theorem dL_law_398 : decode cL_law 398 = .ok (.iload 7, 2) := by decide +kernel
theorem dL_law_400 : decode cL_law 400 = .ok (.i2l, 1) := by decide +kernel
theorem dL_law_401 : decode cL_law 401 = .ok (.lcmp, 1) := by decide +kernel
theorem dL_law_402 : decode cL_law 402 = .ok (.ifCond .eq 5, 3) := by decide +kernel
theorem dL_law_405 : decode cL_law 405 = .ok (.iconst 0, 1) := by decide +kernel
theorem dL_law_406 : decode cL_law 406 = .ok (.ireturn, 1) := by decide +kernel
theorem dL_law_407 : decode cL_law 407 = .ok (.goto 766, 3) := by decide +kernel
theorem dL_law_410 : decode cL_law 410 = .ok (.aload_n 1, 1) := by decide +kernel
theorem dL_law_411 : decode cL_law 411 = .ok (.aload_n 0, 1) := by decide +kernel
theorem dL_law_412 : decode cL_law 412 = .ok (.iload 5, 2) := by decide +kernel
theorem dL_law_414 : decode cL_law 414 = .ok (.iconst 1, 1) := by decide +kernel
theorem dL_law_415 : decode cL_law 415 = .ok (.iadd, 1) := by decide +kernel
theorem dL_law_416 : decode cL_law 416 = .ok (.iaload, 1) := by decide +kernel
theorem dL_law_417 : decode cL_law 417 = .ok (.aload_n 0, 1) := by decide +kernel
theorem dL_law_418 : decode cL_law 418 = .ok (.iload 5, 2) := by decide +kernel
theorem dL_law_420 : decode cL_law 420 = .ok (.iconst 2, 1) := by decide +kernel
theorem dL_law_421 : decode cL_law 421 = .ok (.iadd, 1) := by decide +kernel
theorem dL_law_422 : decode cL_law 422 = .ok (.iaload, 1) := by decide +kernel
theorem dL_law_423 : decode cL_law 423 = .ok (.aload_n 3, 1) := by decide +kernel
theorem dL_law_424 : decode cL_law 424 = .ok (.invokestatic 93, 3) := by decide +kernel
theorem dL_law_427 : decode cL_law 427 = .ok (.istore 6, 2) := by decide +kernel
theorem dL_law_429 : decode cL_law 429 = .ok (.aload_n 2, 1) := by decide +kernel
theorem dL_law_430 : decode cL_law 430 = .ok (.aload_n 0, 1) := by decide +kernel
theorem dL_law_431 : decode cL_law 431 = .ok (.iload 5, 2) := by decide +kernel
theorem dL_law_433 : decode cL_law 433 = .ok (.iconst 1, 1) := by decide +kernel
theorem dL_law_434 : decode cL_law 434 = .ok (.iadd, 1) := by decide +kernel
theorem dL_law_435 : decode cL_law 435 = .ok (.iaload, 1) := by decide +kernel
theorem dL_law_436 : decode cL_law 436 = .ok (.aload_n 0, 1) := by decide +kernel
theorem dL_law_437 : decode cL_law 437 = .ok (.iload 5, 2) := by decide +kernel
theorem dL_law_439 : decode cL_law 439 = .ok (.iconst 2, 1) := by decide +kernel
theorem dL_law_440 : decode cL_law 440 = .ok (.iadd, 1) := by decide +kernel
theorem dL_law_441 : decode cL_law 441 = .ok (.iaload, 1) := by decide +kernel
theorem dL_law_442 : decode cL_law 442 = .ok (.invokevirtual 96, 3) := by decide +kernel
theorem dL_law_445 : decode cL_law 445 = .ok (.istore 7, 2) := by decide +kernel
theorem dL_law_447 : decode cL_law 447 = .ok (.aload_n 2, 1) := by decide +kernel
theorem dL_law_448 : decode cL_law 448 = .ok (.invokevirtual 77, 3) := by decide +kernel
theorem dL_law_451 : decode cL_law 451 = .ok (.iload 6, 2) := by decide +kernel
theorem dL_law_453 : decode cL_law 453 = .ok (.if_icmp .eq 5, 3) := by decide +kernel
theorem dL_law_456 : decode cL_law 456 = .ok (.iconst 0, 1) := by decide +kernel
theorem dL_law_457 : decode cL_law 457 = .ok (.ireturn, 1) := by decide +kernel
theorem dL_law_458 : decode cL_law 458 = .ok (.iload 6, 2) := by decide +kernel
theorem dL_law_460 : decode cL_law 460 = .ok (.ifCond .ne 22, 3) := by decide +kernel
theorem dL_law_463 : decode cL_law 463 = .ok (.aload_n 3, 1) := by decide +kernel
theorem dL_law_464 : decode cL_law 464 = .ok (.iconst 0, 1) := by decide +kernel
theorem dL_law_465 : decode cL_law 465 = .ok (.laload, 1) := by decide +kernel
theorem dL_law_466 : decode cL_law 466 = .ok (.iload 7, 2) := by decide +kernel
theorem dL_law_468 : decode cL_law 468 = .ok (.ifCond .eq 7, 3) := by decide +kernel
theorem dL_law_471 : decode cL_law 471 = .ok (.lconst 1, 1) := by decide +kernel
theorem dL_law_472 : decode cL_law 472 = .ok (.goto 4, 3) := by decide +kernel
theorem dL_law_475 : decode cL_law 475 = .ok (.lconst 0, 1) := by decide +kernel
theorem dL_law_476 : decode cL_law 476 = .ok (.lcmp, 1) := by decide +kernel
theorem dL_law_477 : decode cL_law 477 = .ok (.ifCond .eq 5, 3) := by decide +kernel
theorem dL_law_480 : decode cL_law 480 = .ok (.iconst 0, 1) := by decide +kernel
theorem dL_law_481 : decode cL_law 481 = .ok (.ireturn, 1) := by decide +kernel
theorem dL_law_482 : decode cL_law 482 = .ok (.goto 691, 3) := by decide +kernel
theorem dL_law_485 : decode cL_law 485 = .ok (.aload_n 1, 1) := by decide +kernel
theorem dL_law_486 : decode cL_law 486 = .ok (.aload_n 0, 1) := by decide +kernel
theorem dL_law_487 : decode cL_law 487 = .ok (.iload 5, 2) := by decide +kernel
theorem dL_law_489 : decode cL_law 489 = .ok (.iconst 1, 1) := by decide +kernel
theorem dL_law_490 : decode cL_law 490 = .ok (.iadd, 1) := by decide +kernel
theorem dL_law_491 : decode cL_law 491 = .ok (.iaload, 1) := by decide +kernel
theorem dL_law_492 : decode cL_law 492 = .ok (.aload_n 3, 1) := by decide +kernel
theorem dL_law_493 : decode cL_law 493 = .ok (.invokestatic 97, 3) := by decide +kernel
theorem dL_law_496 : decode cL_law 496 = .ok (.istore 6, 2) := by decide +kernel
theorem dL_law_498 : decode cL_law 498 = .ok (.aload_n 2, 1) := by decide +kernel
theorem dL_law_499 : decode cL_law 499 = .ok (.aload_n 0, 1) := by decide +kernel
theorem dL_law_500 : decode cL_law 500 = .ok (.iload 5, 2) := by decide +kernel
theorem dL_law_502 : decode cL_law 502 = .ok (.iconst 1, 1) := by decide +kernel
theorem dL_law_503 : decode cL_law 503 = .ok (.iadd, 1) := by decide +kernel
theorem dL_law_504 : decode cL_law 504 = .ok (.iaload, 1) := by decide +kernel
theorem dL_law_505 : decode cL_law 505 = .ok (.invokevirtual 100, 3) := by decide +kernel
theorem dL_law_508 : decode cL_law 508 = .ok (.istore 7, 2) := by decide +kernel
theorem dL_law_510 : decode cL_law 510 = .ok (.aload_n 2, 1) := by decide +kernel
theorem dL_law_511 : decode cL_law 511 = .ok (.invokevirtual 77, 3) := by decide +kernel
theorem dL_law_514 : decode cL_law 514 = .ok (.iload 6, 2) := by decide +kernel
theorem dL_law_516 : decode cL_law 516 = .ok (.if_icmp .eq 5, 3) := by decide +kernel
theorem dL_law_519 : decode cL_law 519 = .ok (.iconst 0, 1) := by decide +kernel
theorem dL_law_520 : decode cL_law 520 = .ok (.ireturn, 1) := by decide +kernel
theorem dL_law_521 : decode cL_law 521 = .ok (.iload 6, 2) := by decide +kernel
theorem dL_law_523 : decode cL_law 523 = .ok (.ifCond .ne 15, 3) := by decide +kernel
theorem dL_law_526 : decode cL_law 526 = .ok (.aload_n 3, 1) := by decide +kernel
theorem dL_law_527 : decode cL_law 527 = .ok (.iconst 0, 1) := by decide +kernel
theorem dL_law_528 : decode cL_law 528 = .ok (.laload, 1) := by decide +kernel
theorem dL_law_529 : decode cL_law 529 = .ok (.iload 7, 2) := by decide +kernel
theorem dL_law_531 : decode cL_law 531 = .ok (.i2l, 1) := by decide +kernel
theorem dL_law_532 : decode cL_law 532 = .ok (.lcmp, 1) := by decide +kernel
theorem dL_law_533 : decode cL_law 533 = .ok (.ifCond .eq 5, 3) := by decide +kernel
theorem dL_law_536 : decode cL_law 536 = .ok (.iconst 0, 1) := by decide +kernel
theorem dL_law_537 : decode cL_law 537 = .ok (.ireturn, 1) := by decide +kernel
theorem dL_law_538 : decode cL_law 538 = .ok (.goto 635, 3) := by decide +kernel
theorem dL_law_541 : decode cL_law 541 = .ok (.aload_n 1, 1) := by decide +kernel
theorem dL_law_542 : decode cL_law 542 = .ok (.aload_n 0, 1) := by decide +kernel
theorem dL_law_543 : decode cL_law 543 = .ok (.iload 5, 2) := by decide +kernel
theorem dL_law_545 : decode cL_law 545 = .ok (.iconst 1, 1) := by decide +kernel
theorem dL_law_546 : decode cL_law 546 = .ok (.iadd, 1) := by decide +kernel
theorem dL_law_547 : decode cL_law 547 = .ok (.iaload, 1) := by decide +kernel
theorem dL_law_548 : decode cL_law 548 = .ok (.aload 4, 2) := by decide +kernel
theorem dL_law_550 : decode cL_law 550 = .ok (.invokestatic 101, 3) := by decide +kernel
theorem dL_law_553 : decode cL_law 553 = .ok (.istore 6, 2) := by decide +kernel
theorem dL_law_555 : decode cL_law 555 = .ok (.aload_n 2, 1) := by decide +kernel
theorem dL_law_556 : decode cL_law 556 = .ok (.aload_n 0, 1) := by decide +kernel
theorem dL_law_557 : decode cL_law 557 = .ok (.iload 5, 2) := by decide +kernel
theorem dL_law_559 : decode cL_law 559 = .ok (.iconst 1, 1) := by decide +kernel
theorem dL_law_560 : decode cL_law 560 = .ok (.iadd, 1) := by decide +kernel
theorem dL_law_561 : decode cL_law 561 = .ok (.iaload, 1) := by decide +kernel
theorem dL_law_562 : decode cL_law 562 = .ok (.invokevirtual 104, 3) := by decide +kernel
theorem dL_law_565 : decode cL_law 565 = .ok (.dstore 7, 2) := by decide +kernel
theorem dL_law_567 : decode cL_law 567 = .ok (.aload_n 2, 1) := by decide +kernel
theorem dL_law_568 : decode cL_law 568 = .ok (.invokevirtual 77, 3) := by decide +kernel
theorem dL_law_571 : decode cL_law 571 = .ok (.iload 6, 2) := by decide +kernel
theorem dL_law_573 : decode cL_law 573 = .ok (.if_icmp .eq 5, 3) := by decide +kernel
theorem dL_law_576 : decode cL_law 576 = .ok (.iconst 0, 1) := by decide +kernel
theorem dL_law_577 : decode cL_law 577 = .ok (.ireturn, 1) := by decide +kernel
theorem dL_law_578 : decode cL_law 578 = .ok (.iload 6, 2) := by decide +kernel
theorem dL_law_580 : decode cL_law 580 = .ok (.ifCond .ne 35, 3) := by decide +kernel
theorem dL_law_583 : decode cL_law 583 = .ok (.aload 4, 2) := by decide +kernel
theorem dL_law_585 : decode cL_law 585 = .ok (.iconst 0, 1) := by decide +kernel
theorem dL_law_586 : decode cL_law 586 = .ok (.daload, 1) := by decide +kernel
theorem dL_law_587 : decode cL_law 587 = .ok (.dload 7, 2) := by decide +kernel
theorem dL_law_589 : decode cL_law 589 = .ok (.dcmp .l, 1) := by decide +kernel
theorem dL_law_590 : decode cL_law 590 = .ok (.ifCond .eq 25, 3) := by decide +kernel
theorem dL_law_593 : decode cL_law 593 = .ok (.aload 4, 2) := by decide +kernel
theorem dL_law_595 : decode cL_law 595 = .ok (.iconst 0, 1) := by decide +kernel
theorem dL_law_596 : decode cL_law 596 = .ok (.daload, 1) := by decide +kernel
theorem dL_law_597 : decode cL_law 597 = .ok (.aload 4, 2) := by decide +kernel
theorem dL_law_599 : decode cL_law 599 = .ok (.iconst 0, 1) := by decide +kernel
theorem dL_law_600 : decode cL_law 600 = .ok (.daload, 1) := by decide +kernel
theorem dL_law_601 : decode cL_law 601 = .ok (.dcmp .l, 1) := by decide +kernel
theorem dL_law_602 : decode cL_law 602 = .ok (.ifCond .eq 11, 3) := by decide +kernel
theorem dL_law_605 : decode cL_law 605 = .ok (.dload 7, 2) := by decide +kernel
theorem dL_law_607 : decode cL_law 607 = .ok (.dload 7, 2) := by decide +kernel
theorem dL_law_609 : decode cL_law 609 = .ok (.dcmp .l, 1) := by decide +kernel
theorem dL_law_610 : decode cL_law 610 = .ok (.ifCond .ne 5, 3) := by decide +kernel
theorem dL_law_613 : decode cL_law 613 = .ok (.iconst 0, 1) := by decide +kernel
theorem dL_law_614 : decode cL_law 614 = .ok (.ireturn, 1) := by decide +kernel
theorem dL_law_615 : decode cL_law 615 = .ok (.goto 558, 3) := by decide +kernel
theorem dL_law_618 : decode cL_law 618 = .ok (.aload_n 1, 1) := by decide +kernel
theorem dL_law_619 : decode cL_law 619 = .ok (.aload_n 0, 1) := by decide +kernel
theorem dL_law_620 : decode cL_law 620 = .ok (.iload 5, 2) := by decide +kernel
theorem dL_law_622 : decode cL_law 622 = .ok (.iconst 1, 1) := by decide +kernel
theorem dL_law_623 : decode cL_law 623 = .ok (.iadd, 1) := by decide +kernel
theorem dL_law_624 : decode cL_law 624 = .ok (.iaload, 1) := by decide +kernel
theorem dL_law_625 : decode cL_law 625 = .ok (.aload_n 0, 1) := by decide +kernel
theorem dL_law_626 : decode cL_law 626 = .ok (.iload 5, 2) := by decide +kernel
theorem dL_law_628 : decode cL_law 628 = .ok (.iconst 2, 1) := by decide +kernel
theorem dL_law_629 : decode cL_law 629 = .ok (.iadd, 1) := by decide +kernel
theorem dL_law_630 : decode cL_law 630 = .ok (.iaload, 1) := by decide +kernel
theorem dL_law_631 : decode cL_law 631 = .ok (.aload_n 3, 1) := by decide +kernel
theorem dL_law_632 : decode cL_law 632 = .ok (.invokestatic 105, 3) := by decide +kernel
theorem dL_law_635 : decode cL_law 635 = .ok (.istore 6, 2) := by decide +kernel
theorem dL_law_637 : decode cL_law 637 = .ok (.aload_n 2, 1) := by decide +kernel
theorem dL_law_638 : decode cL_law 638 = .ok (.aload_n 0, 1) := by decide +kernel
theorem dL_law_639 : decode cL_law 639 = .ok (.iload 5, 2) := by decide +kernel
theorem dL_law_641 : decode cL_law 641 = .ok (.iconst 1, 1) := by decide +kernel
theorem dL_law_642 : decode cL_law 642 = .ok (.iadd, 1) := by decide +kernel
theorem dL_law_643 : decode cL_law 643 = .ok (.iaload, 1) := by decide +kernel
theorem dL_law_644 : decode cL_law 644 = .ok (.aload_n 0, 1) := by decide +kernel
theorem dL_law_645 : decode cL_law 645 = .ok (.iload 5, 2) := by decide +kernel
theorem dL_law_647 : decode cL_law 647 = .ok (.iconst 2, 1) := by decide +kernel
theorem dL_law_648 : decode cL_law 648 = .ok (.iadd, 1) := by decide +kernel
theorem dL_law_649 : decode cL_law 649 = .ok (.iaload, 1) := by decide +kernel
theorem dL_law_650 : decode cL_law 650 = .ok (.invokevirtual 107, 3) := by decide +kernel
theorem dL_law_653 : decode cL_law 653 = .ok (.istore 7, 2) := by decide +kernel
theorem dL_law_655 : decode cL_law 655 = .ok (.aload_n 2, 1) := by decide +kernel
theorem dL_law_656 : decode cL_law 656 = .ok (.invokevirtual 77, 3) := by decide +kernel
theorem dL_law_659 : decode cL_law 659 = .ok (.iload 6, 2) := by decide +kernel
theorem dL_law_661 : decode cL_law 661 = .ok (.if_icmp .eq 5, 3) := by decide +kernel
theorem dL_law_664 : decode cL_law 664 = .ok (.iconst 0, 1) := by decide +kernel
theorem dL_law_665 : decode cL_law 665 = .ok (.ireturn, 1) := by decide +kernel
theorem dL_law_666 : decode cL_law 666 = .ok (.iload 6, 2) := by decide +kernel
theorem dL_law_668 : decode cL_law 668 = .ok (.ifCond .ne 15, 3) := by decide +kernel
theorem dL_law_671 : decode cL_law 671 = .ok (.aload_n 3, 1) := by decide +kernel
theorem dL_law_672 : decode cL_law 672 = .ok (.iconst 0, 1) := by decide +kernel
theorem dL_law_673 : decode cL_law 673 = .ok (.laload, 1) := by decide +kernel
theorem dL_law_674 : decode cL_law 674 = .ok (.iload 7, 2) := by decide +kernel
theorem dL_law_676 : decode cL_law 676 = .ok (.i2l, 1) := by decide +kernel
theorem dL_law_677 : decode cL_law 677 = .ok (.lcmp, 1) := by decide +kernel
theorem dL_law_678 : decode cL_law 678 = .ok (.ifCond .eq 5, 3) := by decide +kernel
theorem dL_law_681 : decode cL_law 681 = .ok (.iconst 0, 1) := by decide +kernel
theorem dL_law_682 : decode cL_law 682 = .ok (.ireturn, 1) := by decide +kernel
theorem dL_law_683 : decode cL_law 683 = .ok (.goto 490, 3) := by decide +kernel
theorem dL_law_686 : decode cL_law 686 = .ok (.aload_n 1, 1) := by decide +kernel
theorem dL_law_687 : decode cL_law 687 = .ok (.aload_n 0, 1) := by decide +kernel
theorem dL_law_688 : decode cL_law 688 = .ok (.iload 5, 2) := by decide +kernel
theorem dL_law_690 : decode cL_law 690 = .ok (.iconst 1, 1) := by decide +kernel
theorem dL_law_691 : decode cL_law 691 = .ok (.iadd, 1) := by decide +kernel
theorem dL_law_692 : decode cL_law 692 = .ok (.iaload, 1) := by decide +kernel
theorem dL_law_693 : decode cL_law 693 = .ok (.aload_n 0, 1) := by decide +kernel
theorem dL_law_694 : decode cL_law 694 = .ok (.iload 5, 2) := by decide +kernel
theorem dL_law_696 : decode cL_law 696 = .ok (.iconst 2, 1) := by decide +kernel
theorem dL_law_697 : decode cL_law 697 = .ok (.iadd, 1) := by decide +kernel
theorem dL_law_698 : decode cL_law 698 = .ok (.iaload, 1) := by decide +kernel
theorem dL_law_699 : decode cL_law 699 = .ok (.aload_n 3, 1) := by decide +kernel
theorem dL_law_700 : decode cL_law 700 = .ok (.invokestatic 108, 3) := by decide +kernel
theorem dL_law_703 : decode cL_law 703 = .ok (.istore 6, 2) := by decide +kernel
theorem dL_law_705 : decode cL_law 705 = .ok (.aload_n 2, 1) := by decide +kernel
theorem dL_law_706 : decode cL_law 706 = .ok (.aload_n 0, 1) := by decide +kernel
theorem dL_law_707 : decode cL_law 707 = .ok (.iload 5, 2) := by decide +kernel
theorem dL_law_709 : decode cL_law 709 = .ok (.iconst 1, 1) := by decide +kernel
theorem dL_law_710 : decode cL_law 710 = .ok (.iadd, 1) := by decide +kernel
theorem dL_law_711 : decode cL_law 711 = .ok (.iaload, 1) := by decide +kernel
theorem dL_law_712 : decode cL_law 712 = .ok (.aload_n 0, 1) := by decide +kernel
theorem dL_law_713 : decode cL_law 713 = .ok (.iload 5, 2) := by decide +kernel
theorem dL_law_715 : decode cL_law 715 = .ok (.iconst 2, 1) := by decide +kernel
theorem dL_law_716 : decode cL_law 716 = .ok (.iadd, 1) := by decide +kernel
theorem dL_law_717 : decode cL_law 717 = .ok (.iaload, 1) := by decide +kernel
theorem dL_law_718 : decode cL_law 718 = .ok (.invokevirtual 110, 3) := by decide +kernel
theorem dL_law_721 : decode cL_law 721 = .ok (.istore 7, 2) := by decide +kernel
theorem dL_law_723 : decode cL_law 723 = .ok (.aload_n 2, 1) := by decide +kernel
theorem dL_law_724 : decode cL_law 724 = .ok (.invokevirtual 77, 3) := by decide +kernel
theorem dL_law_727 : decode cL_law 727 = .ok (.iload 6, 2) := by decide +kernel
theorem dL_law_729 : decode cL_law 729 = .ok (.if_icmp .eq 5, 3) := by decide +kernel
theorem dL_law_732 : decode cL_law 732 = .ok (.iconst 0, 1) := by decide +kernel
theorem dL_law_733 : decode cL_law 733 = .ok (.ireturn, 1) := by decide +kernel
theorem dL_law_734 : decode cL_law 734 = .ok (.iload 6, 2) := by decide +kernel
theorem dL_law_736 : decode cL_law 736 = .ok (.ifCond .ne 15, 3) := by decide +kernel
theorem dL_law_739 : decode cL_law 739 = .ok (.aload_n 3, 1) := by decide +kernel
theorem dL_law_740 : decode cL_law 740 = .ok (.iconst 0, 1) := by decide +kernel
theorem dL_law_741 : decode cL_law 741 = .ok (.laload, 1) := by decide +kernel
theorem dL_law_742 : decode cL_law 742 = .ok (.iload 7, 2) := by decide +kernel
theorem dL_law_744 : decode cL_law 744 = .ok (.i2l, 1) := by decide +kernel
theorem dL_law_745 : decode cL_law 745 = .ok (.lcmp, 1) := by decide +kernel
theorem dL_law_746 : decode cL_law 746 = .ok (.ifCond .eq 5, 3) := by decide +kernel
theorem dL_law_749 : decode cL_law 749 = .ok (.iconst 0, 1) := by decide +kernel
theorem dL_law_750 : decode cL_law 750 = .ok (.ireturn, 1) := by decide +kernel
theorem dL_law_751 : decode cL_law 751 = .ok (.goto 422, 3) := by decide +kernel
theorem dL_law_754 : decode cL_law 754 = .ok (.aload_n 1, 1) := by decide +kernel
theorem dL_law_755 : decode cL_law 755 = .ok (.aload_n 0, 1) := by decide +kernel
theorem dL_law_756 : decode cL_law 756 = .ok (.iload 5, 2) := by decide +kernel
theorem dL_law_758 : decode cL_law 758 = .ok (.iconst 1, 1) := by decide +kernel
theorem dL_law_759 : decode cL_law 759 = .ok (.iadd, 1) := by decide +kernel
theorem dL_law_760 : decode cL_law 760 = .ok (.iaload, 1) := by decide +kernel
theorem dL_law_761 : decode cL_law 761 = .ok (.aload_n 3, 1) := by decide +kernel
theorem dL_law_762 : decode cL_law 762 = .ok (.invokestatic 111, 3) := by decide +kernel
theorem dL_law_765 : decode cL_law 765 = .ok (.istore 6, 2) := by decide +kernel
theorem dL_law_767 : decode cL_law 767 = .ok (.aload_n 2, 1) := by decide +kernel
theorem dL_law_768 : decode cL_law 768 = .ok (.aload_n 0, 1) := by decide +kernel
theorem dL_law_769 : decode cL_law 769 = .ok (.iload 5, 2) := by decide +kernel
theorem dL_law_771 : decode cL_law 771 = .ok (.iconst 1, 1) := by decide +kernel
theorem dL_law_772 : decode cL_law 772 = .ok (.iadd, 1) := by decide +kernel
theorem dL_law_773 : decode cL_law 773 = .ok (.iaload, 1) := by decide +kernel
theorem dL_law_774 : decode cL_law 774 = .ok (.invokevirtual 113, 3) := by decide +kernel
theorem dL_law_777 : decode cL_law 777 = .ok (.istore 7, 2) := by decide +kernel
theorem dL_law_779 : decode cL_law 779 = .ok (.aload_n 2, 1) := by decide +kernel
theorem dL_law_780 : decode cL_law 780 = .ok (.invokevirtual 77, 3) := by decide +kernel
theorem dL_law_783 : decode cL_law 783 = .ok (.iload 6, 2) := by decide +kernel
theorem dL_law_785 : decode cL_law 785 = .ok (.if_icmp .eq 5, 3) := by decide +kernel
theorem dL_law_788 : decode cL_law 788 = .ok (.iconst 0, 1) := by decide +kernel
theorem dL_law_789 : decode cL_law 789 = .ok (.ireturn, 1) := by decide +kernel
theorem dL_law_790 : decode cL_law 790 = .ok (.iload 6, 2) := by decide +kernel
theorem dL_law_792 : decode cL_law 792 = .ok (.ifCond .ne 15, 3) := by decide +kernel
theorem dL_law_795 : decode cL_law 795 = .ok (.aload_n 3, 1) := by decide +kernel
theorem dL_law_796 : decode cL_law 796 = .ok (.iconst 0, 1) := by decide +kernel
theorem dL_law_797 : decode cL_law 797 = .ok (.laload, 1) := by decide +kernel
theorem dL_law_798 : decode cL_law 798 = .ok (.iload 7, 2) := by decide +kernel
theorem dL_law_800 : decode cL_law 800 = .ok (.i2l, 1) := by decide +kernel
theorem dL_law_801 : decode cL_law 801 = .ok (.lcmp, 1) := by decide +kernel
theorem dL_law_802 : decode cL_law 802 = .ok (.ifCond .eq 5, 3) := by decide +kernel
theorem dL_law_805 : decode cL_law 805 = .ok (.iconst 0, 1) := by decide +kernel
theorem dL_law_806 : decode cL_law 806 = .ok (.ireturn, 1) := by decide +kernel
theorem dL_law_807 : decode cL_law 807 = .ok (.goto 366, 3) := by decide +kernel
theorem dL_law_810 : decode cL_law 810 = .ok (.aload_n 1, 1) := by decide +kernel
theorem dL_law_811 : decode cL_law 811 = .ok (.aload_n 0, 1) := by decide +kernel
theorem dL_law_812 : decode cL_law 812 = .ok (.iload 5, 2) := by decide +kernel
theorem dL_law_814 : decode cL_law 814 = .ok (.iconst 1, 1) := by decide +kernel
theorem dL_law_815 : decode cL_law 815 = .ok (.iadd, 1) := by decide +kernel
theorem dL_law_816 : decode cL_law 816 = .ok (.iaload, 1) := by decide +kernel
theorem dL_law_817 : decode cL_law 817 = .ok (.aload_n 0, 1) := by decide +kernel
theorem dL_law_818 : decode cL_law 818 = .ok (.iload 5, 2) := by decide +kernel
theorem dL_law_820 : decode cL_law 820 = .ok (.iconst 2, 1) := by decide +kernel
theorem dL_law_821 : decode cL_law 821 = .ok (.iadd, 1) := by decide +kernel
theorem dL_law_822 : decode cL_law 822 = .ok (.iaload, 1) := by decide +kernel
theorem dL_law_823 : decode cL_law 823 = .ok (.aload_n 3, 1) := by decide +kernel
theorem dL_law_824 : decode cL_law 824 = .ok (.invokestatic 114, 3) := by decide +kernel
theorem dL_law_827 : decode cL_law 827 = .ok (.istore 6, 2) := by decide +kernel
theorem dL_law_829 : decode cL_law 829 = .ok (.aload_n 2, 1) := by decide +kernel
theorem dL_law_830 : decode cL_law 830 = .ok (.aload_n 0, 1) := by decide +kernel
theorem dL_law_831 : decode cL_law 831 = .ok (.iload 5, 2) := by decide +kernel
theorem dL_law_833 : decode cL_law 833 = .ok (.iconst 1, 1) := by decide +kernel
theorem dL_law_834 : decode cL_law 834 = .ok (.iadd, 1) := by decide +kernel
theorem dL_law_835 : decode cL_law 835 = .ok (.iaload, 1) := by decide +kernel
theorem dL_law_836 : decode cL_law 836 = .ok (.aload_n 0, 1) := by decide +kernel
theorem dL_law_837 : decode cL_law 837 = .ok (.iload 5, 2) := by decide +kernel
theorem dL_law_839 : decode cL_law 839 = .ok (.iconst 2, 1) := by decide +kernel
theorem dL_law_840 : decode cL_law 840 = .ok (.iadd, 1) := by decide +kernel
theorem dL_law_841 : decode cL_law 841 = .ok (.iaload, 1) := by decide +kernel
theorem dL_law_842 : decode cL_law 842 = .ok (.invokevirtual 116, 3) := by decide +kernel
theorem dL_law_845 : decode cL_law 845 = .ok (.istore 7, 2) := by decide +kernel
theorem dL_law_847 : decode cL_law 847 = .ok (.aload_n 2, 1) := by decide +kernel
theorem dL_law_848 : decode cL_law 848 = .ok (.invokevirtual 77, 3) := by decide +kernel
theorem dL_law_851 : decode cL_law 851 = .ok (.iload 6, 2) := by decide +kernel
theorem dL_law_853 : decode cL_law 853 = .ok (.if_icmp .eq 5, 3) := by decide +kernel
theorem dL_law_856 : decode cL_law 856 = .ok (.iconst 0, 1) := by decide +kernel
theorem dL_law_857 : decode cL_law 857 = .ok (.ireturn, 1) := by decide +kernel
theorem dL_law_858 : decode cL_law 858 = .ok (.iload 6, 2) := by decide +kernel
theorem dL_law_860 : decode cL_law 860 = .ok (.ifCond .ne 22, 3) := by decide +kernel
theorem dL_law_863 : decode cL_law 863 = .ok (.aload_n 3, 1) := by decide +kernel
theorem dL_law_864 : decode cL_law 864 = .ok (.iconst 0, 1) := by decide +kernel
theorem dL_law_865 : decode cL_law 865 = .ok (.laload, 1) := by decide +kernel
theorem dL_law_866 : decode cL_law 866 = .ok (.iload 7, 2) := by decide +kernel
theorem dL_law_868 : decode cL_law 868 = .ok (.ifCond .eq 7, 3) := by decide +kernel
theorem dL_law_871 : decode cL_law 871 = .ok (.lconst 1, 1) := by decide +kernel
theorem dL_law_872 : decode cL_law 872 = .ok (.goto 4, 3) := by decide +kernel
theorem dL_law_875 : decode cL_law 875 = .ok (.lconst 0, 1) := by decide +kernel
theorem dL_law_876 : decode cL_law 876 = .ok (.lcmp, 1) := by decide +kernel
theorem dL_law_877 : decode cL_law 877 = .ok (.ifCond .eq 5, 3) := by decide +kernel
theorem dL_law_880 : decode cL_law 880 = .ok (.iconst 0, 1) := by decide +kernel
theorem dL_law_881 : decode cL_law 881 = .ok (.ireturn, 1) := by decide +kernel
theorem dL_law_882 : decode cL_law 882 = .ok (.goto 291, 3) := by decide +kernel
theorem dL_law_885 : decode cL_law 885 = .ok (.aload_n 1, 1) := by decide +kernel
theorem dL_law_886 : decode cL_law 886 = .ok (.aload_n 0, 1) := by decide +kernel
theorem dL_law_887 : decode cL_law 887 = .ok (.iload 5, 2) := by decide +kernel
theorem dL_law_889 : decode cL_law 889 = .ok (.iconst 1, 1) := by decide +kernel
theorem dL_law_890 : decode cL_law 890 = .ok (.iadd, 1) := by decide +kernel
theorem dL_law_891 : decode cL_law 891 = .ok (.iaload, 1) := by decide +kernel
theorem dL_law_892 : decode cL_law 892 = .ok (.aload_n 0, 1) := by decide +kernel
theorem dL_law_893 : decode cL_law 893 = .ok (.iload 5, 2) := by decide +kernel
theorem dL_law_895 : decode cL_law 895 = .ok (.iconst 2, 1) := by decide +kernel
theorem dL_law_896 : decode cL_law 896 = .ok (.iadd, 1) := by decide +kernel
theorem dL_law_897 : decode cL_law 897 = .ok (.iaload, 1) := by decide +kernel
theorem dL_law_898 : decode cL_law 898 = .ok (.aload_n 0, 1) := by decide +kernel
theorem dL_law_899 : decode cL_law 899 = .ok (.iload 5, 2) := by decide +kernel
theorem dL_law_901 : decode cL_law 901 = .ok (.iconst 3, 1) := by decide +kernel
theorem dL_law_902 : decode cL_law 902 = .ok (.iadd, 1) := by decide +kernel
theorem dL_law_903 : decode cL_law 903 = .ok (.iaload, 1) := by decide +kernel
theorem dL_law_904 : decode cL_law 904 = .ok (.aload 4, 2) := by decide +kernel
theorem dL_law_906 : decode cL_law 906 = .ok (.invokestatic 117, 3) := by decide +kernel
theorem dL_law_909 : decode cL_law 909 = .ok (.istore 6, 2) := by decide +kernel
theorem dL_law_911 : decode cL_law 911 = .ok (.aload_n 2, 1) := by decide +kernel
theorem dL_law_912 : decode cL_law 912 = .ok (.aload_n 0, 1) := by decide +kernel
theorem dL_law_913 : decode cL_law 913 = .ok (.iload 5, 2) := by decide +kernel
theorem dL_law_915 : decode cL_law 915 = .ok (.iconst 1, 1) := by decide +kernel
theorem dL_law_916 : decode cL_law 916 = .ok (.iadd, 1) := by decide +kernel
theorem dL_law_917 : decode cL_law 917 = .ok (.iaload, 1) := by decide +kernel
theorem dL_law_918 : decode cL_law 918 = .ok (.aload_n 0, 1) := by decide +kernel
theorem dL_law_919 : decode cL_law 919 = .ok (.iload 5, 2) := by decide +kernel
theorem dL_law_921 : decode cL_law 921 = .ok (.iconst 2, 1) := by decide +kernel
theorem dL_law_922 : decode cL_law 922 = .ok (.iadd, 1) := by decide +kernel
theorem dL_law_923 : decode cL_law 923 = .ok (.iaload, 1) := by decide +kernel
theorem dL_law_924 : decode cL_law 924 = .ok (.aload_n 0, 1) := by decide +kernel
theorem dL_law_925 : decode cL_law 925 = .ok (.iload 5, 2) := by decide +kernel
theorem dL_law_927 : decode cL_law 927 = .ok (.iconst 3, 1) := by decide +kernel
theorem dL_law_928 : decode cL_law 928 = .ok (.iadd, 1) := by decide +kernel
theorem dL_law_929 : decode cL_law 929 = .ok (.iaload, 1) := by decide +kernel
theorem dL_law_930 : decode cL_law 930 = .ok (.invokevirtual 120, 3) := by decide +kernel
theorem dL_law_933 : decode cL_law 933 = .ok (.dstore 7, 2) := by decide +kernel
theorem dL_law_935 : decode cL_law 935 = .ok (.aload_n 2, 1) := by decide +kernel
theorem dL_law_936 : decode cL_law 936 = .ok (.invokevirtual 77, 3) := by decide +kernel
theorem dL_law_939 : decode cL_law 939 = .ok (.iload 6, 2) := by decide +kernel
theorem dL_law_941 : decode cL_law 941 = .ok (.if_icmp .eq 5, 3) := by decide +kernel
theorem dL_law_944 : decode cL_law 944 = .ok (.iconst 0, 1) := by decide +kernel
theorem dL_law_945 : decode cL_law 945 = .ok (.ireturn, 1) := by decide +kernel
theorem dL_law_946 : decode cL_law 946 = .ok (.iload 6, 2) := by decide +kernel
theorem dL_law_948 : decode cL_law 948 = .ok (.ifCond .ne 35, 3) := by decide +kernel
theorem dL_law_951 : decode cL_law 951 = .ok (.aload 4, 2) := by decide +kernel
theorem dL_law_953 : decode cL_law 953 = .ok (.iconst 0, 1) := by decide +kernel
theorem dL_law_954 : decode cL_law 954 = .ok (.daload, 1) := by decide +kernel
theorem dL_law_955 : decode cL_law 955 = .ok (.dload 7, 2) := by decide +kernel
theorem dL_law_957 : decode cL_law 957 = .ok (.dcmp .l, 1) := by decide +kernel
theorem dL_law_958 : decode cL_law 958 = .ok (.ifCond .eq 25, 3) := by decide +kernel
theorem dL_law_961 : decode cL_law 961 = .ok (.aload 4, 2) := by decide +kernel
theorem dL_law_963 : decode cL_law 963 = .ok (.iconst 0, 1) := by decide +kernel
theorem dL_law_964 : decode cL_law 964 = .ok (.daload, 1) := by decide +kernel
theorem dL_law_965 : decode cL_law 965 = .ok (.aload 4, 2) := by decide +kernel
theorem dL_law_967 : decode cL_law 967 = .ok (.iconst 0, 1) := by decide +kernel
theorem dL_law_968 : decode cL_law 968 = .ok (.daload, 1) := by decide +kernel
theorem dL_law_969 : decode cL_law 969 = .ok (.dcmp .l, 1) := by decide +kernel
theorem dL_law_970 : decode cL_law 970 = .ok (.ifCond .eq 11, 3) := by decide +kernel
theorem dL_law_973 : decode cL_law 973 = .ok (.dload 7, 2) := by decide +kernel
theorem dL_law_975 : decode cL_law 975 = .ok (.dload 7, 2) := by decide +kernel
theorem dL_law_977 : decode cL_law 977 = .ok (.dcmp .l, 1) := by decide +kernel
theorem dL_law_978 : decode cL_law 978 = .ok (.ifCond .ne 5, 3) := by decide +kernel
theorem dL_law_981 : decode cL_law 981 = .ok (.iconst 0, 1) := by decide +kernel
theorem dL_law_982 : decode cL_law 982 = .ok (.ireturn, 1) := by decide +kernel
theorem dL_law_983 : decode cL_law 983 = .ok (.goto 190, 3) := by decide +kernel
theorem dL_law_986 : decode cL_law 986 = .ok (.aload_n 1, 1) := by decide +kernel
theorem dL_law_987 : decode cL_law 987 = .ok (.aload_n 0, 1) := by decide +kernel
theorem dL_law_988 : decode cL_law 988 = .ok (.iload 5, 2) := by decide +kernel
theorem dL_law_990 : decode cL_law 990 = .ok (.iconst 1, 1) := by decide +kernel
theorem dL_law_991 : decode cL_law 991 = .ok (.iadd, 1) := by decide +kernel
theorem dL_law_992 : decode cL_law 992 = .ok (.iaload, 1) := by decide +kernel
theorem dL_law_993 : decode cL_law 993 = .ok (.aload_n 0, 1) := by decide +kernel
theorem dL_law_994 : decode cL_law 994 = .ok (.iload 5, 2) := by decide +kernel
theorem dL_law_996 : decode cL_law 996 = .ok (.iconst 2, 1) := by decide +kernel
theorem dL_law_997 : decode cL_law 997 = .ok (.iadd, 1) := by decide +kernel
theorem dL_law_998 : decode cL_law 998 = .ok (.iaload, 1) := by decide +kernel
theorem dL_law_999 : decode cL_law 999 = .ok (.aload 4, 2) := by decide +kernel
theorem dL_law_1001 : decode cL_law 1001 = .ok (.invokestatic 121, 3) := by decide +kernel
theorem dL_law_1004 : decode cL_law 1004 = .ok (.istore 6, 2) := by decide +kernel
theorem dL_law_1006 : decode cL_law 1006 = .ok (.aload_n 2, 1) := by decide +kernel
theorem dL_law_1007 : decode cL_law 1007 = .ok (.aload_n 0, 1) := by decide +kernel
theorem dL_law_1008 : decode cL_law 1008 = .ok (.iload 5, 2) := by decide +kernel
theorem dL_law_1010 : decode cL_law 1010 = .ok (.iconst 1, 1) := by decide +kernel
theorem dL_law_1011 : decode cL_law 1011 = .ok (.iadd, 1) := by decide +kernel
theorem dL_law_1012 : decode cL_law 1012 = .ok (.iaload, 1) := by decide +kernel
theorem dL_law_1013 : decode cL_law 1013 = .ok (.aload_n 0, 1) := by decide +kernel
theorem dL_law_1014 : decode cL_law 1014 = .ok (.iload 5, 2) := by decide +kernel
theorem dL_law_1016 : decode cL_law 1016 = .ok (.iconst 2, 1) := by decide +kernel
theorem dL_law_1017 : decode cL_law 1017 = .ok (.iadd, 1) := by decide +kernel
theorem dL_law_1018 : decode cL_law 1018 = .ok (.iaload, 1) := by decide +kernel
theorem dL_law_1019 : decode cL_law 1019 = .ok (.invokevirtual 124, 3) := by decide +kernel
theorem dL_law_1022 : decode cL_law 1022 = .ok (.dstore 7, 2) := by decide +kernel
theorem dL_law_1024 : decode cL_law 1024 = .ok (.aload_n 2, 1) := by decide +kernel
theorem dL_law_1025 : decode cL_law 1025 = .ok (.invokevirtual 77, 3) := by decide +kernel
theorem dL_law_1028 : decode cL_law 1028 = .ok (.iload 6, 2) := by decide +kernel
theorem dL_law_1030 : decode cL_law 1030 = .ok (.if_icmp .eq 5, 3) := by decide +kernel
theorem dL_law_1033 : decode cL_law 1033 = .ok (.iconst 0, 1) := by decide +kernel
theorem dL_law_1034 : decode cL_law 1034 = .ok (.ireturn, 1) := by decide +kernel
theorem dL_law_1035 : decode cL_law 1035 = .ok (.iload 6, 2) := by decide +kernel
theorem dL_law_1037 : decode cL_law 1037 = .ok (.ifCond .ne 35, 3) := by decide +kernel
theorem dL_law_1040 : decode cL_law 1040 = .ok (.aload 4, 2) := by decide +kernel
theorem dL_law_1042 : decode cL_law 1042 = .ok (.iconst 0, 1) := by decide +kernel
theorem dL_law_1043 : decode cL_law 1043 = .ok (.daload, 1) := by decide +kernel
theorem dL_law_1044 : decode cL_law 1044 = .ok (.dload 7, 2) := by decide +kernel
theorem dL_law_1046 : decode cL_law 1046 = .ok (.dcmp .l, 1) := by decide +kernel
theorem dL_law_1047 : decode cL_law 1047 = .ok (.ifCond .eq 25, 3) := by decide +kernel
theorem dL_law_1050 : decode cL_law 1050 = .ok (.aload 4, 2) := by decide +kernel
theorem dL_law_1052 : decode cL_law 1052 = .ok (.iconst 0, 1) := by decide +kernel
theorem dL_law_1053 : decode cL_law 1053 = .ok (.daload, 1) := by decide +kernel
theorem dL_law_1054 : decode cL_law 1054 = .ok (.aload 4, 2) := by decide +kernel
theorem dL_law_1056 : decode cL_law 1056 = .ok (.iconst 0, 1) := by decide +kernel
theorem dL_law_1057 : decode cL_law 1057 = .ok (.daload, 1) := by decide +kernel
theorem dL_law_1058 : decode cL_law 1058 = .ok (.dcmp .l, 1) := by decide +kernel
theorem dL_law_1059 : decode cL_law 1059 = .ok (.ifCond .eq 11, 3) := by decide +kernel
theorem dL_law_1062 : decode cL_law 1062 = .ok (.dload 7, 2) := by decide +kernel
theorem dL_law_1064 : decode cL_law 1064 = .ok (.dload 7, 2) := by decide +kernel
theorem dL_law_1066 : decode cL_law 1066 = .ok (.dcmp .l, 1) := by decide +kernel
theorem dL_law_1067 : decode cL_law 1067 = .ok (.ifCond .ne 5, 3) := by decide +kernel
theorem dL_law_1070 : decode cL_law 1070 = .ok (.iconst 0, 1) := by decide +kernel
theorem dL_law_1071 : decode cL_law 1071 = .ok (.ireturn, 1) := by decide +kernel
theorem dL_law_1072 : decode cL_law 1072 = .ok (.goto 101, 3) := by decide +kernel
theorem dL_law_1075 : decode cL_law 1075 = .ok (.aload_n 1, 1) := by decide +kernel
theorem dL_law_1076 : decode cL_law 1076 = .ok (.aload_n 0, 1) := by decide +kernel
theorem dL_law_1077 : decode cL_law 1077 = .ok (.iload 5, 2) := by decide +kernel
theorem dL_law_1079 : decode cL_law 1079 = .ok (.iconst 1, 1) := by decide +kernel
theorem dL_law_1080 : decode cL_law 1080 = .ok (.iadd, 1) := by decide +kernel
theorem dL_law_1081 : decode cL_law 1081 = .ok (.iaload, 1) := by decide +kernel
theorem dL_law_1082 : decode cL_law 1082 = .ok (.aload_n 0, 1) := by decide +kernel
theorem dL_law_1083 : decode cL_law 1083 = .ok (.iload 5, 2) := by decide +kernel
theorem dL_law_1085 : decode cL_law 1085 = .ok (.iconst 2, 1) := by decide +kernel
theorem dL_law_1086 : decode cL_law 1086 = .ok (.iadd, 1) := by decide +kernel
theorem dL_law_1087 : decode cL_law 1087 = .ok (.iaload, 1) := by decide +kernel
theorem dL_law_1088 : decode cL_law 1088 = .ok (.i2d, 1) := by decide +kernel
theorem dL_law_1089 : decode cL_law 1089 = .ok (.ldc2_w 80, 3) := by decide +kernel
theorem dL_law_1092 : decode cL_law 1092 = .ok (.dmul, 1) := by decide +kernel
theorem dL_law_1093 : decode cL_law 1093 = .ok (.aload_n 3, 1) := by decide +kernel
theorem dL_law_1094 : decode cL_law 1094 = .ok (.invokestatic 125, 3) := by decide +kernel
theorem dL_law_1097 : decode cL_law 1097 = .ok (.istore 6, 2) := by decide +kernel
theorem dL_law_1099 : decode cL_law 1099 = .ok (.aload_n 2, 1) := by decide +kernel
theorem dL_law_1100 : decode cL_law 1100 = .ok (.aload_n 0, 1) := by decide +kernel
theorem dL_law_1101 : decode cL_law 1101 = .ok (.iload 5, 2) := by decide +kernel
theorem dL_law_1103 : decode cL_law 1103 = .ok (.iconst 1, 1) := by decide +kernel
theorem dL_law_1104 : decode cL_law 1104 = .ok (.iadd, 1) := by decide +kernel
theorem dL_law_1105 : decode cL_law 1105 = .ok (.iaload, 1) := by decide +kernel
theorem dL_law_1106 : decode cL_law 1106 = .ok (.aload_n 0, 1) := by decide +kernel
theorem dL_law_1107 : decode cL_law 1107 = .ok (.iload 5, 2) := by decide +kernel
theorem dL_law_1109 : decode cL_law 1109 = .ok (.iconst 2, 1) := by decide +kernel
theorem dL_law_1110 : decode cL_law 1110 = .ok (.iadd, 1) := by decide +kernel
theorem dL_law_1111 : decode cL_law 1111 = .ok (.iaload, 1) := by decide +kernel
theorem dL_law_1112 : decode cL_law 1112 = .ok (.i2d, 1) := by decide +kernel
theorem dL_law_1113 : decode cL_law 1113 = .ok (.ldc2_w 80, 3) := by decide +kernel
theorem dL_law_1116 : decode cL_law 1116 = .ok (.dmul, 1) := by decide +kernel
theorem dL_law_1117 : decode cL_law 1117 = .ok (.invokevirtual 127, 3) := by decide +kernel
theorem dL_law_1120 : decode cL_law 1120 = .ok (.istore 7, 2) := by decide +kernel
theorem dL_law_1122 : decode cL_law 1122 = .ok (.aload_n 2, 1) := by decide +kernel
theorem dL_law_1123 : decode cL_law 1123 = .ok (.invokevirtual 77, 3) := by decide +kernel
theorem dL_law_1126 : decode cL_law 1126 = .ok (.iload 6, 2) := by decide +kernel
theorem dL_law_1128 : decode cL_law 1128 = .ok (.if_icmp .eq 5, 3) := by decide +kernel
theorem dL_law_1131 : decode cL_law 1131 = .ok (.iconst 0, 1) := by decide +kernel
theorem dL_law_1132 : decode cL_law 1132 = .ok (.ireturn, 1) := by decide +kernel
theorem dL_law_1133 : decode cL_law 1133 = .ok (.iload 6, 2) := by decide +kernel
theorem dL_law_1135 : decode cL_law 1135 = .ok (.ifCond .ne 22, 3) := by decide +kernel
theorem dL_law_1138 : decode cL_law 1138 = .ok (.aload_n 3, 1) := by decide +kernel
theorem dL_law_1139 : decode cL_law 1139 = .ok (.iconst 0, 1) := by decide +kernel
theorem dL_law_1140 : decode cL_law 1140 = .ok (.laload, 1) := by decide +kernel
theorem dL_law_1141 : decode cL_law 1141 = .ok (.iload 7, 2) := by decide +kernel
theorem dL_law_1143 : decode cL_law 1143 = .ok (.ifCond .eq 7, 3) := by decide +kernel
theorem dL_law_1146 : decode cL_law 1146 = .ok (.lconst 1, 1) := by decide +kernel
theorem dL_law_1147 : decode cL_law 1147 = .ok (.goto 4, 3) := by decide +kernel
theorem dL_law_1150 : decode cL_law 1150 = .ok (.lconst 0, 1) := by decide +kernel
theorem dL_law_1151 : decode cL_law 1151 = .ok (.lcmp, 1) := by decide +kernel
theorem dL_law_1152 : decode cL_law 1152 = .ok (.ifCond .eq 5, 3) := by decide +kernel
theorem dL_law_1155 : decode cL_law 1155 = .ok (.iconst 0, 1) := by decide +kernel
theorem dL_law_1156 : decode cL_law 1156 = .ok (.ireturn, 1) := by decide +kernel
theorem dL_law_1157 : decode cL_law 1157 = .ok (.goto 16, 3) := by decide +kernel
theorem dL_law_1160 : decode cL_law 1160 = .ok (.aload_n 1, 1) := by decide +kernel
theorem dL_law_1161 : decode cL_law 1161 = .ok (.invokevirtual 128, 3) := by decide +kernel
theorem dL_law_1164 : decode cL_law 1164 = .ok (.aload_n 2, 1) := by decide +kernel
theorem dL_law_1165 : decode cL_law 1165 = .ok (.invokevirtual 132, 3) := by decide +kernel
theorem dL_law_1168 : decode cL_law 1168 = .ok (.if_icmp .eq 5, 3) := by decide +kernel
theorem dL_law_1171 : decode cL_law 1171 = .ok (.iconst 0, 1) := by decide +kernel
theorem dL_law_1172 : decode cL_law 1172 = .ok (.ireturn, 1) := by decide +kernel
theorem dL_law_1173 : decode cL_law 1173 = .ok (.iinc 5 4, 3) := by decide +kernel
theorem dL_law_1176 : decode cL_law 1176 = .ok (.goto (-1148), 3) := by decide +kernel
theorem dL_law_1179 : decode cL_law 1179 = .ok (.iconst 1, 1) := by decide +kernel
theorem dL_law_1180 : decode cL_law 1180 = .ok (.ireturn, 1) := by decide +kernel
end
section
/-! ===== a world by roles: a cell's name is a role (kind, number); where the cells lie, only the rows know ===== -/
abbrev px_R : Type := Nat × Nat
abbrev px_V : Type := Value ⊕ px_R
abbrev px_A : Type := (Nat → Int32) ⊕ (Nat → Int64) ⊕ (Nat → UInt64) ⊕ (Nat → Option px_R)
/-- an object (class, fields), an array (kind, length, contents), or an ArrayList -/
abbrev px_O : Type := (Nat × List px_V) ⊕ (Nat × Nat × px_A) ⊕ List px_R
abbrev px_M : Type := px_R → Option px_O
def px_v (ad : px_R → Nat) : px_V → Value
  | .inl v => v
  | .inr r => .ref (ad r)
def px_a (ad : px_R → Nat) : px_A → (Nat → Int32) ⊕ (Nat → Int64) ⊕ (Nat → UInt32) ⊕ (Nat → UInt64) ⊕ (Nat → Option Nat)
  | .inl f => .inl f
  | .inr (.inl f) => .inr (.inl f)
  | .inr (.inr (.inl f)) => .inr (.inr (.inr (.inl f)))
  | .inr (.inr (.inr f)) => .inr (.inr (.inr (.inr fun i => (f i).map ad)))
abbrev px_cl : List vw_C := [(RX0, TX0, 2), (RX1, TX1, 7), (RX2, TX2, 6), (RX3, TX3, 5), (RX4, TX4, 11), (RX5, TX5, 31), (RJx4a65c, TJx4a65c, 3)]
def px_ty : Nat → FieldType
  | 0 => .int
  | 1 => .double
  | 2 => .boolean
  | 3 => .long
  | 4 => .object "PathLists$Step"
  | _ => .object "java/lang/Object"
/-- what a run knows of the machine: classes and slots; array classes; the empty row of all lists; where the law's heap begins; the script -/
abbrev px_G : Type := va_G × (Nat → ClassId) × Nat × Nat × Nat × Nat × (Nat → Int32)
abbrev px_gD (g : px_G) : va_G := g.1
abbrev px_gA (g : px_G) : Nat → ClassId := g.2.1
abbrev px_gE (g : px_G) : Nat := g.2.2.1
abbrev px_gn (g : px_G) : Nat := g.2.2.2.1
abbrev px_gb (g : px_G) : Nat := g.2.2.2.2.1
abbrev px_gL (g : px_G) : Nat := g.2.2.2.2.2.1
abbrev px_gx (g : px_G) : Nat → Int32 := g.2.2.2.2.2.2
abbrev px_AA (g : px_G) : Nat → Prop := fun q => px_gn g ≤ q
def px_tys (g : px_G) : List (ClassId × FieldType) := [(px_gA g 0, .int), (px_gA g 1, .double), (px_gA g 2, .boolean), (px_gA g 3, .long), (px_gA g 4, .object "PathLists$Step"), (px_gA g 5, .object "java/lang/Object")]
def px_at (g : px_G) (ad dd : px_R → Nat) (r : px_R) (H : Heap) : px_O → Prop
  | .inl o => va_at (px_gD g) px_cl (ad r, .inr (o.1, o.2.map (px_v ad))) H
  | .inr (.inl a) => va_at (px_gD g) px_cl (ad r, .inl (px_gA g a.1, a.2.1, px_a ad a.2.2)) H
  | .inr (.inr xs) => ∃ mo : Int32, va_at (px_gD g) px_cl (ad r, .inr (6, [.int mo, .ref (dd r), .int (nI xs.length)])) H ∧
      ((dd r = px_gE g ∧ xs = []) ∨ (dd r ≠ px_gE g ∧ ∃ (n : Nat) (f : Nat → Option Nat), xs.length ≤ n ∧ n ≤ 65536 ∧ (∀ i, i < xs.length → f i = (xs[i]?).map ad) ∧
        va_at (px_gD g) px_cl (dd r, .inl (px_gA g 5, n, .inr (.inr (.inr (.inr f))))) H))
/-- the roles that a cell names are there -/
def px_wf (M : px_M) : px_V → Prop
  | .inl _ => True
  | .inr r => M r ≠ none
def px_cf (M : px_M) : px_O → Prop
  | .inl o => ∀ v ∈ o.2, px_wf M v
  | .inr (.inl a) => match a.2.2 with
    | .inr (.inr (.inr f)) => ∀ i r, f i = some r → M r ≠ none
    | _ => True
  | .inr (.inr xs) => ∀ r ∈ xs, M r ≠ none
def px_own (g : px_G) (ad dd : px_R → Nat) (M : px_M) (r : px_R) (q : Nat) : Prop := q = ad r ∨ (q = dd r ∧ dd r ≠ px_gE g ∧ ∃ xs, M r = some (.inr (.inr xs)))
def px_Vw (g : px_G) (ad dd : px_R → Nat) (M : px_M) (H : Heap) : Prop :=
  (∀ r o, M r = some o → px_at g ad dd r H o) ∧ (∀ r o, M r = some o → px_cf M o) ∧ (∀ r q, M r ≠ none → px_own g ad dd M r q → px_gn g ≤ q) ∧
  (∀ r r' q, M r ≠ none → M r' ≠ none → px_own g ad dd M r q → px_own g ad dd M r' q → r = r') ∧ (∀ r xs, M r = some (.inr (.inr xs)) → ad r ≠ dd r)
def px_up (M : px_M) (r : px_R) (o : px_O) : px_M := fun r' => if r' = r then some o else M r'
theorem px_up_s (M : px_M) (r : px_R) (o : px_O) : px_up M r o r = some o := if_pos rfl
theorem px_up_n (M : px_M) {r r' : px_R} (o : px_O) (h : r' ≠ r) : px_up M r o r' = M r' := if_neg h
theorem px_up_nn {M : px_M} {r r' : px_R} {o : px_O} (h : M r' ≠ none) : px_up M r o r' ≠ none := by
  by_cases e : r' = r
  · rw [e, px_up_s]; exact fun z => by cases z
  · rw [px_up_n M o e]; exact h
theorem px_wf.mono {M M' : px_M} (h : ∀ r, M r ≠ none → M' r ≠ none) {v : px_V} (hv : px_wf M v) : px_wf M' v := by
  cases v with
  | inl v => trivial
  | inr r => exact h r hv
theorem px_cf.mono {M M' : px_M} (h : ∀ r, M r ≠ none → M' r ≠ none) {o : px_O} (ho : px_cf M o) : px_cf M' o := by
  rcases o with o | a | xs
  · exact fun v hv => (ho v hv).mono h
  · obtain ⟨t, n, a⟩ := a
    rcases a with f | f | f | f
    · trivial
    · trivial
    · trivial
    · exact fun i r e => h r (ho i r e)
  · exact fun r hr => h r (ho r hr)
theorem px_v_congr {M : px_M} {ad ad' : px_R → Nat} (h : ∀ r, M r ≠ none → ad' r = ad r) {v : px_V} (hv : px_wf M v) : px_v ad' v = px_v ad v := by
  cases v with
  | inl v => rfl
  | inr r => exact congrArg Value.ref (h r hv)
theorem px_at.obj {g : px_G} {ad dd : px_R → Nat} {r : px_R} {H : Heap} {o : Nat × List px_V} (h : px_at g ad dd r H (.inl o)) : va_at (px_gD g) px_cl (ad r, .inr (o.1, o.2.map (px_v ad))) H := h
theorem px_at.arr {g : px_G} {ad dd : px_R → Nat} {r : px_R} {H : Heap} {a : Nat × Nat × px_A} (h : px_at g ad dd r H (.inr (.inl a))) : va_at (px_gD g) px_cl (ad r, .inl (px_gA g a.1, a.2.1, px_a ad a.2.2)) H := h
/-- a cell stays where its own places stay, and the roles that it names -/
theorem px_at.kept {g : px_G} {ad dd ad' dd' : px_R → Nat} {M : px_M} {H H1 : Heap} {r : px_R} {o : px_O} (hr : M r = some o) (h : px_at g ad dd r H o) (hc : px_cf M o)
    (ha : ∀ r, M r ≠ none → ad' r = ad r ∧ dd' r = dd r) (hq : ∀ q, px_own g ad dd M r q → H1[q]? = H[q]?) : px_at g ad' dd' r H1 o := by
  have hn : M r ≠ none := by rw [hr]; exact fun z => by cases z
  have h1 : H1[ad r]? = H[ad r]? := hq _ (Or.inl rfl)
  rcases o with o | a | xs
  · have e : o.2.map (px_v ad') = o.2.map (px_v ad) := List.map_congr_left fun v hv => px_v_congr (fun r hr => (ha r hr).1) (hc v hv)
    show va_at (px_gD g) px_cl (ad' r, .inr (o.1, o.2.map (px_v ad'))) H1
    rw [e, (ha r hn).1]
    exact va_at.kept (px_at.obj h) h1
  · obtain ⟨t, n, a⟩ := a
    have e : px_a ad' a = px_a ad a := by
      rcases a with f | f | f | f
      · rfl
      · rfl
      · rfl
      · show (Sum.inr (Sum.inr (Sum.inr (Sum.inr _))) : (Nat → Int32) ⊕ (Nat → Int64) ⊕ (Nat → UInt32) ⊕ (Nat → UInt64) ⊕ (Nat → Option Nat)) = _
        congr 4
        funext i
        cases e : f i with
        | none => rfl
        | some x => exact congrArg some (ha x (hc i x e)).1
    show va_at (px_gD g) px_cl (ad' r, .inl (px_gA g t, n, px_a ad' a)) H1
    rw [e, (ha r hn).1]
    exact va_at.kept (px_at.arr h) h1
  · obtain ⟨mo, g1, g2⟩ := h
    refine ⟨mo, ?_, ?_⟩
    · rw [(ha r hn).1, (ha r hn).2]
      exact va_at.kept g1 h1
    · rw [(ha r hn).2]
      rcases g2 with g2 | ⟨g2, n, f, k1, k2, k3, k4⟩
      · exact Or.inl g2
      · refine Or.inr ⟨g2, n, f, k1, k2, fun i hi => ?_, va_at.kept k4 (hq _ (Or.inr ⟨rfl, g2, xs, hr⟩))⟩
        rw [k3 i hi, List.getElem?_eq_getElem hi]
        exact congrArg some (ha _ (hc _ (List.getElem_mem hi))).1.symm
theorem px_at.lt {g : px_G} {ad dd : px_R → Nat} {M : px_M} {H : Heap} {r : px_R} {o : px_O} (hr : M r = some o) (h : px_at g ad dd r H o) {q : Nat} (hq : px_own g ad dd M r q) : q < H.size := by
  rcases hq with rfl | ⟨rfl, h2, xs, h3⟩
  · rcases o with o | a | xs
    · exact va_at.lt (px_at.obj h)
    · exact va_at.lt (px_at.arr h)
    · obtain ⟨mo, g1, -⟩ := h
      exact va_at.lt g1
  · cases hr.symm.trans h3
    obtain ⟨mo, g1, g2⟩ := h
    rcases g2 with g2 | ⟨-, n, f, -, -, -, g5⟩
    · exact absurd g2.1 h2
    · exact va_at.lt g5
theorem px_Vw.lt {g : px_G} {ad dd : px_R → Nat} {M : px_M} {H : Heap} (h : px_Vw g ad dd M H) {r : px_R} (hr : M r ≠ none) : ad r < H.size := by
  cases e : M r with
  | none => exact absurd e hr
  | some o => exact px_at.lt e (h.1 r o e) (Or.inl rfl)
theorem px_Vw.ge {g : px_G} {ad dd : px_R → Nat} {M : px_M} {H : Heap} (h : px_Vw g ad dd M H) {r : px_R} (hr : M r ≠ none) : px_gn g ≤ ad r := h.2.2.1 r _ hr (Or.inl rfl)
theorem px_Vw.inj {g : px_G} {ad dd : px_R → Nat} {M : px_M} {H : Heap} (h : px_Vw g ad dd M H) {r r' : px_R} (hr : M r ≠ none) (hr' : M r' ≠ none) (e : ad r = ad r') : r = r' := h.2.2.2.1 r r' (ad r) hr hr' (Or.inl rfl) (Or.inl e)
/-- a plain cell has another content -/
theorem px_Vw.set {g : px_G} {ad dd : px_R → Nat} {M : px_M} {H H1 : Heap} (h : px_Vw g ad dd M H) {r : px_R} {o o' : px_O} (hr : M r = some o) (ho : ∀ xs, o ≠ .inr (.inr xs)) (ho' : ∀ xs, o' ≠ .inr (.inr xs))
    (h' : px_at g ad dd r H1 o') (hc : px_cf M o') (hq : ∀ q : Nat, q ≠ ad r → H1[q]? = H[q]?) : px_Vw g ad dd (px_up M r o') H1 := by
  have hn : M r ≠ none := by rw [hr]; exact fun z => by cases z
  have hd : ∀ r', px_up M r o' r' ≠ none → M r' ≠ none := fun r' h9 => by
    by_cases e : r' = r
    · rw [e]; exact hn
    · rw [px_up_n M o' e] at h9; exact h9
  have hw : ∀ r' q, px_own g ad dd (px_up M r o') r' q → px_own g ad dd M r' q := by
    intro r' q h9
    rcases h9 with h9 | ⟨h9, h8, xs, h7⟩
    · exact Or.inl h9
    · refine Or.inr ⟨h9, h8, xs, ?_⟩
      by_cases e : r' = r
      · rw [e, px_up_s] at h7; exact absurd (Option.some.inj h7) (ho' xs)
      · rw [px_up_n M o' e] at h7; exact h7
  refine ⟨fun r' x hx => ?_, fun r' x hx => ?_, fun r' q h9 h8 => h.2.2.1 r' q (hd r' h9) (hw r' q h8), fun r1 r2 q h1 h2 h3 h4 => h.2.2.2.1 r1 r2 q (hd r1 h1) (hd r2 h2) (hw r1 q h3) (hw r2 q h4), fun r' xs hx => ?_⟩
  · by_cases e : r' = r
    · subst e
      rw [px_up_s] at hx
      rw [← Option.some.inj hx]; exact h'
    · rw [px_up_n M o' e] at hx
      refine px_at.kept hx (h.1 r' x hx) (h.2.1 r' x hx) (fun _ _ => ⟨rfl, rfl⟩) (fun q h9 => hq q fun z => e ?_)
      exact h.2.2.2.1 r' r q (by rw [hx]; exact fun z => by cases z) hn h9 (Or.inl z)
  · by_cases e : r' = r
    · subst e
      rw [px_up_s] at hx
      rw [← Option.some.inj hx]; exact hc.mono fun _ => px_up_nn
    · rw [px_up_n M o' e] at hx
      exact (h.2.1 r' x hx).mono fun _ => px_up_nn
  · by_cases e : r' = r
    · rw [e, px_up_s] at hx; exact absurd (Option.some.inj hx) (ho' xs)
    · rw [px_up_n M o' e] at hx; exact h.2.2.2.2 r' xs hx
/-- a plain cell more -/
theorem px_Vw.push {g : px_G} {ad dd ad' : px_R → Nat} {M : px_M} {H H1 : Heap} (h : px_Vw g ad dd M H) {r : px_R} {o : px_O} (hr : M r = none) (ho : ∀ xs, o ≠ .inr (.inr xs)) (ha : ad' r = H.size) (han : ∀ r', r' ≠ r → ad' r' = ad r')
    (h' : px_at g ad' dd r H1 o) (hc : px_cf M o) (hn0 : px_gn g ≤ H.size) (hq : ∀ q : Nat, q < H.size → H1[q]? = H[q]?) : px_Vw g ad' dd (px_up M r o) H1 := by
  have hk : ∀ r', M r' ≠ none → ad' r' = ad r' ∧ dd r' = dd r' := fun r' h9 => ⟨han r' fun e => h9 (e ▸ hr), rfl⟩
  have hw : ∀ r' q, px_own g ad' dd (px_up M r o) r' q → (r' = r ∧ q = H.size) ∨ (r' ≠ r ∧ px_own g ad dd M r' q) := by
    intro r' q h9
    by_cases e : r' = r
    · subst e
      rcases h9 with h9 | ⟨-, -, xs, h7⟩
      · exact Or.inl ⟨rfl, h9.trans ha⟩
      · rw [px_up_s] at h7; exact absurd (Option.some.inj h7) (ho xs)
    · rcases h9 with h9 | ⟨h9, h8, xs, h7⟩
      · exact Or.inr ⟨e, Or.inl (h9.trans (han r' e))⟩
      · rw [px_up_n M o e] at h7
        exact Or.inr ⟨e, Or.inr ⟨h9, h8, xs, h7⟩⟩
  have hlt : ∀ r' q, r' ≠ r → px_up M r o r' ≠ none → px_own g ad dd M r' q → q < H.size := by
    intro r' q e h9 h8
    rw [px_up_n M o e] at h9
    cases e9 : M r' with
    | none => exact absurd e9 h9
    | some x => exact px_at.lt e9 (h.1 r' x e9) h8
  refine ⟨fun r' x hx => ?_, fun r' x hx => ?_, fun r' q h9 h8 => ?_, fun r1 r2 q h1 h2 h3 h4 => ?_, fun r' xs hx => ?_⟩
  · by_cases e : r' = r
    · subst e
      rw [px_up_s] at hx
      rw [← Option.some.inj hx]; exact h'
    · have hx' := hx
      rw [px_up_n M o e] at hx'
      exact px_at.kept hx' (h.1 r' x hx') (h.2.1 r' x hx') hk (fun q h9 => hq q (px_at.lt hx' (h.1 r' x hx') h9))
  · by_cases e : r' = r
    · subst e
      rw [px_up_s] at hx
      rw [← Option.some.inj hx]; exact hc.mono fun _ => px_up_nn
    · rw [px_up_n M o e] at hx
      exact (h.2.1 r' x hx).mono fun _ => px_up_nn
  · rcases hw r' q h8 with ⟨-, e⟩ | ⟨e, h7⟩
    · rw [e]; exact hn0
    · rw [px_up_n M o e] at h9; exact h.2.2.1 r' q h9 h7
  · rcases hw r1 q h3 with ⟨e1, q1⟩ | ⟨e1, q1⟩ <;> rcases hw r2 q h4 with ⟨e2, q2⟩ | ⟨e2, q2⟩
    · rw [e1, e2]
    · have := hlt r2 q e2 h2 q2; omega
    · have := hlt r1 q e1 h1 q1; omega
    · rw [px_up_n M o e1] at h1; rw [px_up_n M o e2] at h2
      exact h.2.2.2.1 r1 r2 q h1 h2 q1 q2
  · by_cases e : r' = r
    · rw [e, px_up_s] at hx; exact absurd (Option.some.inj hx) (ho xs)
    · rw [px_up_n M o e] at hx
      rw [han r' e]; exact h.2.2.2.2 r' xs hx
/-- the heap grows, or changes where nobody looks -/
theorem px_Vw.heap {g : px_G} {ad dd : px_R → Nat} {M : px_M} {H H1 : Heap} (h : px_Vw g ad dd M H) (hq : ∀ q : Nat, q < H.size → H1[q]? = H[q]?) : px_Vw g ad dd M H1 :=
  ⟨fun r o hr => px_at.kept hr (h.1 r o hr) (h.2.1 r o hr) (fun _ _ => ⟨rfl, rfl⟩) (fun q h9 => hq q (px_at.lt hr (h.1 r o hr) h9)), h.2⟩
/-! what the machine has ready, and keeps: classes, statics, texts, links between nest mates -/
def px_isN : Cond → Bool
  | .fieldLinkNest .. => true
  | .methodLinkNest .. => true
  | .castable .. => true
  | .declares .. => true
  | _ => false
def px_strs : List (Nat × String) := [(75, "no more pins"), (217, "there is none of this number"), (87, "no more arcs"), (95, "no delay"), (110, "a circle"), (129, "no more ends"), (222, "no time"), (141, "no more starts"), (143, "no such order"), (145, "k is not 1 .. 40"), (224, "no paths are listed"), (167, "no such place"), (170, "no such group"), (197, "no more can be taken back")]
def px_ncs : List (String × String) := [("java/lang/IllegalStateException", "java/lang/IndexOutOfBoundsException"), ("java/lang/IllegalArgumentException", "java/lang/IndexOutOfBoundsException"), ("java/lang/IllegalArgumentException", "java/lang/IllegalStateException"), ("java/lang/IndexOutOfBoundsException", "java/lang/IllegalStateException")]
def px_St (g : px_G) (U : State) : Prop :=
  va_K (px_gD g) px_cl (px_tys g) U ∧ vx_Zq Bundle.tN "UNASSIGNED_STACK" Bundle.steD (px_AA g) U U.heap ∧ vx_Zq Bundle.tN "SUPPRESSED_SENTINEL" Bundle.listD (px_AA g) U U.heap ∧
  va_Z RJx4a65c "DEFAULTCAPACITY_EMPTY_ELEMENTDATA" "[Ljava/lang/Object;" (.ref (px_gE g)) (px_AA g) U U.heap ∧
  (px_gE g < px_gn g ∧ U.heap[px_gE g]? = some (vp_cell (px_gA g 5) (0, .inr (.inr (.inr (.inr fun _ => none)))))) ∧
  (∀ q ∈ px_strs, ∃ sa, vk_R RX4 q.1 q.2 sa U) ∧ (∀ w ∈ lw_tbl, px_isN w = true → va_Nw w U) ∧ (va_AO "PathLists$Step" U ∧ va_AO "java/lang/Object" U) ∧
  (va_X (px_gb g) (px_gL g) (px_gx g) U U.heap ∧ px_gb g < px_gn g ∧ (∃ mi, va_Mi "[Ljava/lang/Object;" mi U) ∧ ∀ q ∈ px_ncs, va_Nc q.1 q.2 U) ∧ px_gn g ≤ U.heap.size
theorem px_St.move {g : px_G} {s U : State} (h : px_St g s) (hW : s.WarmedH U.vm) (hz : s.heap.size ≤ U.heap.size) (hq : ∀ q : Nat, q < s.heap.size → ¬ px_AA g q → U.heap[q]? = s.heap[q]?) : px_St g U := by
  obtain ⟨h1, h2, h3, h4, ⟨h5, h5'⟩, h6, h7, ⟨h8, h8'⟩, ⟨h9, h9', ⟨mi, h11⟩, h12⟩, h10⟩ := h
  have hlt : ∀ q, q < px_gn g → U.heap[q]? = s.heap[q]? := fun q h => hq q (Nat.lt_of_lt_of_le h h10) (Nat.not_le.mpr h)
  refine ⟨h1.moved hW.alike, (h2.kept hq).moved hW.alike, (h3.kept hq).moved hW.alike, (h4.kept hq).moved hW.alike, ⟨h5, by rw [hlt _ h5]; exact h5'⟩, fun q hq' => ?_, fun w hw hn => ?_, ⟨h8.moved hW.alike, h8'.moved hW.alike⟩, ⟨(h9.kept (hlt _ h9')).moved hW.alike, h9', ⟨mi, h11.moved hW.alike⟩, fun q hq' => (h12 q hq').moved hW.alike⟩, Nat.le_trans h10 hz⟩
  · obtain ⟨sa, k⟩ := h6 q hq'
    exact ⟨sa, k.warm hW⟩
  · have k := h7 w hw hn
    cases w <;> first | exact k.warmF hW | exact k.warmM hW | exact k.warmC hW | exact k.warmD hW | (simp [px_isN] at hn)
theorem px_St.same {g : px_G} {s U : State} (h : px_St g s) (hv : U.vm = s.vm) (hh : U.heap = s.heap) : px_St g U := by
  refine h.move ?_ (Nat.le_of_eq (by rw [hh])) (fun q _ _ => by rw [hh])
  rw [hv]; exact State.WarmedH.refl s
end
section
/-! ===== the judgement px_W: method Γ stands at pc, with locals lv, stack st, world M; it comes to an end that Q allows ===== -/
abbrev px_Y : Type := MethodName × ByteArray × Nat × Option FieldType × List (Nat × Nat × Nat × Nat)
abbrev px_Q : Type := (Option px_V ⊕ String) → px_M → Prop
def px_T : List Cond := lw_tbl.filter goodWord
def px_cw (Γ : px_Y) : Cond := match Γ.2.2.2.2 with
  | [] => .code Γ.1 Γ.2.1 Γ.2.2.1 Γ.2.2.2.1
  | h :: hh => .codeWith Γ.1 Γ.2.1 Γ.2.2.1 Γ.2.2.2.1 (h :: hh)
def px_ws (Γ : px_Y) : List Cond := px_cw Γ :: px_T
def px_rm (d mc ms : Nat) : Room := { frames := d + 8, cells := mc, slots := ms, locals := 60 * d + 200 }
def px_l (ad : px_R → Nat) (lv : List (Nat × px_V)) : List (Nat × Value) := lv.map fun q => (q.1, px_v ad q.2)
def px_cat : px_V → Nat
  | .inl v => v.category
  | .inr _ => 1
theorem px_cat_v (ad : px_R → Nat) (v : px_V) : (px_v ad v).category = px_cat v := by cases v <;> rfl
def px_get : List (Nat × px_V) → Nat → Option px_V
  | [], _ => none
  | q :: l, i => match Nat.beq q.1 i with
    | true => some q.2
    | false => px_get l i
def px_st1 (i : Nat) (v : px_V) (lv : List (Nat × px_V)) : List (Nat × px_V) := (i, v) :: lv.filter (fun q => !(q.1 == i) && !(q.1 + 1 == i && px_cat q.2 == 2))
def px_st2 (i : Nat) (v : px_V) (lv : List (Nat × px_V)) : List (Nat × px_V) := (i, v) :: lv.filter (fun q => !(q.1 == i) && (!(q.1 == i + 1) && !(q.1 + 1 == i && px_cat q.2 == 2)))
theorem px_get_mem : ∀ {lv : List (Nat × px_V)} {i : Nat} {v : px_V}, px_get lv i = some v → (i, v) ∈ lv
  | q :: l, i, v, h => by
    unfold px_get at h
    cases e : Nat.beq q.1 i with
    | true =>
      rw [e] at h
      have e1 : q.1 = i := Nat.eq_of_beq_eq_true e
      have e2 : q.2 = v := Option.some.inj h
      exact List.mem_cons.mpr (Or.inl (by rw [← e1, ← e2]))
    | false =>
      rw [e] at h
      exact List.mem_cons_of_mem _ (px_get_mem h)
theorem px_l_st1 (ad : px_R → Nat) (i : Nat) (v : px_V) (lv : List (Nat × px_V)) : (i, px_v ad v) :: (px_l ad lv).filter (fun q => !(q.1 == i) && !(q.1 + 1 == i && q.2.category == 2)) = px_l ad (px_st1 i v lv) := by
  simp only [px_l, px_st1, List.map_cons, List.filter_map, Function.comp_def, px_cat_v]
theorem px_l_st2 (ad : px_R → Nat) (i : Nat) (v : px_V) (lv : List (Nat × px_V)) : (i, px_v ad v) :: (px_l ad lv).filter (fun q => !(q.1 == i) && (!(q.1 == i + 1) && !(q.1 + 1 == i && q.2.category == 2))) = px_l ad (px_st2 i v lv) := by
  simp only [px_l, px_st2, List.map_cons, List.filter_map, Function.comp_def, px_cat_v]
/-- the machine under a method's body, the same all along -/
def px_C (d mc ms : Nat) (Γ : px_Y) (g : px_G) (p : Program) (l : Launch) (R : Room) (s : State) (m : MethodId) (args : Array Value) (meth : Method) (c : Code) : Prop :=
  p.tables.exec = Jvm.exec ∧ c.code = Γ.2.1 ∧ c.maxLocals = Γ.2.2.1 ∧ meth.sig.returnType = Γ.2.2.2.1 ∧ meth.locks = false ∧ s.vm.findClass Γ.1.cls = some m.cls ∧ meth.name = Γ.1.name ∧
  (∀ w ∈ px_T, w.before args s = true) ∧ c.exceptionTable.toList = tableOf Γ.2.2.2.2 ∧ l.flags = flags0 ∧ px_St g s ∧ (d + 8 ≤ R.frames ∧ 60 * d + 200 ≤ R.locals ∧ mc ≤ R.cells ∧ ms ≤ R.slots)
/-- how the machine holds what px_W says -/
def px_I (g : px_G) (P0 : px_R → Prop) (ad0 : px_R → Nat) (s : State) (nL : Nat) (lv : List (Nat × px_V)) (st : List px_V) (M : px_M) (ad dd : px_R → Nat) (H : Heap) (locs : List Loc) (ls : Array Slot) : Prop :=
  px_Vw g ad dd M H ∧ (∀ q ∈ lv, px_wf M q.2) ∧ (∀ v ∈ st, px_wf M v) ∧ (∀ r, P0 r → M r ≠ none ∧ ad r = ad0 r) ∧ va_S (px_AA g) s.heap H locs ∧ lv_has ls nL (px_l ad lv)
def px_Qc (g : px_G) (P0 : px_R → Prop) (ad0 : px_R → Nat) (Q : px_Q) : Array Value → State → Outcome → State → Prop := fun _ st o t =>
  ∃ (v : Option px_V) (M : px_M) (ad dd : px_R → Nat), o = .returned (v.map (px_v ad)) ∧ Q (.inl v) M ∧ (∀ w, v = some w → px_wf M w) ∧ px_Vw g ad dd M t.heap ∧ (∀ r, P0 r → M r ≠ none ∧ ad r = ad0 r) ∧ va_F (px_AA g) st t
def px_XC (g : px_G) (P0 : px_R → Prop) (ad0 : px_R → Nat) (Q : px_Q) : String → State → State → Prop := fun E st t =>
  ∃ (M : px_M) (ad dd : px_R → Nat), Q (.inr E) M ∧ px_Vw g ad dd M t.heap ∧ (∀ r, P0 r → M r ≠ none ∧ ad r = ad0 r) ∧ va_F (px_AA g) st t
def px_W (d mc ms : Nat) (Γ : px_Y) (Q : px_Q) (pc : Nat) (lv : List (Nat × px_V)) (st : List px_V) (M : px_M) (k n : Nat) : Prop :=
  True ∧ ∀ {p : Program} {l : Launch} {e : Env} {R : Room} {s : State} {m : MethodId} {args : Array Value} {below : List Frame} {meth : Method} {c : Code} {g : px_G} {P0 : px_R → Prop} {ad0 : px_R → Nat}, px_C d mc ms Γ g p l R s m args meth c →
    ∀ {ad dd : px_R → Nat} {H : Heap} {locs : List Loc} {ls : Array Slot}, px_I g P0 ad0 s Γ.2.2.1 lv st M ad dd H locs ls →
      W p l e R s m args below meth c H locs k n (vx_MQ below (px_Qc g P0 ad0 Q) (px_XC g P0 ad0 Q) args s mc ms (px_AA g)) (F0 m pc ls (st.map (px_v ad)))
/-- .. and E is thrown there, and not yet caught -/
def px_X (d mc ms : Nat) (Γ : px_Y) (Q : px_Q) (pc : Nat) (lv : List (Nat × px_V)) (E : String) (M : px_M) (k n : Nat) : Prop :=
  True ∧ ∀ {p : Program} {l : Launch} {e : Env} {R : Room} {s : State} {m : MethodId} {args : Array Value} {below : List Frame} {meth : Method} {c : Code} {g : px_G} {P0 : px_R → Prop} {ad0 : px_R → Nat}, px_C d mc ms Γ g p l R s m args meth c →
    ∀ {ad dd : px_R → Nat} {H : Heap} {locs : List Loc} {ls : Array Slot} {q : Addr} {ce : Cell} {rest : List Value}, px_I g P0 ad0 s Γ.2.2.1 lv [] M ad dd H locs ls → H[q]? = some ce → ce.vm = .none → s.vm.findClass E = some ce.cls →
      vx_W p l e R s m args below meth c H locs k n (vx_MQ below (px_Qc g P0 ad0 Q) (px_XC g P0 ad0 Q) args s mc ms (px_AA g)) (F0 m pc ls rest) q
/-- a method's contract, from a world M with arguments As -/
def px_Met (d mc ms : Nat) (Γ : px_Y) (As : List px_V) (M : px_M) (Q : px_Q) : Prop :=
  ∀ (l : Launch), l.flags = flags0 → (∀ v ∈ As, px_wf M v) → ∀ (g : px_G) (ad dd : px_R → Nat), vx_Met l Γ.1 (px_ws Γ) (px_rm d mc ms) (va_Pc (As.map (px_v ad)) (fun U => px_St g U ∧ px_Vw g ad dd M U.heap)) (px_Qc g (fun r => M r ≠ none) ad Q) (px_XC g (fun r => M r ≠ none) ad Q) mc ms (px_AA g)
section PXI
variable {g : px_G} {P0 : px_R → Prop} {ad0 : px_R → Nat} {s : State} {nL : Nat} {lv : List (Nat × px_V)} {st : List px_V} {M : px_M} {ad dd : px_R → Nat} {H : Heap} {locs : List Loc} {ls : Array Slot}
theorem px_I.pop {v : px_V} (I : px_I g P0 ad0 s nL lv (v :: st) M ad dd H locs ls) : px_I g P0 ad0 s nL lv st M ad dd H locs ls := ⟨I.1, I.2.1, fun w h => I.2.2.1 w (List.mem_cons_of_mem _ h), I.2.2.2⟩
theorem px_I.psh {v : px_V} (I : px_I g P0 ad0 s nL lv st M ad dd H locs ls) (h : px_wf M v) : px_I g P0 ad0 s nL lv (v :: st) M ad dd H locs ls := ⟨I.1, I.2.1, fun w h' => (List.mem_cons.mp h').elim (fun e => e ▸ h) (I.2.2.1 w), I.2.2.2⟩
theorem px_I.top {v : px_V} (I : px_I g P0 ad0 s nL lv (v :: st) M ad dd H locs ls) : px_wf M v := I.2.2.1 v List.mem_cons_self
theorem px_I.loc (I : px_I g P0 ad0 s nL lv st M ad dd H locs ls) {i : Nat} {v : px_V} (h : px_get lv i = some v) : ls[i]? = some (.val (px_v ad v)) := I.2.2.2.2.2.2.2 (i, px_v ad v) (List.mem_map.mpr ⟨(i, v), px_get_mem h, rfl⟩)
theorem px_I.lwf (I : px_I g P0 ad0 s nL lv st M ad dd H locs ls) {i : Nat} {v : px_V} (h : px_get lv i = some v) : px_wf M v := I.2.1 (i, v) (px_get_mem h)
theorem px_I.has (I : px_I g P0 ad0 s nL lv st M ad dd H locs ls) : lv_has ls nL (px_l ad lv) := I.2.2.2.2.2
theorem px_I.siz (I : px_I g P0 ad0 s nL lv st M ad dd H locs ls) : ls.size = nL := I.2.2.2.2.2.1
theorem px_I.str1 {i : Nat} {v : px_V} (I : px_I g P0 ad0 s nL lv (v :: st) M ad dd H locs ls) {ls' : Array Slot} (h : lv_has ls' nL (px_l ad (px_st1 i v lv))) : px_I g P0 ad0 s nL (px_st1 i v lv) st M ad dd H locs ls' :=
  ⟨I.1, fun q hq => by
    rcases List.mem_cons.mp hq with e | hq
    · rw [e]; exact I.top
    · exact I.2.1 q (List.mem_filter.mp hq).1, I.pop.2.2.1, I.2.2.2.1, I.2.2.2.2.1, h⟩
theorem px_I.str2 {i : Nat} {v : px_V} (I : px_I g P0 ad0 s nL lv (v :: st) M ad dd H locs ls) {ls' : Array Slot} (h : lv_has ls' nL (px_l ad (px_st2 i v lv))) : px_I g P0 ad0 s nL (px_st2 i v lv) st M ad dd H locs ls' :=
  ⟨I.1, fun q hq => by
    rcases List.mem_cons.mp hq with e | hq
    · rw [e]; exact I.top
    · exact I.2.1 q (List.mem_filter.mp hq).1, I.pop.2.2.1, I.2.2.2.1, I.2.2.2.2.1, h⟩
end PXI
section PX1
variable {d mc ms : Nat} {Γ : px_Y} {Q : px_Q} {pc : Nat} {lv : List (Nat × px_V)} {st : List px_V} {M : px_M} {k n : Nat}
/-- fewer or reordered locals; more room used -/
theorem px_sub {lv' : List (Nat × px_V)} (kk : px_W d mc ms Γ Q pc lv' st M k n) (h : lv'.map (fun q => px_get lv q.1) = lv'.map (fun q => some q.2)) : px_W d mc ms Γ Q pc lv st M k n := by
  refine ⟨trivial, fun {p l e R s m args below meth c g P0 ad0} C {ad dd H locs ls} I => ?_⟩
  have hg : ∀ q ∈ lv', px_get lv q.1 = some q.2 := List.map_inj_left.mp h
  refine kk.2 C ⟨I.1, fun q hq => I.lwf (hg q hq), I.2.2.1, I.2.2.2.1, I.2.2.2.2.1, I.siz, I.has.2.1, fun q hq => ?_⟩
  obtain ⟨x, hx, rfl⟩ := List.mem_map.mp hq
  exact I.loc (hg x hx)
theorem px_wid {k' n' : Nat} (h1 : k ≤ k') (h2 : n ≤ n') (kk : px_W d mc ms Γ Q pc lv st M k' n') : px_W d mc ms Γ Q pc lv st M k n := ⟨trivial, fun C _ _ _ _ _ I => W.widen h1 h2 (kk.2 C I)⟩
theorem px_iconst {x : Int} {v : Int32} (hd : decode Γ.2.1 pc = .ok (.iconst x, 1)) (hv : Int32.ofInt x = v) (kk : px_W d mc ms Γ Q (pc + 1) lv (.inl (.int v) :: st) M k n) : px_W d mc ms Γ Q pc lv st M k n := ⟨trivial, fun C _ _ _ _ _ I => lv_iconst C.1 C.2.1 hd hv (kk.2 C (I.psh trivial))⟩
theorem px_bipush {x : Int} {v : Int32} (hd : decode Γ.2.1 pc = .ok (.bipush x, 2)) (hv : (Int8.ofInt x).toInt32 = v) (kk : px_W d mc ms Γ Q (pc + 2) lv (.inl (.int v) :: st) M k n) : px_W d mc ms Γ Q pc lv st M k n := ⟨trivial, fun C _ _ _ _ _ I => lv_bipush C.1 C.2.1 hd hv (kk.2 C (I.psh trivial))⟩
theorem px_sipush {x : Int} {v : Int32} (hd : decode Γ.2.1 pc = .ok (.sipush x, 3)) (hv : (Int16.ofInt x).toInt32 = v) (kk : px_W d mc ms Γ Q (pc + 3) lv (.inl (.int v) :: st) M k n) : px_W d mc ms Γ Q pc lv st M k n := ⟨trivial, fun C _ _ _ _ _ I => lv_sipush C.1 C.2.1 hd hv (kk.2 C (I.psh trivial))⟩
theorem px_lconst {x : Fin 2} {v : Int64} (hd : decode Γ.2.1 pc = .ok (.lconst x, 1)) (hv : Int64.ofNat (x : Nat) = v) (kk : px_W d mc ms Γ Q (pc + 1) lv (.inl (.long v) :: st) M k n) : px_W d mc ms Γ Q pc lv st M k n := ⟨trivial, fun C _ _ _ _ _ I => lv_lconst C.1 C.2.1 hd hv (kk.2 C (I.psh trivial))⟩
theorem px_dconst0 (hd : decode Γ.2.1 pc = .ok (.dconst 0, 1)) (kk : px_W d mc ms Γ Q (pc + 1) lv (.inl (.double FP.dconst0) :: st) M k n) : px_W d mc ms Γ Q pc lv st M k n := ⟨trivial, fun C _ _ _ _ _ I => lv_dconst0 C.1 C.2.1 hd (kk.2 C (I.psh trivial))⟩
theorem px_anull (hd : decode Γ.2.1 pc = .ok (.aconst_null, 1)) (kk : px_W d mc ms Γ Q (pc + 1) lv (.inl .null :: st) M k n) : px_W d mc ms Γ Q pc lv st M k n := ⟨trivial, fun C _ _ _ _ _ I => lv_null C.1 C.2.1 hd (kk.2 C (I.psh trivial))⟩
theorem px_ldc2d {index : Nat} {v : UInt64} (hd : decode Γ.2.1 pc = .ok (.ldc2_w index, 3)) (hw : Cond.constantDouble Γ.1.cls index v ∈ px_T) (kk : px_W d mc ms Γ Q (pc + 3) lv (.inl (.double v) :: st) M k n) : px_W d mc ms Γ Q pc lv st M k n := ⟨trivial, fun C _ _ _ _ _ I => lv_ldc2d C.1 C.2.1 C.2.2.2.2.2.1 (C.2.2.2.2.2.2.2.1 _ hw) hd (kk.2 C (I.psh trivial))⟩
theorem px_ldc {index : Nat} {v : Int32} (hd : decode Γ.2.1 pc = .ok (.ldc index, 2)) (hw : Cond.constant Γ.1.cls index v ∈ px_T) (kk : px_W d mc ms Γ Q (pc + 2) lv (.inl (.int v) :: st) M k n) : px_W d mc ms Γ Q pc lv st M k n := ⟨trivial, fun C _ _ _ _ _ I => lv_ldc C.1 C.2.1 C.2.2.2.2.2.1 (C.2.2.2.2.2.2.2.1 _ hw) hd (kk.2 C (I.psh trivial))⟩
theorem px_iload_n {j : Fin 4} {x : Int32} (hd : decode Γ.2.1 pc = .ok (.iload_n j, 1)) (hl : px_get lv (j : Nat) = some (.inl (.int x))) (kk : px_W d mc ms Γ Q (pc + 1) lv (.inl (.int x) :: st) M k n) : px_W d mc ms Γ Q pc lv st M k n := ⟨trivial, fun C _ _ _ _ _ I => lv_iload_n C.1 C.2.1 hd rfl (I.loc hl) (kk.2 C (I.psh trivial))⟩
theorem px_iload {j : Nat} {x : Int32} (hd : decode Γ.2.1 pc = .ok (.iload j, 2)) (hl : px_get lv j = some (.inl (.int x))) (kk : px_W d mc ms Γ Q (pc + 2) lv (.inl (.int x) :: st) M k n) : px_W d mc ms Γ Q pc lv st M k n := ⟨trivial, fun C _ _ _ _ _ I => lv_iload C.1 C.2.1 hd (I.loc hl) (kk.2 C (I.psh trivial))⟩
theorem px_dload_n {j : Fin 4} {x : UInt64} (hd : decode Γ.2.1 pc = .ok (.dload_n j, 1)) (hl : px_get lv (j : Nat) = some (.inl (.double x))) (kk : px_W d mc ms Γ Q (pc + 1) lv (.inl (.double x) :: st) M k n) : px_W d mc ms Γ Q pc lv st M k n := ⟨trivial, fun C _ _ _ _ _ I => lv_dload_n C.1 C.2.1 hd rfl (I.loc hl) (kk.2 C (I.psh trivial))⟩
theorem px_dload {j : Nat} {x : UInt64} (hd : decode Γ.2.1 pc = .ok (.dload j, 2)) (hl : px_get lv j = some (.inl (.double x))) (kk : px_W d mc ms Γ Q (pc + 2) lv (.inl (.double x) :: st) M k n) : px_W d mc ms Γ Q pc lv st M k n := ⟨trivial, fun C _ _ _ _ _ I => lv_dload C.1 C.2.1 hd (I.loc hl) (kk.2 C (I.psh trivial))⟩
/-- a reference that is a cell's, one that lies elsewhere, or null -/
def px_ref : px_V → Prop
  | .inl (.ref _) => True
  | .inl .null => True
  | .inr _ => True
  | _ => False
theorem px_ref.cases {P : px_V → Prop} {v : px_V} (h : px_ref v) (h1 : ∀ r, P (.inr r)) (h2 : ∀ a, P (.inl (.ref a))) (h3 : P (.inl .null)) : P v := by
  rcases v with v | r
  · cases v <;> first | exact h2 _ | exact h3 | exact absurd h id
  · exact h1 r
theorem px_aload_n {j : Fin 4} {v : px_V} (hd : decode Γ.2.1 pc = .ok (.aload_n j, 1)) (hl : px_get lv (j : Nat) = some v) (hv : px_ref v) (kk : px_W d mc ms Γ Q (pc + 1) lv (v :: st) M k n) : px_W d mc ms Γ Q pc lv st M k n := by
  refine px_ref.cases (P := fun v => px_get lv (j : Nat) = some v → px_W d mc ms Γ Q (pc + 1) lv (v :: st) M k n → px_W d mc ms Γ Q pc lv st M k n) hv ?_ ?_ ?_ hl kk
  · exact fun r hl kk => ⟨trivial, fun {p l e R s m args below meth c g P0 ad0} C {ad dd H locs ls} I => lv_aload_n C.1 C.2.1 hd rfl (I.loc hl) (kk.2 C (I.psh (I.lwf hl)))⟩
  · exact fun r hl kk => ⟨trivial, fun {p l e R s m args below meth c g P0 ad0} C {ad dd H locs ls} I => lv_aload_n C.1 C.2.1 hd rfl (I.loc hl) (kk.2 C (I.psh (I.lwf hl)))⟩
  · exact fun hl kk => ⟨trivial, fun {p l e R s m args below meth c g P0 ad0} C {ad dd H locs ls} I => lv_aload_nN C.1 C.2.1 hd rfl (I.loc hl) (kk.2 C (I.psh (I.lwf hl)))⟩
theorem px_aload {j : Nat} {v : px_V} (hd : decode Γ.2.1 pc = .ok (.aload j, 2)) (hl : px_get lv j = some v) (hv : px_ref v) (kk : px_W d mc ms Γ Q (pc + 2) lv (v :: st) M k n) : px_W d mc ms Γ Q pc lv st M k n := by
  refine px_ref.cases (P := fun v => px_get lv j = some v → px_W d mc ms Γ Q (pc + 2) lv (v :: st) M k n → px_W d mc ms Γ Q pc lv st M k n) hv ?_ ?_ ?_ hl kk
  · exact fun r hl kk => ⟨trivial, fun {p l e R s m args below meth c g P0 ad0} C {ad dd H locs ls} I => lv_aload C.1 C.2.1 hd (I.loc hl) (kk.2 C (I.psh (I.lwf hl)))⟩
  · exact fun r hl kk => ⟨trivial, fun {p l e R s m args below meth c g P0 ad0} C {ad dd H locs ls} I => lv_aload C.1 C.2.1 hd (I.loc hl) (kk.2 C (I.psh (I.lwf hl)))⟩
  · exact fun hl kk => ⟨trivial, fun {p l e R s m args below meth c g P0 ad0} C {ad dd H locs ls} I => lv_aloadN C.1 C.2.1 hd (I.loc hl) (kk.2 C (I.psh (I.lwf hl)))⟩
theorem px_istore_n {j : Fin 4} {x : Int32} (hd : decode Γ.2.1 pc = .ok (.istore_n j, 1)) (hn : (j : Nat) < Γ.2.2.1) (kk : px_W d mc ms Γ Q (pc + 1) (px_st1 (j : Nat) (.inl (.int x)) lv) st M k n) : px_W d mc ms Γ Q pc lv (.inl (.int x) :: st) M k n := ⟨trivial, fun {p l e R s m args below meth c g P0 ad0} C {ad dd H locs ls} I => lv_istore_n C.1 C.2.1 hd rfl I.has hn (px_l_st1 ad (j : Nat) (.inl (.int x)) lv) fun _ h => kk.2 C (I.str1 h)⟩
theorem px_istore {j : Nat} {x : Int32} (hd : decode Γ.2.1 pc = .ok (.istore j, 2)) (hn : j < Γ.2.2.1) (kk : px_W d mc ms Γ Q (pc + 2) (px_st1 j (.inl (.int x)) lv) st M k n) : px_W d mc ms Γ Q pc lv (.inl (.int x) :: st) M k n := ⟨trivial, fun {p l e R s m args below meth c g P0 ad0} C {ad dd H locs ls} I => lv_istore C.1 C.2.1 hd I.has hn (px_l_st1 ad j (.inl (.int x)) lv) fun _ h => kk.2 C (I.str1 h)⟩
theorem px_dstore_n {j : Fin 4} {x : UInt64} (hd : decode Γ.2.1 pc = .ok (.dstore_n j, 1)) (hn : (j : Nat) + 1 < Γ.2.2.1) (kk : px_W d mc ms Γ Q (pc + 1) (px_st2 (j : Nat) (.inl (.double x)) lv) st M k n) : px_W d mc ms Γ Q pc lv (.inl (.double x) :: st) M k n := ⟨trivial, fun {p l e R s m args below meth c g P0 ad0} C {ad dd H locs ls} I => lv_dstore_n C.1 C.2.1 hd rfl I.has hn (px_l_st2 ad (j : Nat) (.inl (.double x)) lv) fun _ h => kk.2 C (I.str2 h)⟩
theorem px_dstore {j : Nat} {x : UInt64} (hd : decode Γ.2.1 pc = .ok (.dstore j, 2)) (hn : j + 1 < Γ.2.2.1) (kk : px_W d mc ms Γ Q (pc + 2) (px_st2 j (.inl (.double x)) lv) st M k n) : px_W d mc ms Γ Q pc lv (.inl (.double x) :: st) M k n := ⟨trivial, fun {p l e R s m args below meth c g P0 ad0} C {ad dd H locs ls} I => lv_dstore C.1 C.2.1 hd I.has hn (px_l_st2 ad j (.inl (.double x)) lv) fun _ h => kk.2 C (I.str2 h)⟩
theorem px_astore_n {j : Fin 4} {v : px_V} (hd : decode Γ.2.1 pc = .ok (.astore_n j, 1)) (hn : (j : Nat) < Γ.2.2.1) (hv : px_ref v) (kk : px_W d mc ms Γ Q (pc + 1) (px_st1 (j : Nat) v lv) st M k n) : px_W d mc ms Γ Q pc lv (v :: st) M k n := by
  refine px_ref.cases (P := fun v => px_W d mc ms Γ Q (pc + 1) (px_st1 (j : Nat) v lv) st M k n → px_W d mc ms Γ Q pc lv (v :: st) M k n) hv ?_ ?_ ?_ kk
  · exact fun r kk => ⟨trivial, fun {p l e R s m args below meth c g P0 ad0} C {ad dd H locs ls} I => lv_astore_n C.1 C.2.1 hd rfl I.has hn (px_l_st1 ad (j : Nat) (.inr r) lv) fun _ h => kk.2 C (I.str1 h)⟩
  · exact fun r kk => ⟨trivial, fun {p l e R s m args below meth c g P0 ad0} C {ad dd H locs ls} I => lv_astore_n C.1 C.2.1 hd rfl I.has hn (px_l_st1 ad (j : Nat) (.inl (.ref r)) lv) fun _ h => kk.2 C (I.str1 h)⟩
  · exact fun kk => ⟨trivial, fun {p l e R s m args below meth c g P0 ad0} C {ad dd H locs ls} I => lv_astore_nN C.1 C.2.1 hd rfl I.has hn (px_l_st1 ad (j : Nat) (.inl .null) lv) fun _ h => kk.2 C (I.str1 h)⟩
theorem px_astore {j : Nat} {v : px_V} (hd : decode Γ.2.1 pc = .ok (.astore j, 2)) (hn : j < Γ.2.2.1) (hv : px_ref v) (kk : px_W d mc ms Γ Q (pc + 2) (px_st1 j v lv) st M k n) : px_W d mc ms Γ Q pc lv (v :: st) M k n := by
  refine px_ref.cases (P := fun v => px_W d mc ms Γ Q (pc + 2) (px_st1 j v lv) st M k n → px_W d mc ms Γ Q pc lv (v :: st) M k n) hv ?_ ?_ ?_ kk
  · exact fun r kk => ⟨trivial, fun {p l e R s m args below meth c g P0 ad0} C {ad dd H locs ls} I => lv_astore C.1 C.2.1 hd I.has hn (px_l_st1 ad j (.inr r) lv) fun _ h => kk.2 C (I.str1 h)⟩
  · exact fun r kk => ⟨trivial, fun {p l e R s m args below meth c g P0 ad0} C {ad dd H locs ls} I => lv_astore C.1 C.2.1 hd I.has hn (px_l_st1 ad j (.inl (.ref r)) lv) fun _ h => kk.2 C (I.str1 h)⟩
  · exact fun kk => ⟨trivial, fun {p l e R s m args below meth c g P0 ad0} C {ad dd H locs ls} I => lv_astoreN C.1 C.2.1 hd I.has hn (px_l_st1 ad j (.inl .null) lv) fun _ h => kk.2 C (I.str1 h)⟩
theorem px_iinc {j : Nat} {a : Int} {x v : Int32} (hd : decode Γ.2.1 pc = .ok (.iinc j a, 3)) (hl : px_get lv j = some (.inl (.int x))) (hv : x + Int32.ofInt a = v) (hn : j < Γ.2.2.1) (kk : px_W d mc ms Γ Q (pc + 3) (px_st1 j (.inl (.int v)) lv) st M k n) : px_W d mc ms Γ Q pc lv st M k n := by
  refine ⟨trivial, fun {p l e R s m args below meth c g P0 ad0} C {ad dd H locs ls} I => ?_⟩
  obtain ⟨i, hi⟩ := List.getElem?_of_mem (px_get_mem hl)
  exact lv_iinc (k := i) C.1 C.2.1 hd I.has (by rw [px_l, List.getElem?_map, hi]; rfl) hv hn (px_l_st1 ad j (.inl (.int v)) lv) fun _ h => kk.2 C ((I.psh (v := .inl (.int v)) trivial).str1 h)
theorem px_iadd {x y : Int32} (hd : decode Γ.2.1 pc = .ok (.iadd, 1)) (kk : px_W d mc ms Γ Q (pc + 1) lv (.inl (.int (x + y)) :: st) M k n) : px_W d mc ms Γ Q pc lv (.inl (.int y) :: .inl (.int x) :: st) M k n := ⟨trivial, fun C _ _ _ _ _ I => lv_iadd C.1 C.2.1 hd (kk.2 C (I.pop.pop.psh trivial))⟩
theorem px_isub {x y : Int32} (hd : decode Γ.2.1 pc = .ok (.isub, 1)) (kk : px_W d mc ms Γ Q (pc + 1) lv (.inl (.int (x - y)) :: st) M k n) : px_W d mc ms Γ Q pc lv (.inl (.int y) :: .inl (.int x) :: st) M k n := ⟨trivial, fun C _ _ _ _ _ I => lv_isub C.1 C.2.1 hd (kk.2 C (I.pop.pop.psh trivial))⟩
theorem px_imul {x y : Int32} (hd : decode Γ.2.1 pc = .ok (.imul, 1)) (kk : px_W d mc ms Γ Q (pc + 1) lv (.inl (.int (x * y)) :: st) M k n) : px_W d mc ms Γ Q pc lv (.inl (.int y) :: .inl (.int x) :: st) M k n := ⟨trivial, fun C _ _ _ _ _ I => lv_imul C.1 C.2.1 hd (kk.2 C (I.pop.pop.psh trivial))⟩
theorem px_iand {x y : Int32} (hd : decode Γ.2.1 pc = .ok (.iand, 1)) (kk : px_W d mc ms Γ Q (pc + 1) lv (.inl (.int (x &&& y)) :: st) M k n) : px_W d mc ms Γ Q pc lv (.inl (.int y) :: .inl (.int x) :: st) M k n := ⟨trivial, fun C _ _ _ _ _ I => lv_iand C.1 C.2.1 hd (kk.2 C (I.pop.pop.psh trivial))⟩
theorem px_ishr {x y : Int32} (hd : decode Γ.2.1 pc = .ok (.ishr, 1)) (kk : px_W d mc ms Γ Q (pc + 1) lv (.inl (.int (x >>> (y &&& 31))) :: st) M k n) : px_W d mc ms Γ Q pc lv (.inl (.int y) :: .inl (.int x) :: st) M k n := ⟨trivial, fun C _ _ _ _ _ I => lv_ishr C.1 C.2.1 hd (kk.2 C (I.pop.pop.psh trivial))⟩
theorem px_i2l {x : Int32} (hd : decode Γ.2.1 pc = .ok (.i2l, 1)) (kk : px_W d mc ms Γ Q (pc + 1) lv (.inl (.long x.toInt64) :: st) M k n) : px_W d mc ms Γ Q pc lv (.inl (.int x) :: st) M k n := ⟨trivial, fun C _ _ _ _ _ I => lv_i2l C.1 C.2.1 hd rfl (kk.2 C (I.pop.psh trivial))⟩
theorem px_i2d {x : Int32} (hd : decode Γ.2.1 pc = .ok (.i2d, 1)) (kk : px_W d mc ms Γ Q (pc + 1) lv (.inl (.double (FP.i2d x)) :: st) M k n) : px_W d mc ms Γ Q pc lv (.inl (.int x) :: st) M k n := ⟨trivial, fun C _ _ _ _ _ I => lv_i2d C.1 C.2.1 hd (kk.2 C (I.pop.psh trivial))⟩
theorem px_l2d {x : Int64} (hd : decode Γ.2.1 pc = .ok (.l2d, 1)) (kk : px_W d mc ms Γ Q (pc + 1) lv (.inl (.double (FP.l2d x)) :: st) M k n) : px_W d mc ms Γ Q pc lv (.inl (.long x) :: st) M k n := ⟨trivial, fun C _ _ _ _ _ I => lv_l2d C.1 C.2.1 hd (kk.2 C (I.pop.psh trivial))⟩
theorem px_d2i {x : UInt64} (hd : decode Γ.2.1 pc = .ok (.d2i, 1)) (kk : px_W d mc ms Γ Q (pc + 1) lv (.inl (.int (FP.d2i x)) :: st) M k n) : px_W d mc ms Γ Q pc lv (.inl (.double x) :: st) M k n := ⟨trivial, fun C _ _ _ _ _ I => lv_d2i C.1 C.2.1 hd (kk.2 C (I.pop.psh trivial))⟩
theorem px_d2l {x : UInt64} (hd : decode Γ.2.1 pc = .ok (.d2l, 1)) (kk : px_W d mc ms Γ Q (pc + 1) lv (.inl (.long (FP.d2l x)) :: st) M k n) : px_W d mc ms Γ Q pc lv (.inl (.double x) :: st) M k n := ⟨trivial, fun C _ _ _ _ _ I => lv_d2l C.1 C.2.1 hd (kk.2 C (I.pop.psh trivial))⟩
theorem px_dadd {x y z : UInt64} (hd : decode Γ.2.1 pc = .ok (.dadd, 1)) (hz : FP.dadd x y = z) (hn : vf_n64 z) (kk : px_W d mc ms Γ Q (pc + 1) lv (.inl (.double z) :: st) M k n) : px_W d mc ms Γ Q pc lv (.inl (.double y) :: .inl (.double x) :: st) M k n := by
  subst hz
  exact ⟨trivial, fun C _ _ _ _ _ I => lv_dadd C.1 C.2.1 hd hn (kk.2 C (I.pop.pop.psh trivial))⟩
theorem px_dsub {x y z : UInt64} (hd : decode Γ.2.1 pc = .ok (.dsub, 1)) (hz : FP.dsub x y = z) (hn : vf_n64 z) (kk : px_W d mc ms Γ Q (pc + 1) lv (.inl (.double z) :: st) M k n) : px_W d mc ms Γ Q pc lv (.inl (.double y) :: .inl (.double x) :: st) M k n := by
  subst hz
  exact ⟨trivial, fun C _ _ _ _ _ I => lv_dsub C.1 C.2.1 hd hn (kk.2 C (I.pop.pop.psh trivial))⟩
theorem px_dmul {x y z : UInt64} (hd : decode Γ.2.1 pc = .ok (.dmul, 1)) (hz : FP.dmul x y = z) (hn : vf_n64 z) (kk : px_W d mc ms Γ Q (pc + 1) lv (.inl (.double z) :: st) M k n) : px_W d mc ms Γ Q pc lv (.inl (.double y) :: .inl (.double x) :: st) M k n := by
  subst hz
  exact ⟨trivial, fun C _ _ _ _ _ I => lv_dmul C.1 C.2.1 hd hn (kk.2 C (I.pop.pop.psh trivial))⟩
theorem px_ddiv {x y z : UInt64} (hd : decode Γ.2.1 pc = .ok (.ddiv, 1)) (hz : FP.ddiv x y = z) (hn : vf_n64 z) (kk : px_W d mc ms Γ Q (pc + 1) lv (.inl (.double z) :: st) M k n) : px_W d mc ms Γ Q pc lv (.inl (.double y) :: .inl (.double x) :: st) M k n := by
  subst hz
  exact ⟨trivial, fun C _ _ _ _ _ I => lv_ddiv C.1 C.2.1 hd hn (kk.2 C (I.pop.pop.psh trivial))⟩
theorem px_dcmp {x y : UInt64} {op : CmpOp} (hd : decode Γ.2.1 pc = .ok (.dcmp op, 1)) (kk : px_W d mc ms Γ Q (pc + 1) lv (.inl (.int (Op.cmpValue (FP.dcmp x y) op)) :: st) M k n) : px_W d mc ms Γ Q pc lv (.inl (.double y) :: .inl (.double x) :: st) M k n := ⟨trivial, fun C _ _ _ _ _ I => lv_dcmp C.1 C.2.1 hd (kk.2 C (I.pop.pop.psh trivial))⟩
theorem px_lcmp {x y : Int64} (hd : decode Γ.2.1 pc = .ok (.lcmp, 1)) (kk : px_W d mc ms Γ Q (pc + 1) lv (.inl (.int (lg_cmp x y)) :: st) M k n) : px_W d mc ms Γ Q pc lv (.inl (.long y) :: .inl (.long x) :: st) M k n := ⟨trivial, fun C _ _ _ _ _ I => W.lcmp C.1 C.2.1 hd (kk.2 C (I.pop.pop.psh trivial))⟩
theorem px_dup {v : px_V} (hd : decode Γ.2.1 pc = .ok (.dup, 1)) (hv : px_cat v = 1) (kk : px_W d mc ms Γ Q (pc + 1) lv (v :: v :: st) M k n) : px_W d mc ms Γ Q pc lv (v :: st) M k n := ⟨trivial, fun C _ _ _ _ _ I => lv_dup C.1 C.2.1 hd ((px_cat_v _ v).trans hv) (kk.2 C (I.psh I.top))⟩
theorem px_pop {v : px_V} (hd : decode Γ.2.1 pc = .ok (.pop, 1)) (hv : px_cat v = 1) (kk : px_W d mc ms Γ Q (pc + 1) lv st M k n) : px_W d mc ms Γ Q pc lv (v :: st) M k n := ⟨trivial, fun C _ _ _ _ _ I => lv_pop C.1 C.2.1 hd ((px_cat_v _ v).trans hv) (kk.2 C I.pop)⟩
theorem px_dup_x1 {v w : px_V} (hd : decode Γ.2.1 pc = .ok (.dup_x1, 1)) (hv : px_cat v = 1) (hw : px_cat w = 1) (kk : px_W d mc ms Γ Q (pc + 1) lv (v :: w :: v :: st) M k n) : px_W d mc ms Γ Q pc lv (v :: w :: st) M k n := ⟨trivial, fun C _ _ _ _ _ I => lv_dup_x1 C.1 C.2.1 hd ((px_cat_v _ v).trans hv) ((px_cat_v _ w).trans hw) (kk.2 C (((I.pop.pop.psh I.top).psh I.pop.top).psh I.top))⟩
theorem px_dup2 {v w : px_V} (hd : decode Γ.2.1 pc = .ok (.dup2, 1)) (hv : px_cat v = 1) (hw : px_cat w = 1) (kk : px_W d mc ms Γ Q (pc + 1) lv (v :: w :: v :: w :: st) M k n) : px_W d mc ms Γ Q pc lv (v :: w :: st) M k n := ⟨trivial, fun C _ _ _ _ _ I => lv_dup2_11 C.1 C.2.1 hd ((px_cat_v _ v).trans hv) ((px_cat_v _ w).trans hw) (kk.2 C ((I.psh I.pop.top).psh I.top))⟩
theorem px_goto {off : Int} {tgt : Nat} (hd : decode Γ.2.1 pc = .ok (.goto off, 3)) (ht : (pc : Int) + off = (tgt : Int)) (kk : px_W d mc ms Γ Q tgt lv st M k n) : px_W d mc ms Γ Q pc lv st M k n := ⟨trivial, fun C _ _ _ _ _ I => lv_goto C.1 C.2.1 hd ht (kk.2 C I)⟩
theorem px_if_eq {x : Int32} {off : Int} {tgt : Nat} (hd : decode Γ.2.1 pc = .ok (.ifCond .eq off, 3)) (ht : (pc : Int) + off = (tgt : Int)) (kt : x = 0 → px_W d mc ms Γ Q tgt lv st M k n) (kf : ¬ x = 0 → px_W d mc ms Γ Q (pc + 3) lv st M k n) : px_W d mc ms Γ Q pc lv (.inl (.int x) :: st) M k n := ⟨trivial, fun C _ _ _ _ _ I => lv_if_eq C.1 C.2.1 hd ht (fun h => (kt h).2 C I.pop) (fun h => (kf h).2 C I.pop)⟩
theorem px_if_ne {x : Int32} {off : Int} {tgt : Nat} (hd : decode Γ.2.1 pc = .ok (.ifCond .ne off, 3)) (ht : (pc : Int) + off = (tgt : Int)) (kt : ¬ x = 0 → px_W d mc ms Γ Q tgt lv st M k n) (kf : x = 0 → px_W d mc ms Γ Q (pc + 3) lv st M k n) : px_W d mc ms Γ Q pc lv (.inl (.int x) :: st) M k n := ⟨trivial, fun C _ _ _ _ _ I => lv_if_ne C.1 C.2.1 hd ht (fun h => (kt h).2 C I.pop) (fun h => (kf h).2 C I.pop)⟩
theorem px_if_lt {x : Int32} {off : Int} {tgt : Nat} (hd : decode Γ.2.1 pc = .ok (.ifCond .lt off, 3)) (ht : (pc : Int) + off = (tgt : Int)) (kt : x < 0 → px_W d mc ms Γ Q tgt lv st M k n) (kf : ¬ x < 0 → px_W d mc ms Γ Q (pc + 3) lv st M k n) : px_W d mc ms Γ Q pc lv (.inl (.int x) :: st) M k n := ⟨trivial, fun C _ _ _ _ _ I => lv_if_lt C.1 C.2.1 hd ht (fun h => (kt h).2 C I.pop) (fun h => (kf h).2 C I.pop)⟩
theorem px_if_ge {x : Int32} {off : Int} {tgt : Nat} (hd : decode Γ.2.1 pc = .ok (.ifCond .ge off, 3)) (ht : (pc : Int) + off = (tgt : Int)) (kt : 0 ≤ x → px_W d mc ms Γ Q tgt lv st M k n) (kf : ¬ 0 ≤ x → px_W d mc ms Γ Q (pc + 3) lv st M k n) : px_W d mc ms Γ Q pc lv (.inl (.int x) :: st) M k n := ⟨trivial, fun C _ _ _ _ _ I => lv_if_ge C.1 C.2.1 hd ht (fun h => (kt h).2 C I.pop) (fun h => (kf h).2 C I.pop)⟩
theorem px_if_gt {x : Int32} {off : Int} {tgt : Nat} (hd : decode Γ.2.1 pc = .ok (.ifCond .gt off, 3)) (ht : (pc : Int) + off = (tgt : Int)) (kt : 0 < x → px_W d mc ms Γ Q tgt lv st M k n) (kf : ¬ 0 < x → px_W d mc ms Γ Q (pc + 3) lv st M k n) : px_W d mc ms Γ Q pc lv (.inl (.int x) :: st) M k n := ⟨trivial, fun C _ _ _ _ _ I => lv_if_gt C.1 C.2.1 hd ht (fun h => (kt h).2 C I.pop) (fun h => (kf h).2 C I.pop)⟩
theorem px_if_le {x : Int32} {off : Int} {tgt : Nat} (hd : decode Γ.2.1 pc = .ok (.ifCond .le off, 3)) (ht : (pc : Int) + off = (tgt : Int)) (kt : x ≤ 0 → px_W d mc ms Γ Q tgt lv st M k n) (kf : ¬ x ≤ 0 → px_W d mc ms Γ Q (pc + 3) lv st M k n) : px_W d mc ms Γ Q pc lv (.inl (.int x) :: st) M k n := ⟨trivial, fun C _ _ _ _ _ I => lv_if_le C.1 C.2.1 hd ht (fun h => (kt h).2 C I.pop) (fun h => (kf h).2 C I.pop)⟩
theorem px_icmp_eq {x y : Int32} {off : Int} {tgt : Nat} (hd : decode Γ.2.1 pc = .ok (.if_icmp .eq off, 3)) (ht : (pc : Int) + off = (tgt : Int)) (kt : x = y → px_W d mc ms Γ Q tgt lv st M k n) (kf : ¬ x = y → px_W d mc ms Γ Q (pc + 3) lv st M k n) : px_W d mc ms Γ Q pc lv (.inl (.int y) :: .inl (.int x) :: st) M k n := ⟨trivial, fun C _ _ _ _ _ I => lv_icmp_eq C.1 C.2.1 hd ht (fun h => (kt h).2 C I.pop.pop) (fun h => (kf h).2 C I.pop.pop)⟩
theorem px_icmp_ne {x y : Int32} {off : Int} {tgt : Nat} (hd : decode Γ.2.1 pc = .ok (.if_icmp .ne off, 3)) (ht : (pc : Int) + off = (tgt : Int)) (kt : ¬ x = y → px_W d mc ms Γ Q tgt lv st M k n) (kf : x = y → px_W d mc ms Γ Q (pc + 3) lv st M k n) : px_W d mc ms Γ Q pc lv (.inl (.int y) :: .inl (.int x) :: st) M k n := ⟨trivial, fun C _ _ _ _ _ I => lv_icmp_ne C.1 C.2.1 hd ht (fun h => (kt h).2 C I.pop.pop) (fun h => (kf h).2 C I.pop.pop)⟩
theorem px_icmp_lt {x y : Int32} {off : Int} {tgt : Nat} (hd : decode Γ.2.1 pc = .ok (.if_icmp .lt off, 3)) (ht : (pc : Int) + off = (tgt : Int)) (kt : x < y → px_W d mc ms Γ Q tgt lv st M k n) (kf : ¬ x < y → px_W d mc ms Γ Q (pc + 3) lv st M k n) : px_W d mc ms Γ Q pc lv (.inl (.int y) :: .inl (.int x) :: st) M k n := ⟨trivial, fun C _ _ _ _ _ I => lv_icmp_lt C.1 C.2.1 hd ht (fun h => (kt h).2 C I.pop.pop) (fun h => (kf h).2 C I.pop.pop)⟩
theorem px_icmp_ge {x y : Int32} {off : Int} {tgt : Nat} (hd : decode Γ.2.1 pc = .ok (.if_icmp .ge off, 3)) (ht : (pc : Int) + off = (tgt : Int)) (kt : y ≤ x → px_W d mc ms Γ Q tgt lv st M k n) (kf : ¬ y ≤ x → px_W d mc ms Γ Q (pc + 3) lv st M k n) : px_W d mc ms Γ Q pc lv (.inl (.int y) :: .inl (.int x) :: st) M k n := ⟨trivial, fun C _ _ _ _ _ I => lv_icmp_ge C.1 C.2.1 hd ht (fun h => (kt h).2 C I.pop.pop) (fun h => (kf h).2 C I.pop.pop)⟩
theorem px_icmp_gt {x y : Int32} {off : Int} {tgt : Nat} (hd : decode Γ.2.1 pc = .ok (.if_icmp .gt off, 3)) (ht : (pc : Int) + off = (tgt : Int)) (kt : y < x → px_W d mc ms Γ Q tgt lv st M k n) (kf : ¬ y < x → px_W d mc ms Γ Q (pc + 3) lv st M k n) : px_W d mc ms Γ Q pc lv (.inl (.int y) :: .inl (.int x) :: st) M k n := ⟨trivial, fun C _ _ _ _ _ I => lv_icmp_gt C.1 C.2.1 hd ht (fun h => (kt h).2 C I.pop.pop) (fun h => (kf h).2 C I.pop.pop)⟩
theorem px_icmp_le {x y : Int32} {off : Int} {tgt : Nat} (hd : decode Γ.2.1 pc = .ok (.if_icmp .le off, 3)) (ht : (pc : Int) + off = (tgt : Int)) (kt : x ≤ y → px_W d mc ms Γ Q tgt lv st M k n) (kf : ¬ x ≤ y → px_W d mc ms Γ Q (pc + 3) lv st M k n) : px_W d mc ms Γ Q pc lv (.inl (.int y) :: .inl (.int x) :: st) M k n := ⟨trivial, fun C _ _ _ _ _ I => lv_icmp_le C.1 C.2.1 hd ht (fun h => (kt h).2 C I.pop.pop) (fun h => (kf h).2 C I.pop.pop)⟩
def px_rf : Option px_R → px_V
  | none => .inl .null
  | some r => .inr r
theorem px_v_rf (ad : px_R → Nat) (o : Option px_R) : px_v ad (px_rf o) = va_rf (o.map ad) := by cases o <;> rfl
theorem px_ifnull {o : Option px_R} {off : Int} {tgt : Nat} (hd : decode Γ.2.1 pc = .ok (.ifnull off, 3)) (ht : (pc : Int) + off = (tgt : Int)) (kt : o = none → px_W d mc ms Γ Q tgt lv st M k n) (kf : ∀ r, o = some r → px_W d mc ms Γ Q (pc + 3) lv st M k n) : px_W d mc ms Γ Q pc lv (px_rf o :: st) M k n := by
  cases o with
  | none => exact ⟨trivial, fun C _ _ _ _ _ I => lv_ifnullN C.1 C.2.1 hd ht ((kt rfl).2 C I.pop)⟩
  | some r => exact ⟨trivial, fun C _ _ _ _ _ I => lv_ifnull C.1 C.2.1 hd ((kf r rfl).2 C I.pop)⟩
theorem px_ifnonnull {o : Option px_R} {off : Int} {tgt : Nat} (hd : decode Γ.2.1 pc = .ok (.ifnonnull off, 3)) (ht : (pc : Int) + off = (tgt : Int)) (kt : ∀ r, o = some r → px_W d mc ms Γ Q tgt lv st M k n) (kf : o = none → px_W d mc ms Γ Q (pc + 3) lv st M k n) : px_W d mc ms Γ Q pc lv (px_rf o :: st) M k n := by
  cases o with
  | none => exact ⟨trivial, fun C _ _ _ _ _ I => lv_ifnonnullN C.1 C.2.1 hd ((kf rfl).2 C I.pop)⟩
  | some r => exact ⟨trivial, fun C _ _ _ _ _ I => lv_ifnonnull C.1 C.2.1 hd ht ((kt r rfl).2 C I.pop)⟩
/-- two cells of the world -/
theorem px_acmp_ne {r r' : px_R} {off : Int} {tgt : Nat} (hd : decode Γ.2.1 pc = .ok (.if_acmp .ne off, 3)) (ht : (pc : Int) + off = (tgt : Int)) (kt : ¬ r = r' → px_W d mc ms Γ Q tgt lv st M k n) (kf : r = r' → px_W d mc ms Γ Q (pc + 3) lv st M k n) : px_W d mc ms Γ Q pc lv (.inr r' :: .inr r :: st) M k n := ⟨trivial, fun {p l e R s m args below meth c g P0 ad0} C {ad dd H locs ls} I => lv_acmp_ne (rx := some (ad r)) (ry := some (ad r')) C.1 C.2.1 hd ht (fun h => (kt (fun e => h (by rw [e]))).2 C I.pop.pop) (fun h => (kf (I.1.inj I.pop.top I.top (Option.some.inj h))).2 C I.pop.pop)⟩
theorem px_acmp_eq {r r' : px_R} {off : Int} {tgt : Nat} (hd : decode Γ.2.1 pc = .ok (.if_acmp .eq off, 3)) (ht : (pc : Int) + off = (tgt : Int)) (kt : r = r' → px_W d mc ms Γ Q tgt lv st M k n) (kf : ¬ r = r' → px_W d mc ms Γ Q (pc + 3) lv st M k n) : px_W d mc ms Γ Q pc lv (.inr r' :: .inr r :: st) M k n := ⟨trivial, fun {p l e R s m args below meth c g P0 ad0} C {ad dd H locs ls} I => lv_acmp_eq (rx := some (ad r)) (ry := some (ad r')) C.1 C.2.1 hd ht (fun h => (kt (I.1.inj I.pop.top I.top (Option.some.inj h))).2 C I.pop.pop) (fun h => (kf (fun e => h (by rw [e]))).2 C I.pop.pop)⟩
/-- two references that lie outside the world, the same -/
theorem px_acmp_eqE {a : Nat} {off : Int} {tgt : Nat} (hd : decode Γ.2.1 pc = .ok (.if_acmp .eq off, 3)) (ht : (pc : Int) + off = (tgt : Int)) (kt : px_W d mc ms Γ Q tgt lv st M k n) : px_W d mc ms Γ Q pc lv (.inl (.ref a) :: .inl (.ref a) :: st) M k n := ⟨trivial, fun C _ _ _ _ _ I => lv_acmp_eq (rx := some a) (ry := some a) C.1 C.2.1 hd ht (fun _ => kt.2 C I.pop.pop) (fun h => absurd rfl h)⟩
theorem px_tableOut {dflt lo hi : Int} {offs : Array Int} {len : Nat} {x : Int32} {tgt : Nat} (hd : decode Γ.2.1 pc = .ok (.tableswitch dflt lo hi offs, len)) (h : x.toInt < lo ∨ hi < x.toInt) (ht : (pc : Int) + dflt = (tgt : Int)) (kk : px_W d mc ms Γ Q tgt lv st M k n) : px_W d mc ms Γ Q pc lv (.inl (.int x) :: st) M k n := ⟨trivial, fun C _ _ _ _ _ I => lv_tableOut C.1 C.2.1 hd h ht (kk.2 C I.pop)⟩
theorem px_tableIn {dflt lo hi : Int} {offs : Array Int} {len : Nat} {x : Int32} {off : Int} {tgt : Nat} (hd : decode Γ.2.1 pc = .ok (.tableswitch dflt lo hi offs, len)) (h1 : ¬ x.toInt < lo) (h2 : ¬ hi < x.toInt) (ho : offs[(x.toInt - lo).toNat]? = some off) (ht : (pc : Int) + off = (tgt : Int)) (kk : px_W d mc ms Γ Q tgt lv st M k n) : px_W d mc ms Γ Q pc lv (.inl (.int x) :: st) M k n := ⟨trivial, fun C _ _ _ _ _ I => lv_tableIn C.1 C.2.1 hd h1 h2 ho ht (kk.2 C I.pop)⟩
end PX1
end
section
/-! ===== fields, arrays and new cells, over px_W ===== -/
theorem px_clin : ∀ (ci : Nat) (q : vw_C), px_cl[ci]? = some q → ∀ w ∈ u_ws q.1 q.2.1 q.2.2, w ∈ px_T
  | 0, q, h => by cases h; exact fun w hw => List.mem_filter.mpr (inX0 w hw)
  | 1, q, h => by cases h; exact fun w hw => List.mem_filter.mpr (inX1 w hw)
  | 2, q, h => by cases h; exact fun w hw => List.mem_filter.mpr (inX2 w hw)
  | 3, q, h => by cases h; exact fun w hw => List.mem_filter.mpr (inX3 w hw)
  | 4, q, h => by cases h; exact fun w hw => List.mem_filter.mpr (inX4 w hw)
  | 5, q, h => by cases h; exact fun w hw => List.mem_filter.mpr (inX5 w hw)
  | 6, q, h => by cases h; exact fun w hw => List.mem_filter.mpr (inJx4a65c w hw)
  | n + 7, q, h => by simp [px_cl] at h
theorem px_clnm : ∀ (ci : Nat) (q : vw_C), px_cl[ci]? = some q → ∀ a, a < q.2.2 → ∀ b, b < q.2.2 → a ≠ b → (q.2.1 a).2.1 ≠ (q.2.1 b).2.1
  | 0, q, h => by cases h; exact nmX0
  | 1, q, h => by cases h; exact nmX1
  | 2, q, h => by cases h; exact nmX2
  | 3, q, h => by cases h; exact nmX3
  | 4, q, h => by cases h; exact nmX4
  | 5, q, h => by cases h; exact nmX5
  | 6, q, h => by cases h; exact nmJx4a65c
  | n + 7, q, h => by simp [px_cl] at h
def px_fty : Nat → Nat → FieldType
  | 0 => tyX0
  | 1 => tyX1
  | 2 => tyX2
  | 3 => tyX3
  | 4 => tyX4
  | 5 => tyX5
  | _ => tyJx4a65c
theorem px_clty : ∀ (ci : Nat) (q : vw_C), px_cl[ci]? = some q → ∀ k, k < q.2.2 → parseFieldDescriptor (q.2.1 k).2.2.1 = some (px_fty ci k)
  | 0, q, h => by cases h; exact tyX0_ok
  | 1, q, h => by cases h; exact tyX1_ok
  | 2, q, h => by cases h; exact tyX2_ok
  | 3, q, h => by cases h; exact tyX3_ok
  | 4, q, h => by cases h; exact tyX4_ok
  | 5, q, h => by cases h; exact tyX5_ok
  | 6, q, h => by cases h; exact tyJx4a65c_ok
  | n + 7, q, h => by simp [px_cl] at h
theorem px_one {D : va_G} {cl : List vw_C} {q : Nat × va_E} {H : Heap} (h : va_at D cl q H) : va_P D cl [q] H := by
  intro k q' hk
  cases k with
  | zero => cases hk; exact h
  | succ k => simp at hk
/-- the field kf of class ci, by the pool's place idx of class own: a link of its own, or of a nest mate -/
def px_fl (own : String) (idx ci kf : Nat) : Prop := ∃ q : vw_C, px_cl[ci]? = some q ∧ kf < q.2.2 ∧ ∃ ref : String, (ref = (q.2.1 kf).1 ∨ Cond.sameField ref (q.2.1 kf).1 (q.2.1 kf).2.1 (q.2.1 kf).2.2.1 ∈ px_T) ∧
  (Cond.fieldLink own idx ref (q.2.1 kf).2.1 (q.2.1 kf).2.2.1 ∈ px_T ∨ ∃ host, Cond.fieldLinkNest own idx ref (q.2.1 kf).2.1 (q.2.1 kf).2.2.1 host ∈ lw_tbl)
def px_nf (ci kf : Nat) : Prop := ∀ q : vw_C, px_cl[ci]? = some q → (q.2.1 kf).2.2.2 = false
section PX2
variable {p : Program} {l : Launch} {e : Env} {R : Room} {s : State} {m : MethodId} {args : Array Value} {below : List Frame} {meth : Method} {c : Code} {H : Heap} {locs : List Loc} {cells slots : Nat} {Z : State → Prop} {cc : ByteArray} {pc : Nat} {ls : Array Slot} {rest : List Value} {D : va_G} {tys : List (ClassId × FieldType)} {a : Nat}
/-- putfield at one cell; all other cells stay -/
theorem px_put0 (hexec : p.tables.exec = Jvm.exec) (hb : c.code = cc) {own ref : String} {q : vw_C} {ci index k : Nat} {vs : List Value} {v : Value} (hts : ∀ w ∈ px_T, w.before args s = true) (hown : s.vm.findClass own = some m.cls) (hK : va_K D px_cl tys s)
    (he : va_at D px_cl (a, .inr (ci, vs)) H) (hc : px_cl[ci]? = some q) (hk : k < q.2.2)
    (hlink : (Cond.fieldLink own index ref (q.2.1 k).2.1 (q.2.1 k).2.2.1).before args s = true ∨ ∃ host, (Cond.fieldLinkNest own index ref (q.2.1 k).2.1 (q.2.1 k).2.2.1 host).before args s = true)
    (hsame : ∀ x, s.fieldFound? (q.2.1 k).1 (q.2.1 k).2.1 (q.2.1 k).2.2.1 = some x → s.fieldFound? ref (q.2.1 k).2.1 (q.2.1 k).2.2.1 = some x) (hfin : (q.2.1 k).2.2.2 = false) (hn : narrow (px_fty ci k) v = v) (hfit : fits (px_fty ci k) v = true) (hl : k < vs.length)
    (hdg : decode cc pc = .ok (.putfield index, 3)) (kk : ∀ (H1 : Heap) (i : Nat), va_at D px_cl (a, .inr (ci, vs.set k v)) H1 → H1.size = H.size → (∀ x : Nat, x ≠ a → H1[x]? = H[x]?) → W p l e R s m args below meth c H1 (locs ++ [⟨a, i⟩]) cells slots Z (F0 m (pc + 3) ls rest)) : W p l e R s m args below meth c H locs cells slots Z (F0 m pc ls (v :: .ref a :: rest)) := by
  obtain ⟨C, T, N⟩ := q
  have hin := px_clin ci _ hc
  have hap := va_apart (own := own) hts hin (px_fty ci) (px_clty ci _ hc) (px_clnm ci _ hc) hK hc
  obtain ⟨r, h1, cell, q1, q2, q3, q4⟩ := he
  have hr : r = (C, T, N) := Option.some.inj (h1.symm.trans hc)
  subst hr
  obtain ⟨hS, hfc, kC, hkC, hkind⟩ := hK.1 ci _ hc
  obtain ⟨cf, kf, fi, f, hi, hsl⟩ := hS k hk
  have hlay := hts _ (hin _ (u_in_lay hk))
  unfold u_lay at hlay
  rw [if_neg (by rw [hfin]; decide)] at hlay
  have hst := (u_facts hfc hkC (u_lays hts hin hk) hi).1
  have h6 := u_store hfc hkC hkind hlay hi (px_clty ci _ hc k hk) hn hfit
  have fin : ∀ H' : Heap, H'[a]? = some (cell.setSlot f.slot v) → H'.size = H.size → (∀ q, q ≠ a → H'[q]? = H[q]?) → W p l e R s m args below meth c H' (locs ++ [⟨a, f.slot⟩]) cells slots Z (F0 m (pc + 3) ls rest) := by
    intro H' e1 e2 e3
    rw [hsl] at e1
    exact kk H' _ ⟨_, hc, t_OB.to (V := updV (vp_V vs) k v) ⟨_, e1, q2, q3, t_set q4 hap hk v⟩ (fun j _ => vp_updV_set hl v j)⟩ e2 e3
  rcases hlink with hlink | ⟨host, hlink⟩
  · exact W.putK hexec hb (f := f) ⟨hown, hlink, ⟨_, _, _, hsame _ hi⟩, hst⟩ (by rw [q2]; exact h6) q1 q3 (by rw [hsl]; exact k2_hasslot (q4 k hk)) rfl rfl hdg fin
  · exact va_WputK hexec hb (f := f) hown hlink (hsame _ hi) hst (by rw [q2]; exact h6) q1 q3 (by rw [hsl]; exact k2_hasslot (q4 k hk)) rfl rfl hdg fin
/-- the same at a final field, in its class's constructor -/
theorem px_putF0 (hexec : p.tables.exec = Jvm.exec) (hb : c.code = cc) {own : String} {q : vw_C} {ci index k : Nat} {vs : List Value} {v : Value} (hts : ∀ w ∈ px_T, w.before args s = true) (hown : s.vm.findClass own = some m.cls) (hK : va_K D px_cl tys s)
    (he : va_at D px_cl (a, .inr (ci, vs)) H) (hc : px_cl[ci]? = some q) (hk : k < q.2.2) (hlink : (Cond.fieldLink own index (q.2.1 k).1 (q.2.1 k).2.1 (q.2.1 k).2.2.1).before args s = true)
    (hfin : (q.2.1 k).2.2.2 = true) (hin2 : meth.name = "<init>") (hdecl : (q.2.1 k).1 = own) (hn : narrow (px_fty ci k) v = v) (hfit : fits (px_fty ci k) v = true) (hl : k < vs.length)
    (hdg : decode cc pc = .ok (.putfield index, 3)) (kk : ∀ (H1 : Heap) (i : Nat), va_at D px_cl (a, .inr (ci, vs.set k v)) H1 → H1.size = H.size → (∀ x : Nat, x ≠ a → H1[x]? = H[x]?) → W p l e R s m args below meth c H1 (locs ++ [⟨a, i⟩]) cells slots Z (F0 m (pc + 3) ls rest)) : W p l e R s m args below meth c H locs cells slots Z (F0 m pc ls (v :: .ref a :: rest)) := by
  obtain ⟨C, T, N⟩ := q
  have hin := px_clin ci _ hc
  have hap := va_apart (own := own) hts hin (px_fty ci) (px_clty ci _ hc) (px_clnm ci _ hc) hK hc
  obtain ⟨r, h1, cell, q1, q2, q3, q4⟩ := he
  have hr : r = (C, T, N) := Option.some.inj (h1.symm.trans hc)
  subst hr
  obtain ⟨hS, hfc, kC, hkC, hkind⟩ := hK.1 ci _ hc
  obtain ⟨cf, kf, fi, f, hi, hsl⟩ := hS k hk
  have hlay := hts _ (hin _ (u_in_lay hk))
  unfold u_lay at hlay
  rw [if_pos hfin] at hlay
  have hst := (u_facts hfc hkC (u_lays hts hin hk) hi).1
  have hcf : m.cls = cf := by
    obtain ⟨_, _, c', _, _, _, -, -, hf', -, -, -, hown2, -⟩ := Cond.laysFinal_spec hlay
    have e1 : c' = cf := by have := hi.symm.trans hf'; simp at this; exact this.1.symm
    rw [hdecl] at hown2
    rw [← e1]; exact Option.some.inj (hown.symm.trans hown2)
  have h6 := u_fits hfc hkC hkind (Or.inr hlay) hi (px_clty ci _ hc k hk) hn hfit
  refine W.putFinK hexec hb hown hlink hi hst hcf hin2 (by rw [q2]; exact h6) q1 q3 (by rw [hsl]; exact k2_hasslot (q4 k hk)) rfl rfl hdg fun H' e1 e2 e3 => ?_
  rw [hsl] at e1 ⊢
  exact kk H' _ ⟨_, hc, t_OB.to (V := updV (vp_V vs) k v) ⟨_, e1, q2, q3, t_set q4 hap hk v⟩ (fun j _ => vp_updV_set hl v j)⟩ e2 e3
end PX2
section PX3
variable {d mc ms : Nat} {Γ : px_Y} {Q : px_Q} {pc : Nat} {lv : List (Nat × px_V)} {st : List px_V} {M : px_M} {k n : Nat}
theorem px_getf {index ci kf : Nat} {r : px_R} {fs : List px_V} {v : px_V} (hd : decode Γ.2.1 pc = .ok (.getfield index, 3)) (hf : px_fl Γ.1.cls index ci kf) (hr : M r = some (.inl (ci, fs))) (hv : fs[kf]? = some v)
    (kk : px_W d mc ms Γ Q (pc + 3) lv (v :: st) M k n) : px_W d mc ms Γ Q pc lv (.inr r :: st) M k n := by
  refine ⟨trivial, fun {p l e R s m args below meth c g P0 ad0} C {ad dd H locs ls} I => ?_⟩
  obtain ⟨⟨Cn, T, N⟩, hc, hk, ref, hsame, hlink⟩ := hf
  obtain ⟨hx, hb, hml, hrt, hlk, hown, hnm, hts, htb, hfl, hSt, hR⟩ := id C
  have hP := px_one (px_at.obj (I.1.1 r _ hr))
  have hv' : (fs.map (px_v ad))[kf]? = some (px_v ad v) := by rw [List.getElem?_map, hv]; rfl
  have hwf : px_wf M v := (I.1.2.1 r _ hr) v (List.mem_of_getElem? hv)
  have hsm : ∀ x, s.fieldFound? (T kf).1 (T kf).2.1 (T kf).2.2.1 = some x → s.fieldFound? ref (T kf).2.1 (T kf).2.2.1 = some x := by
    rcases hsame with h | h
    · intro x hx; rw [h]; exact hx
    · exact u_same (hts _ h)
  rcases hlink with hlink | ⟨host, hlink⟩
  · exact va_get hx hb hts (px_clin ci _ hc) hown hSt.1 hP 0 rfl hc kf hk (hts _ hlink) hsm hv' hd (kk.2 C (I.pop.psh hwf))
  · exact va_getN hx hb hts (px_clin ci _ hc) hown hSt.1 hP 0 rfl hc kf hk (va_Nw.use rfl (hSt.2.2.2.2.2.2.1 _ hlink rfl)) hsm hv' hd (kk.2 C (I.pop.psh hwf))
theorem px_putf {index ci kf : Nat} {r : px_R} {fs : List px_V} {v : px_V} (hd : decode Γ.2.1 pc = .ok (.putfield index, 3)) (hf : px_fl Γ.1.cls index ci kf) (hnf : px_nf ci kf) (hr : M r = some (.inl (ci, fs))) (hl : kf < fs.length)
    (hn : ∀ ad, narrow (px_fty ci kf) (px_v ad v) = px_v ad v ∧ fits (px_fty ci kf) (px_v ad v) = true)
    (kk : px_W d mc ms Γ Q (pc + 3) lv st (px_up M r (.inl (ci, fs.set kf v))) k n) : px_W d mc ms Γ Q pc lv (v :: .inr r :: st) M k n := by
  refine ⟨trivial, fun {p l e R s m args below meth c g P0 ad0} C {ad dd H locs ls} I => ?_⟩
  obtain ⟨q, hc, hk, ref, hsame, hlink⟩ := hf
  obtain ⟨hx, hb, hml, hrt, hlk, hown, hnm, hts, htb, hfl, hSt, hR⟩ := id C
  have hsm : ∀ x, s.fieldFound? (q.2.1 kf).1 (q.2.1 kf).2.1 (q.2.1 kf).2.2.1 = some x → s.fieldFound? ref (q.2.1 kf).2.1 (q.2.1 kf).2.2.1 = some x := by
    rcases hsame with h | h
    · intro x hx; rw [h]; exact hx
    · exact u_same (hts _ h)
  have hrn : M r ≠ none := by rw [hr]; exact fun z => by cases z
  refine px_put0 hx hb hts hown hSt.1 (px_at.obj (I.1.1 r _ hr)) hc hk ?_ hsm (hnf q hc) (hn ad).1 (hn ad).2 (by rw [List.length_map]; exact hl) hd fun H1 i e1 e2 e3 => ?_
  · rcases hlink with h | ⟨host, h⟩
    · exact Or.inl (hts _ h)
    · exact Or.inr ⟨host, va_Nw.use rfl (hSt.2.2.2.2.2.2.1 _ h rfl)⟩
  · refine kk.2 C ⟨I.1.set hr (fun xs z => by cases z) (fun xs z => by cases z) ?_ ?_ e3, fun q hq => (I.2.1 q hq).mono fun _ => px_up_nn, fun w hw => (I.pop.pop.2.2.1 w hw).mono fun _ => px_up_nn, fun x hx => ⟨px_up_nn (I.2.2.2.1 x hx).1, (I.2.2.2.1 x hx).2⟩, I.2.2.2.2.1.put e2 e3 (I.1.ge hrn), I.has⟩
    · show va_at (px_gD g) px_cl (ad r, .inr (ci, (fs.set kf v).map (px_v ad))) H1
      rw [List.map_set]; exact e1
    · intro w hw
      rcases List.mem_or_eq_of_mem_set hw with h | h
      · exact (I.1.2.1 r _ hr) w h
      · rw [h]; exact I.top
theorem px_putF {index ci kf : Nat} {r : px_R} {fs : List px_V} {v : px_V} (hd : decode Γ.2.1 pc = .ok (.putfield index, 3)) (hf : ∃ q : vw_C, px_cl[ci]? = some q ∧ kf < q.2.2 ∧ (q.2.1 kf).2.2.2 = true ∧ (q.2.1 kf).1 = Γ.1.cls ∧ Cond.fieldLink Γ.1.cls index (q.2.1 kf).1 (q.2.1 kf).2.1 (q.2.1 kf).2.2.1 ∈ px_T) (hni : Γ.1.name = "<init>") (hr : M r = some (.inl (ci, fs))) (hl : kf < fs.length)
    (hn : ∀ ad, narrow (px_fty ci kf) (px_v ad v) = px_v ad v ∧ fits (px_fty ci kf) (px_v ad v) = true)
    (kk : px_W d mc ms Γ Q (pc + 3) lv st (px_up M r (.inl (ci, fs.set kf v))) k n) : px_W d mc ms Γ Q pc lv (v :: .inr r :: st) M k n := by
  refine ⟨trivial, fun {p l e R s m args below meth c g P0 ad0} C {ad dd H locs ls} I => ?_⟩
  obtain ⟨q, hc, hk, hfin, hdecl, hlink⟩ := hf
  obtain ⟨hx, hb, hml, hrt, hlk, hown, hnm, hts, htb, hfl, hSt, hR⟩ := id C
  have hrn : M r ≠ none := by rw [hr]; exact fun z => by cases z
  refine px_putF0 hx hb hts hown hSt.1 (px_at.obj (I.1.1 r _ hr)) hc hk (hts _ hlink) hfin (hnm.trans hni) hdecl (hn ad).1 (hn ad).2 (by rw [List.length_map]; exact hl) hd fun H1 i e1 e2 e3 => ?_
  refine kk.2 C ⟨I.1.set hr (fun xs z => by cases z) (fun xs z => by cases z) ?_ ?_ e3, fun q hq => (I.2.1 q hq).mono fun _ => px_up_nn, fun w hw => (I.pop.pop.2.2.1 w hw).mono fun _ => px_up_nn, fun x hx => ⟨px_up_nn (I.2.2.2.1 x hx).1, (I.2.2.2.1 x hx).2⟩, I.2.2.2.2.1.put e2 e3 (I.1.ge hrn), I.has⟩
  · show va_at (px_gD g) px_cl (ad r, .inr (ci, (fs.set kf v).map (px_v ad))) H1
    rw [List.map_set]; exact e1
  · intro w hw
    rcases List.mem_or_eq_of_mem_set hw with h | h
    · exact (I.1.2.1 r _ hr) w h
    · rw [h]; exact I.top
/-! arrays -/
theorem px_ai {g : px_G} {ad dd : px_R → Nat} {r : px_R} {H : Heap} {t len : Nat} {f : Nat → Int32} (h : px_at g ad dd r H (.inr (.inl (t, len, .inl f)))) : H[ad r]? = some (arrV (px_gA g t) len (fun j => .int (f j))) := h
theorem px_al {g : px_G} {ad dd : px_R → Nat} {r : px_R} {H : Heap} {t len : Nat} {f : Nat → Int64} (h : px_at g ad dd r H (.inr (.inl (t, len, .inr (.inl f))))) : H[ad r]? = some (arrV (px_gA g t) len (fun j => .long (f j))) := h
theorem px_ad {g : px_G} {ad dd : px_R → Nat} {r : px_R} {H : Heap} {t len : Nat} {f : Nat → UInt64} (h : px_at g ad dd r H (.inr (.inl (t, len, .inr (.inr (.inl f)))))) : H[ad r]? = some (arrV (px_gA g t) len (fun j => .double (f j))) := h
theorem px_aq {g : px_G} {ad dd : px_R → Nat} {r : px_R} {H : Heap} {t len : Nat} {f : Nat → Option px_R} (h : px_at g ad dd r H (.inr (.inl (t, len, .inr (.inr (.inr f)))))) : H[ad r]? = some (arrV (px_gA g t) len (fun j => va_rf ((f j).map ad))) := h
theorem px_ald_i {r : px_R} {len : Nat} {f : Nat → Int32} {i : Int32} {j : Nat} (hd : decode Γ.2.1 pc = .ok (.iaload, 1)) (hr : M r = some (.inr (.inl (0, len, .inl f)))) (hi : i = nI j) (hj : j < len) (hn : len ≤ 65536)
    (kk : px_W d mc ms Γ Q (pc + 1) lv (.inl (.int (f j)) :: st) M k n) : px_W d mc ms Γ Q pc lv (.inl (.int i) :: .inr r :: st) M k n := by
  subst hi
  refine ⟨trivial, fun {p l e R s m args below meth c g P0 ad0} C {ad dd H locs ls} I => ?_⟩
  have k1 := kk.2 (e := e) (below := below) C (I.pop.pop.psh trivial)
  rw [← nI_clamp (n := j) (by omega)] at k1
  exact va_iald C.1 C.2.1 C.2.2.2.2.2.2.2.2.2.2.1.1 (px_one (px_at.arr (I.1.1 r _ hr))) 0 0 rfl rfl (vp_in_nI (n := j) (N := len) hj (by omega)) hd k1
theorem px_ald_z {r : px_R} {len : Nat} {f : Nat → Int32} {i : Int32} {j : Nat} (hd : decode Γ.2.1 pc = .ok (.baload, 1)) (hr : M r = some (.inr (.inl (2, len, .inl f)))) (hi : i = nI j) (hj : j < len) (hn : len ≤ 65536)
    (kk : px_W d mc ms Γ Q (pc + 1) lv (.inl (.int (f j)) :: st) M k n) : px_W d mc ms Γ Q pc lv (.inl (.int i) :: .inr r :: st) M k n := by
  subst hi
  refine ⟨trivial, fun {p l e R s m args below meth c g P0 ad0} C {ad dd H locs ls} I => ?_⟩
  have k1 := kk.2 (e := e) (below := below) C (I.pop.pop.psh trivial)
  rw [← nI_clamp (n := j) (by omega)] at k1
  exact va_zald C.1 C.2.1 C.2.2.2.2.2.2.2.2.2.2.1.1 (px_one (px_at.arr (I.1.1 r _ hr))) 0 2 rfl rfl (vp_in_nI (n := j) (N := len) hj (by omega)) hd k1
theorem px_ald_d {r : px_R} {len : Nat} {f : Nat → UInt64} {i : Int32} {j : Nat} (hd : decode Γ.2.1 pc = .ok (.daload, 1)) (hr : M r = some (.inr (.inl (1, len, .inr (.inr (.inl f)))))) (hi : i = nI j) (hj : j < len) (hn : len ≤ 65536)
    (kk : px_W d mc ms Γ Q (pc + 1) lv (.inl (.double (f j)) :: st) M k n) : px_W d mc ms Γ Q pc lv (.inl (.int i) :: .inr r :: st) M k n := by
  subst hi
  refine ⟨trivial, fun {p l e R s m args below meth c g P0 ad0} C {ad dd H locs ls} I => ?_⟩
  have k1 := kk.2 (e := e) (below := below) C (I.pop.pop.psh trivial)
  rw [← nI_clamp (n := j) (by omega)] at k1
  exact va_dald C.1 C.2.1 C.2.2.2.2.2.2.2.2.2.2.1.1 (px_one (px_at.arr (I.1.1 r _ hr))) 0 1 rfl rfl (vp_in_nI (n := j) (N := len) hj (by omega)) hd k1
theorem px_ald_l {r : px_R} {len : Nat} {f : Nat → Int64} {i : Int32} {j : Nat} (hd : decode Γ.2.1 pc = .ok (.laload, 1)) (hr : M r = some (.inr (.inl (3, len, .inr (.inl f))))) (hi : i = nI j) (hj : j < len) (hn : len ≤ 65536)
    (kk : px_W d mc ms Γ Q (pc + 1) lv (.inl (.long (f j)) :: st) M k n) : px_W d mc ms Γ Q pc lv (.inl (.int i) :: .inr r :: st) M k n := by
  subst hi
  refine ⟨trivial, fun {p l e R s m args below meth c g P0 ad0} C {ad dd H locs ls} I => ?_⟩
  have k1 := kk.2 (e := e) (below := below) C (I.pop.pop.psh trivial)
  rw [← nI_clamp (n := j) (by omega)] at k1
  exact va_lald C.1 C.2.1 C.2.2.2.2.2.2.2.2.2.2.1.1 (px_one (px_at.arr (I.1.1 r _ hr))) 0 3 rfl rfl (vp_in_nI (n := j) (N := len) hj (by omega)) hd k1
theorem px_ald_q4 {r : px_R} {len : Nat} {f : Nat → Option px_R} {i : Int32} {j : Nat} (hd : decode Γ.2.1 pc = .ok (.aaload, 1)) (hr : M r = some (.inr (.inl (4, len, .inr (.inr (.inr f)))))) (hi : i = nI j) (hj : j < len) (hn : len ≤ 65536)
    (kk : px_W d mc ms Γ Q (pc + 1) lv (px_rf (f j) :: st) M k n) : px_W d mc ms Γ Q pc lv (.inl (.int i) :: .inr r :: st) M k n := by
  subst hi
  refine ⟨trivial, fun {p l e R s m args below meth c g P0 ad0} C {ad dd H locs ls} I => ?_⟩
  have k1 := kk.2 (e := e) (below := below) C (I.pop.pop.psh (v := px_rf (f j)) (by
    cases e9 : f j with
    | none => trivial
    | some x => exact (I.1.2.1 r _ hr) j x e9))
  rw [List.map_cons, px_v_rf, ← nI_clamp (n := j) (by omega)] at k1
  exact va_aldq C.1 C.2.1 C.2.2.2.2.2.2.2.2.2.2.1.1 (px_one (px_at.arr (I.1.1 r _ hr))) 0 4 rfl rfl (vp_in_nI (n := j) (N := len) hj (by omega)) hd k1
theorem px_ald_q5 {r : px_R} {len : Nat} {f : Nat → Option px_R} {i : Int32} {j : Nat} (hd : decode Γ.2.1 pc = .ok (.aaload, 1)) (hr : M r = some (.inr (.inl (5, len, .inr (.inr (.inr f)))))) (hi : i = nI j) (hj : j < len) (hn : len ≤ 65536)
    (kk : px_W d mc ms Γ Q (pc + 1) lv (px_rf (f j) :: st) M k n) : px_W d mc ms Γ Q pc lv (.inl (.int i) :: .inr r :: st) M k n := by
  subst hi
  refine ⟨trivial, fun {p l e R s m args below meth c g P0 ad0} C {ad dd H locs ls} I => ?_⟩
  have k1 := kk.2 (e := e) (below := below) C (I.pop.pop.psh (v := px_rf (f j)) (by
    cases e9 : f j with
    | none => trivial
    | some x => exact (I.1.2.1 r _ hr) j x e9))
  rw [List.map_cons, px_v_rf, ← nI_clamp (n := j) (by omega)] at k1
  exact va_aldq C.1 C.2.1 C.2.2.2.2.2.2.2.2.2.2.1.1 (px_one (px_at.arr (I.1.1 r _ hr))) 0 5 rfl rfl (vp_in_nI (n := j) (N := len) hj (by omega)) hd k1
theorem px_alen {r : px_R} {t len : Nat} {a : px_A} (hd : decode Γ.2.1 pc = .ok (.arraylength, 1)) (hr : M r = some (.inr (.inl (t, len, a)))) (ht : t < 6)
    (kk : px_W d mc ms Γ Q (pc + 1) lv (.inl (.int (nI len)) :: st) M k n) : px_W d mc ms Γ Q pc lv (.inr r :: st) M k n := by
  refine ⟨trivial, fun {p l e R s m args below meth c g P0 ad0} C {ad dd H locs ls} I => ?_⟩
  refine va_alen C.1 C.2.1 C.2.2.2.2.2.2.2.2.2.2.1.1 (px_one (px_at.arr (I.1.1 r _ hr))) 0 t rfl (ty := px_ty t) ?_ rfl hd (kk.2 C (I.pop.psh trivial))
  rcases (show t = 0 ∨ t = 1 ∨ t = 2 ∨ t = 3 ∨ t = 4 ∨ t = 5 by omega) with rfl | rfl | rfl | rfl | rfl | rfl <;> rfl
/-- one array cell has another content: what is left to do -/
theorem px_I.arr {g : px_G} {P0 : px_R → Prop} {ad0 : px_R → Nat} {s : State} {nL : Nat} {ad dd : px_R → Nat} {H H1 : Heap} {locs : List Loc} {ls : Array Slot} (I : px_I g P0 ad0 s nL lv st M ad dd H locs ls) {r : px_R} {t len : Nat} {a a' : px_A} (hr : M r = some (.inr (.inl (t, len, a)))) {i : Nat}
    (e1 : H1[ad r]? = some (vp_cell (px_gA g t) (len, px_a ad a'))) (hc : px_cf M (.inr (.inl (t, len, a')))) (e2 : H1.size = H.size) (e3 : ∀ q : Nat, q ≠ ad r → H1[q]? = H[q]?) : px_I g P0 ad0 s nL lv st (px_up M r (.inr (.inl (t, len, a')))) ad dd H1 (locs ++ [⟨ad r, i⟩]) ls := by
  have hrn : M r ≠ none := by rw [hr]; exact fun z => by cases z
  exact ⟨I.1.set hr (fun xs z => by cases z) (fun xs z => by cases z) e1 hc e3, fun q hq => (I.2.1 q hq).mono fun _ => px_up_nn, fun w hw => (I.2.2.1 w hw).mono fun _ => px_up_nn, fun x hx => ⟨px_up_nn (I.2.2.2.1 x hx).1, (I.2.2.2.1 x hx).2⟩, I.2.2.2.2.1.put e2 e3 (I.1.ge hrn), I.has⟩
theorem px_in0 {j len : Nat} {cA : ClassId} {f : Nat → Value} (hj : j < len) (hn : len ≤ 65536) : ¬ (nI j < 0 ∨ (arrV cA len f).slots.size ≤ (nI j).toNatClampNeg) := by rw [arrV_size]; exact vp_in_nI hj (by omega)
theorem px_ast_i {r : px_R} {len : Nat} {f : Nat → Int32} {i x : Int32} {j : Nat} (hd : decode Γ.2.1 pc = .ok (.iastore, 1)) (hr : M r = some (.inr (.inl (0, len, .inl f)))) (hi : i = nI j) (hj : j < len) (hn : len ≤ 65536)
    (kk : px_W d mc ms Γ Q (pc + 1) lv st (px_up M r (.inr (.inl (0, len, .inl (upd f j x))))) k n) : px_W d mc ms Γ Q pc lv (.inl (.int x) :: .inl (.int i) :: .inr r :: st) M k n := by
  subst hi
  refine ⟨trivial, fun {p l e R s m args below meth c g P0 ad0} C {ad dd H locs ls} I => ?_⟩
  refine W.iast C.1 C.2.1 (px_ai (I.1.1 r _ hr)) ((C.2.2.2.2.2.2.2.2.2.2.1.1.2 0 _ rfl).1 len (fun j => .int (f j))) (fun q => by cases q) (px_in0 hj hn) rfl rfl hd fun H1 e1 e2 e3 => kk.2 C (I.pop.pop.pop.arr hr ?_ trivial e2 e3)
  rw [e1, nI_clamp (by omega)]
  show some ((arrV _ _ (fun q => Value.int (f q))).setSlot _ _) = some (arrV _ _ (fun q => Value.int (upd f j x q)))
  rw [arrV_store]
  congr 2
  funext q
  by_cases hq : q = j <;> simp [updV, upd, hq]
theorem px_ast_z {r : px_R} {len : Nat} {f : Nat → Int32} {i x : Int32} {j : Nat} (hd : decode Γ.2.1 pc = .ok (.bastore, 1)) (hr : M r = some (.inr (.inl (2, len, .inl f)))) (hi : i = nI j) (hj : j < len) (hn : len ≤ 65536) (hx : narrow .boolean (.int x) = .int x)
    (kk : px_W d mc ms Γ Q (pc + 1) lv st (px_up M r (.inr (.inl (2, len, .inl (upd f j x))))) k n) : px_W d mc ms Γ Q pc lv (.inl (.int x) :: .inl (.int i) :: .inr r :: st) M k n := by
  subst hi
  refine ⟨trivial, fun {p l e R s m args below meth c g P0 ad0} C {ad dd H locs ls} I => ?_⟩
  refine W.zast C.1 C.2.1 (px_ai (I.1.1 r _ hr)) ((C.2.2.2.2.2.2.2.2.2.2.1.1.2 2 _ rfl).1 len (fun j => .int (f j))) (fun q => by cases q) (px_in0 hj hn) rfl rfl hd fun H1 e1 e2 e3 => kk.2 C (I.pop.pop.pop.arr hr ?_ trivial e2 e3)
  rw [e1, hx, nI_clamp (by omega)]
  show some ((arrV _ _ (fun q => Value.int (f q))).setSlot _ _) = some (arrV _ _ (fun q => Value.int (upd f j x q)))
  rw [arrV_store]
  congr 2
  funext q
  by_cases hq : q = j <;> simp [updV, upd, hq]
theorem px_ast_d {r : px_R} {len : Nat} {f : Nat → UInt64} {i : Int32} {x : UInt64} {j : Nat} (hd : decode Γ.2.1 pc = .ok (.dastore, 1)) (hr : M r = some (.inr (.inl (1, len, .inr (.inr (.inl f)))))) (hi : i = nI j) (hj : j < len) (hn : len ≤ 65536)
    (kk : px_W d mc ms Γ Q (pc + 1) lv st (px_up M r (.inr (.inl (1, len, .inr (.inr (.inl (vf_upd f j x))))))) k n) : px_W d mc ms Γ Q pc lv (.inl (.double x) :: .inl (.int i) :: .inr r :: st) M k n := by
  subst hi
  refine ⟨trivial, fun {p l e R s m args below meth c g P0 ad0} C {ad dd H locs ls} I => ?_⟩
  refine W.dast C.1 C.2.1 (px_ad (I.1.1 r _ hr)) ((C.2.2.2.2.2.2.2.2.2.2.1.1.2 1 _ rfl).1 len (fun j => .double (f j))) (fun q => by cases q) (px_in0 hj hn) rfl rfl hd fun H1 e1 e2 e3 => kk.2 C (I.pop.pop.pop.arr hr ?_ trivial e2 e3)
  rw [e1, nI_clamp (by omega)]
  show some ((arrV _ _ (fun q => Value.double (f q))).setSlot _ _) = some (arrV _ _ (fun q => Value.double (vf_upd f j x q)))
  rw [arrV_store]
  congr 2
  funext q
  by_cases hq : q = j <;> simp [updV, vf_upd, hq]
theorem px_ast_l {r : px_R} {len : Nat} {f : Nat → Int64} {i : Int32} {x : Int64} {j : Nat} (hd : decode Γ.2.1 pc = .ok (.lastore, 1)) (hr : M r = some (.inr (.inl (3, len, .inr (.inl f))))) (hi : i = nI j) (hj : j < len) (hn : len ≤ 65536)
    (kk : px_W d mc ms Γ Q (pc + 1) lv st (px_up M r (.inr (.inl (3, len, .inr (.inl (vf_upd f j x)))))) k n) : px_W d mc ms Γ Q pc lv (.inl (.long x) :: .inl (.int i) :: .inr r :: st) M k n := by
  subst hi
  refine ⟨trivial, fun {p l e R s m args below meth c g P0 ad0} C {ad dd H locs ls} I => ?_⟩
  refine W.last C.1 C.2.1 (px_al (I.1.1 r _ hr)) ((C.2.2.2.2.2.2.2.2.2.2.1.1.2 3 _ rfl).1 len (fun j => .long (f j))) (fun q => by cases q) (px_in0 hj hn) rfl rfl hd fun H1 e1 e2 e3 => kk.2 C (I.pop.pop.pop.arr hr ?_ trivial e2 e3)
  rw [e1, nI_clamp (by omega)]
  show some ((arrV _ _ (fun q => Value.long (f q))).setSlot _ _) = some (arrV _ _ (fun q => Value.long (vf_upd f j x q)))
  rw [arrV_store]
  congr 2
  funext q
  by_cases hq : q = j <;> simp [updV, vf_upd, hq]
theorem px_cfq {r x : px_R} {t len : Nat} {f : Nat → Option px_R} {j : Nat} {o : Option px_R} (h : px_cf M (.inr (.inl (t, len, .inr (.inr (.inr f)))))) (ho : ∀ x, o = some x → M x ≠ none) : px_cf M (.inr (.inl (t, len, .inr (.inr (.inr (va_up f j o)))))) := by
  intro i x hx
  by_cases e : i = j
  · rw [e] at hx
    simp only [va_up, if_pos] at hx
    exact ho x hx
  · simp only [va_up, if_neg e] at hx
    exact h i x hx
/-- a Step into a row of Steps -/
theorem px_ast_q4 {r x : px_R} {len : Nat} {f : Nat → Option px_R} {i : Int32} {j : Nat} {fs : List px_V} (hd : decode Γ.2.1 pc = .ok (.aastore, 1)) (hr : M r = some (.inr (.inl (4, len, .inr (.inr (.inr f)))))) (hx : M x = some (.inl (2, fs))) (hi : i = nI j) (hj : j < len) (hn : len ≤ 65536)
    (kk : px_W d mc ms Γ Q (pc + 1) lv st (px_up M r (.inr (.inl (4, len, .inr (.inr (.inr (va_up f j (some x)))))))) k n) : px_W d mc ms Γ Q pc lv (.inr x :: .inl (.int i) :: .inr r :: st) M k n := by
  subst hi
  refine ⟨trivial, fun {p l e R s m args below meth c g P0 ad0} C {ad dd H locs ls} I => ?_⟩
  have hK := C.2.2.2.2.2.2.2.2.2.2.1.1
  obtain ⟨r', hr', cellV, g1, g2, g3, -⟩ := px_at.obj (I.1.1 x _ hx)
  have hcls := (hK.1 2 _ rfl).2
  obtain ⟨kA, comp, k1, k2, k3, -⟩ := (hK.2 4 _ rfl).2
  have hcomp : comp = (px_gD g).1 2 := Option.some.inj (k3.symm.trans hcls.1)
  subst hcomp
  obtain ⟨kC, hkC, -⟩ := hcls.2
  refine W.aast C.1 C.2.1 (px_aq (I.1.1 r _ hr)) (fun q h => by cases h) (fun h => by cases h) k1 k2 rfl hkC ?_ g1 (fun q h => by rw [g3] at h; cases h) (by rw [g2]; exact hkC) (by rw [g2]; exact va_assign hcls) rfl rfl hd fun H1 e1 e2 e3 => kk.2 C (I.pop.pop.pop.arr hr ?_ (px_cfq (r := r) (x := x) (I.1.2.1 r _ hr) (fun y hy => by rw [← Option.some.inj hy, hx]; exact fun z => by cases z)) e2 e3)
  · have h0 := px_in0 (cA := px_gA g 4) (f := fun j => va_rf ((f j).map ad)) hj hn
    exact ⟨fun z => h0 (Or.inl z), Nat.not_le.mp fun z => h0 (Or.inr z)⟩
  · rw [e1, nI_clamp (by omega)]
    show some ((arrV _ _ (fun q => va_rf ((f q).map ad))).setSlot _ _) = some (arrV _ _ (fun q => va_rf ((va_up f j (some x) q).map ad)))
    rw [arrV_store]
    congr 2
    funext q
    by_cases hq : q = j <;> simp [updV, va_up, hq, va_rf]
/-- an object of a class ci into a row of Objects -/
theorem px_ast_q5 {r x : px_R} {len ci : Nat} {q : vw_C} {f : Nat → Option px_R} {i : Int32} {j : Nat} {fs : List px_V} (hd : decode Γ.2.1 pc = .ok (.aastore, 1)) (hr : M r = some (.inr (.inl (5, len, .inr (.inr (.inr f)))))) (hx : M x = some (.inl (ci, fs))) (hc : px_cl[ci]? = some q) (hcast : Cond.castable q.1 "java/lang/Object" ∈ lw_tbl) (hi : i = nI j) (hj : j < len) (hn : len ≤ 65536)
    (kk : px_W d mc ms Γ Q (pc + 1) lv st (px_up M r (.inr (.inl (5, len, .inr (.inr (.inr (va_up f j (some x)))))))) k n) : px_W d mc ms Γ Q pc lv (.inr x :: .inl (.int i) :: .inr r :: st) M k n := by
  subst hi
  refine ⟨trivial, fun {p l e R s m args below meth c g P0 ad0} C {ad dd H locs ls} I => ?_⟩
  have hSt := C.2.2.2.2.2.2.2.2.2.2.1
  have hK := hSt.1
  obtain ⟨r', hr', cellV, g1, g2, g3, -⟩ := px_at.obj (I.1.1 x _ hx)
  have hcls := (hK.1 ci _ hc).2
  obtain ⟨kA, comp, k1, k2, k3, -⟩ := (hK.2 5 _ rfl).2
  obtain ⟨kC, hkC, -⟩ := hcls.2
  obtain ⟨kE, hkE, -⟩ := Vm.findClass_spec k3
  obtain ⟨c3, c4, hc3, hc4, hasg⟩ := Cond.castable_spec (va_Nw.use (A := args) rfl (hSt.2.2.2.2.2.2.1 _ hcast rfl))
  have e4 : c4 = comp := Option.some.inj (hc4.symm.trans k3)
  have e3' : c3 = (px_gD g).1 ci := Option.some.inj (hc3.symm.trans hcls.1)
  subst e4 e3'
  refine W.aast C.1 C.2.1 (px_aq (I.1.1 r _ hr)) (fun q h => by cases h) (fun h => by cases h) k1 k2 rfl hkE ?_ g1 (fun q h => by rw [g3] at h; cases h) (by rw [g2]; exact hkC) (by rw [g2]; exact hasg) rfl rfl hd fun H1 e1 e2 e3 => kk.2 C (I.pop.pop.pop.arr hr ?_ (px_cfq (r := r) (x := x) (I.1.2.1 r _ hr) (fun y hy => by rw [← Option.some.inj hy, hx]; exact fun z => by cases z)) e2 e3)
  · have h0 := px_in0 (cA := px_gA g 5) (f := fun j => va_rf ((f j).map ad)) hj hn
    exact ⟨fun z => h0 (Or.inl z), Nat.not_le.mp fun z => h0 (Or.inr z)⟩
  · rw [e1, nI_clamp (by omega)]
    show some ((arrV _ _ (fun q => va_rf ((f q).map ad))).setSlot _ _) = some (arrV _ _ (fun q => va_rf ((va_up f j (some x) q).map ad)))
    rw [arrV_store]
    congr 2
    funext q
    by_cases hq : q = j <;> simp [updV, va_up, hq, va_rf]
theorem px_ast_n5 {r : px_R} {len : Nat} {f : Nat → Option px_R} {i : Int32} {j : Nat} (hd : decode Γ.2.1 pc = .ok (.aastore, 1)) (hr : M r = some (.inr (.inl (5, len, .inr (.inr (.inr f)))))) (hi : i = nI j) (hj : j < len) (hn : len ≤ 65536)
    (kk : px_W d mc ms Γ Q (pc + 1) lv st (px_up M r (.inr (.inl (5, len, .inr (.inr (.inr (va_up f j none))))))) k n) : px_W d mc ms Γ Q pc lv (.inl .null :: .inl (.int i) :: .inr r :: st) M k n := by
  subst hi
  refine ⟨trivial, fun {p l e R s m args below meth c g P0 ad0} C {ad dd H locs ls} I => ?_⟩
  have hK := C.2.2.2.2.2.2.2.2.2.2.1.1
  refine va_WaastN (C := "java/lang/Object") C.1 C.2.1 (px_aq (I.1.1 r _ hr)) ((hK.2 5 _ rfl).1 len (fun j => va_rf ((f j).map ad))) (fun h => by cases h) (px_in0 hj hn) rfl rfl hd fun H1 e1 e2 e3 => kk.2 C (I.pop.pop.pop.arr hr ?_ (px_cfq (r := r) (x := r) (I.1.2.1 r _ hr) (fun y hy => by cases hy)) e2 e3)
  rw [e1, nI_clamp (by omega)]
  show some ((arrV _ _ (fun q => va_rf ((f q).map ad))).setSlot _ _) = some (arrV _ _ (fun q => va_rf ((va_up f j none q).map ad)))
  rw [arrV_store]
  congr 2
  funext q
  by_cases hq : q = j <;> simp [updV, va_up, hq, va_rf]
/-! new cells -/
def px_ua (ad : px_R → Nat) (r : px_R) (a : Nat) : px_R → Nat := fun x => if x = r then a else ad x
theorem px_I.new {g : px_G} {P0 : px_R → Prop} {ad0 : px_R → Nat} {s : State} {nL : Nat} {ad dd : px_R → Nat} {H H1 : Heap} {locs : List Loc} {ls : Array Slot} (hSt : px_St g s) (I : px_I g P0 ad0 s nL lv st M ad dd H locs ls) {r : px_R} {o : px_O} (hr : M r = none) (ho : ∀ xs, o ≠ .inr (.inr xs))
    (h' : px_at g (px_ua ad r H.size) dd r H1 o) (hc : px_cf M o) (hz : H1.size = H.size + 1) (hq : ∀ q : Nat, q < H.size → H1[q]? = H[q]?) : px_I g P0 ad0 s nL lv (.inr r :: st) (px_up M r o) (px_ua ad r H.size) dd H1 locs ls := by
  have hn0 : px_gn g ≤ H.size := Nat.le_trans hSt.2.2.2.2.2.2.2.2.2 I.2.2.2.2.1.1
  have hk : ∀ x, M x ≠ none → px_ua ad r H.size x = ad x := fun x hx => if_neg (fun (e : x = r) => hx (by rw [e]; exact hr))
  refine ⟨I.1.push hr ho (if_pos rfl) (fun x hx => if_neg hx) h' hc hn0 hq, fun q hq => (I.2.1 q hq).mono fun _ => px_up_nn, fun w hw => ?_, fun x hx => ⟨px_up_nn (I.2.2.2.1 x hx).1, (hk x (I.2.2.2.1 x hx).1).trans (I.2.2.2.1 x hx).2⟩, ?_, ?_⟩
  · rcases List.mem_cons.mp hw with rfl | hw
    · show px_up M r o r ≠ none
      rw [px_up_s]; exact fun z => by cases z
    · exact (I.2.2.1 w hw).mono fun _ => px_up_nn
  · obtain ⟨h1, h2, h3⟩ := I.2.2.2.2.1
    exact ⟨by omega, fun q h4 h5 => (hq q (by omega)).trans (h2 q h4 h5), h3⟩
  · have e : px_l (px_ua ad r H.size) lv = px_l ad lv := List.map_congr_left fun q hq => by rw [px_v_congr hk (I.2.1 q hq)]
    rw [e]; exact I.has
theorem px_stk {g : px_G} {P0 : px_R → Prop} {ad0 : px_R → Nat} {s : State} {nL : Nat} {ad dd : px_R → Nat} {H : Heap} {locs : List Loc} {ls : Array Slot} (I : px_I g P0 ad0 s nL lv st M ad dd H locs ls) {r : px_R} (hr : M r = none) (a : Nat) : st.map (px_v (px_ua ad r a)) = st.map (px_v ad) :=
  List.map_congr_left fun v hv => px_v_congr (M := M) (fun x hx => if_neg (fun (e : x = r) => hx (by rw [e]; exact hr))) (I.2.2.1 v hv)
def px_dv : FieldType → px_V := fun t => .inl (defaultValue t)
/-- an object of class ci; its role r is free till then -/
theorem px_new {index ci : Nat} {q : vw_C} {fs : List px_V} (r : px_R) (hd : decode Γ.2.1 pc = .ok (.new index, 3)) (hc : px_cl[ci]? = some q) (h1 : Cond.classLink Γ.1.cls index q.1 ∈ px_T) (h2 : Cond.instantiable q.1 q.2.2 ∈ px_T) (h3 : Cond.initialized q.1 ∈ px_T) (hr : M r = none)
    (hfs : fs = (List.range q.2.2).map fun j => px_dv (px_fty ci j)) (hk : k + 1 ≤ mc) (hn : n + q.2.2 ≤ ms)
    (kk : px_W d mc ms Γ Q (pc + 3) lv (.inr r :: st) (px_up M r (.inl (ci, fs))) (k + 1) (n + q.2.2)) : px_W d mc ms Γ Q pc lv st M k n := by
  refine ⟨trivial, fun {p l e R s m args below meth c g P0 ad0} C {ad dd H locs ls} I => ?_⟩
  obtain ⟨hx, hb, hml, hrt, hlk, hown, hnm, hts, htb, hfl, hSt, hR⟩ := id C
  obtain ⟨Cn, T, N⟩ := q
  have hKn := hSt.1.1 ci _ hc
  refine W.newcK hx hb hown (hts _ h1) (hts _ h2) (hts _ h3) rfl hd (by omega) (by omega) hKn.2.1 rfl fun H1 kC hkC e1 z1 o1 => ?_
  have hfl : fs.length = N := by rw [hfs]; simp
  have I' := I.new hSt (H1 := H1) (o := .inl (ci, fs)) hr (fun xs z => by cases z) ?_ ?_ z1 o1
  · have k1 := kk.2 (e := e) (below := below) C I'
    rw [List.map_cons, px_stk I hr] at k1
    have e9 : px_v (px_ua ad r H.size) (.inr r) = .ref H.size := congrArg Value.ref (if_pos rfl)
    rw [e9] at k1
    exact k1
  · show va_at (px_gD g) px_cl (px_ua ad r H.size r, .inr (ci, fs.map _)) H1
    rw [show px_ua ad r H.size r = H.size from if_pos rfl]
    refine ⟨_, hc, (u_born (px_fty ci) hts (px_clin ci _ hc) hKn hkC e1 (px_clty ci _ hc)).to fun j hj => ?_⟩
    rw [hfs]
    show _ = (((List.range N).map _).map _).getD j Value.null
    simp [List.getD_eq_getElem?_getD, hj, px_dv, px_v]
  · intro v hv
    rw [hfs] at hv
    obtain ⟨j, -, rfl⟩ := List.mem_map.mp hv
    trivial
theorem px_cA {g : px_G} {s : State} (hSt : px_St g s) {t : Nat} (ht : t < 4) {cA : ClassId} (h : s.vm.findClass ("[" ++ (px_ty t).toString) = some cA) : cA = px_gA g t := by
  have h9 : va_RA s (px_gA g t) (px_ty t) := by
    rcases (show t = 0 ∨ t = 1 ∨ t = 2 ∨ t = 3 by omega) with rfl | rfl | rfl | rfl
    · exact (hSt.1.2 0 _ rfl).2
    · exact (hSt.1.2 1 _ rfl).2
    · exact (hSt.1.2 2 _ rfl).2
    · exact (hSt.1.2 3 _ rfl).2
  rcases (show t = 0 ∨ t = 1 ∨ t = 2 ∨ t = 3 by omega) with rfl | rfl | rfl | rfl <;> exact Option.some.inj (h.symm.trans h9)
/-- a row of numbers: t its kind, a0 its zeros -/
theorem px_newa {atype : ArrayType} {t N : Nat} {x : Int32} {a0 : px_A} (r : px_R) (hd : decode Γ.2.1 pc = .ok (.newarray atype, 2)) (ht : newarray.typeOf atype = px_ty t) (ht4 : t < 4) (hw : Cond.arrayClass (px_ty t) ∈ px_T) (hr : M r = none) (hx : x = nI N) (hN : N ≤ 65536)
    (ha : ∀ (ad : px_R → Nat) (cA : ClassId), vp_cell cA (N, px_a ad a0) = arrV cA N (fun _ => defaultValue (px_ty t))) (hcf : px_cf M (.inr (.inl (t, N, a0)))) (hk : k + 1 ≤ mc) (hn : n + N ≤ ms)
    (kk : px_W d mc ms Γ Q (pc + 2) lv (.inr r :: st) (px_up M r (.inr (.inl (t, N, a0)))) (k + 1) (n + N)) : px_W d mc ms Γ Q pc lv (.inl (.int x) :: st) M k n := by
  subst hx
  refine ⟨trivial, fun {p l e R s m args below meth c g P0 ad0} C {ad dd H locs ls} I => ?_⟩
  obtain ⟨hx, hb, hml, hrt, hlk, hown, hnm, hts, htb, hfl, hSt, hR⟩ := id C
  have hby : N * componentBytes (newarray.typeOf atype) ≤ 536870912 := by
    rw [ht]
    rcases (show t = 0 ∨ t = 1 ∨ t = 2 ∨ t = 3 by omega) with rfl | rfl | rfl | rfl <;> simp [px_ty, componentBytes] <;> omega
  refine va_newaK hx hb (by rw [ht]; exact hts _ hw) rfl hd rfl (nI_pos (by omega)) (nI_clamp (by omega)) hby (by omega) (by omega) rfl fun H1 cA e1 z1 o1 hAr hNm => ?_
  rw [ht] at e1 hNm
  have ecA := px_cA hSt ht4 hNm
  subst ecA
  have I' := I.pop.new hSt (H1 := H1) (o := .inr (.inl (t, N, a0))) hr (fun xs z => by cases z) ?_ hcf z1 o1
  · have k1 := kk.2 (e := e) (below := below) C I'
    rw [List.map_cons, px_stk I.pop hr] at k1
    have e9 : px_v (px_ua ad r H.size) (.inr r) = .ref H.size := congrArg Value.ref (if_pos rfl)
    rw [e9] at k1
    exact k1
  · show va_at (px_gD g) px_cl (px_ua ad r H.size r, .inl (px_gA g t, N, px_a _ a0)) H1
    rw [show px_ua ad r H.size r = H.size from if_pos rfl]
    show H1[H.size]? = some (vp_cell _ _)
    rw [ha]; exact e1
/-- a row of references, of Steps (4) or Objects (5) -/
theorem px_newq {index t N : Nat} {nm : String} {x : Int32} (r : px_R) (hd : decode Γ.2.1 pc = .ok (.anewarray index, 3)) (ht : (t = 4 ∧ nm = "PathLists$Step") ∨ (t = 5 ∧ nm = "java/lang/Object")) (hw : Cond.classLink Γ.1.cls index nm ∈ px_T) (hr : M r = none) (hx : x = nI N) (hN : N ≤ 65536) (hk : k + 1 ≤ mc) (hn : n + N ≤ ms)
    (kk : px_W d mc ms Γ Q (pc + 3) lv (.inr r :: st) (px_up M r (.inr (.inl (t, N, .inr (.inr (.inr fun _ => none)))))) (k + 1) (n + N)) : px_W d mc ms Γ Q pc lv (.inl (.int x) :: st) M k n := by
  subst hx
  refine ⟨trivial, fun {p l e R s m args below meth c g P0 ad0} C {ad dd H locs ls} I => ?_⟩
  obtain ⟨hx, hb, hml, hrt, hlk, hown, hnm, hts, htb, hfl, hSt, hR⟩ := id C
  have ho : va_AO nm s ∧ ∃ kA comp, s.vm.classes[px_gA g t]? = some kA ∧ kA.kind = .array comp (.object nm) ∧ s.vm.findClass nm = some comp ∧ s.vm.findClass ("[" ++ (FieldType.object nm).toString) = some (px_gA g t) := by
    rcases ht with ⟨rfl, rfl⟩ | ⟨rfl, rfl⟩
    · exact ⟨hSt.2.2.2.2.2.2.2.1.1, (hSt.1.2 4 _ rfl).2⟩
    · exact ⟨hSt.2.2.2.2.2.2.2.1.2, (hSt.1.2 5 _ rfl).2⟩
  obtain ⟨ho, kA, comp, f2, f3, f4, f1⟩ := ho
  have ec : (nI N).toNatClampNeg = N := nI_clamp (by omega)
  refine W.anew hx hb hown (hts _ hw) (va_AO.use ho) rfl hd rfl (nI_pos (by omega)) (by omega) (by omega) (by omega) fun cA kA comp g1 g2 g3 g4 => ?_
  have ecA : cA = px_gA g t := Option.some.inj (g1.symm.trans f1)
  subst ecA
  rw [ec]
  generalize hH1 : H.push ({ cls := px_gA g t, slots := Array.replicate N .null, vm := .none } : Cell) = H1
  have z1 : H1.size = H.size + 1 := by rw [← hH1, Array.size_push]
  have e1 : H1[H.size]? = some (arrV (px_gA g t) N (fun _ => .null)) := by rw [← hH1, Array.getElem?_push_size, ← arrV_new]
  have o1 : ∀ q : Nat, q < H.size → H1[q]? = H[q]? := fun q hq => by rw [← hH1, Array.getElem?_push, if_neg (Nat.ne_of_lt hq)]
  have I' := I.pop.new hSt (H1 := H1) (o := .inr (.inl (t, N, .inr (.inr (.inr fun _ => none))))) hr (fun xs z => by cases z) ?_ (fun i x h => by cases h) z1 o1
  · have k1 := kk.2 (e := e) (below := below) C I'
    rw [List.map_cons, px_stk I.pop hr] at k1
    have e9 : px_v (px_ua ad r H.size) (.inr r) = .ref H.size := congrArg Value.ref (if_pos rfl)
    rw [e9] at k1
    exact k1
  · show va_at (px_gD g) px_cl (px_ua ad r H.size r, .inl (px_gA g t, N, px_a _ _)) H1
    rw [show px_ua ad r H.size r = H.size from if_pos rfl]
    exact e1
/-- a cast of an object to its own class -/
theorem px_cast {index ci : Nat} {q : vw_C} {r : px_R} {fs : List px_V} (hd : decode Γ.2.1 pc = .ok (.checkcast index, 3)) (hr : M r = some (.inl (ci, fs))) (hc : px_cl[ci]? = some q) (hw : Cond.classLink Γ.1.cls index q.1 ∈ px_T)
    (kk : px_W d mc ms Γ Q (pc + 3) lv (.inr r :: st) M k n) : px_W d mc ms Γ Q pc lv (.inr r :: st) M k n := by
  refine ⟨trivial, fun {p l e R s m args below meth c g P0 ad0} C {ad dd H locs ls} I => ?_⟩
  obtain ⟨hx, hb, hml, hrt, hlk, hown, hnm, hts, htb, hfl, hSt, hR⟩ := id C
  exact va_castS hx hb hown (hts _ hw) (hSt.1.1 ci _ hc).2 (va_recv (q0 := 0) (fs := fs.map (px_v ad)) hSt.1 (px_one (px_at.obj (I.1.1 r _ hr))) hc rfl) hd (kk.2 C I)
/-- the empty row of all lists -/
theorem px_getsE {index : Nat} (hd : decode Γ.2.1 pc = .ok (.getstatic index, 3)) (hw : Cond.fieldLink Γ.1.cls index RJx4a65c "DEFAULTCAPACITY_EMPTY_ELEMENTDATA" "[Ljava/lang/Object;" ∈ px_T)
    (kk : ∀ E : Nat, px_W d mc ms Γ Q (pc + 3) lv (.inl (.ref E) :: st) M k n) : px_W d mc ms Γ Q pc lv st M k n := by
  refine ⟨trivial, fun {p l e R s m args below meth c g P0 ad0} C {ad dd H locs ls} I => ?_⟩
  obtain ⟨hx, hb, hml, hrt, hlk, hown, hnm, hts, htb, hfl, hSt, hR⟩ := id C
  exact va_gets hx hb hSt.2.2.2.1 I.2.2.2.2.1 hown (hts _ hw) (fun _ h => h) hd ((kk _).2 C (I.psh trivial))
end PX3
end
section
/-! ===== returns, throws, catches, calls, and a body's contract ===== -/
theorem px_notrace {l : Launch} (h : l.flags = flags0) : l.stackTraces = false := by
  unfold Launch.stackTraces
  rw [h]
  simp [flags0]
/-- a return of v over the world M1; a throw of E -/
abbrev px_rt (v : Option px_V) (M1 : px_M) : px_Q := fun o M => o = .inl v ∧ M = M1
abbrev px_th (E : String) (M1 : px_M) : px_Q := fun o M => o = .inr E ∧ M = M1
theorem px_met_of {l : Launch} {y : MethodName} {ws : List Cond} {rm : Room} {Pc : Array Value → State → Prop} {Qc : Array Value → State → Outcome → State → Prop} {XC : String → State → State → Prop} {mc ms : Nat} {free : Addr → Prop} (h : vx_Met l y ws rm Pc Qc XC mc ms free) (hx : ∀ E s t, ¬ XC E s t) : Met l y ws rm Pc Qc mc ms free := by
  intro p e ha hc hk s m args below hf happ hP hK
  obtain ⟨n, o, h1, h2, h3, h4⟩ := h p e ha hc hk s m args below hf happ hP hK
  refine ⟨n, o, h1, h2, h3, ?_⟩
  rcases h4 with h4 | ⟨q, -, E, ce, L, hX, -⟩
  · exact h4
  · exact absurd hX (hx _ _ _)
section PX4
variable {d mc ms : Nat} {Γ : px_Y} {Q : px_Q} {pc : Nat} {lv : List (Nat × px_V)} {st : List px_V} {M : px_M} {k n : Nat}
theorem px_I.F {g : px_G} {P0 : px_R → Prop} {ad0 : px_R → Nat} {s t : State} {nL : Nat} {ad dd : px_R → Nat} {H : Heap} {locs : List Loc} {ls : Array Slot} (I : px_I g P0 ad0 s nL lv st M ad dd H locs ls) (ht : t.heap = H) : va_F (px_AA g) s t := I.2.2.2.2.1.F ht
theorem px_qc {g : px_G} {P0 : px_R → Prop} {ad0 : px_R → Nat} {s t : State} {nL : Nat} {ad dd : px_R → Nat} {H : Heap} {locs : List Loc} {ls : Array Slot} (I : px_I g P0 ad0 s nL lv st M ad dd H locs ls) (ht : t.heap = H) {v : Option px_V} (hQ : Q (.inl v) M) (hv : ∀ w, v = some w → px_wf M w) (a : Array Value) : px_Qc g P0 ad0 Q a s (.returned (v.map (px_v ad))) t :=
  ⟨v, M, ad, dd, rfl, hQ, hv, by rw [ht]; exact I.1, I.2.2.2.1, I.F ht⟩
theorem px_iret {x : Int32} (hd : decode Γ.2.1 pc = .ok (.ireturn, 1)) (hr : Γ.2.2.2.1 = some .int) (hQ : Q (.inl (some (.inl (.int x)))) M) (hk : k ≤ mc) (hn : n ≤ ms) : px_W d mc ms Γ Q pc lv (.inl (.int x) :: []) M k n := by
  refine ⟨trivial, fun {p l e R s m args below meth c g P0 ad0} C {ad dd H locs ls} I => ?_⟩
  exact vx_ret (W.widen hk hn (W.iret C.1 C.2.1 (C.2.2.2.1.trans hr) (fun t ht _ => px_qc I ht hQ (fun w hw => by cases hw; trivial) args) I.2.2.2.2.1.2.2 hd C.2.2.2.2.1))
theorem px_zret {x : Int32} (hd : decode Γ.2.1 pc = .ok (.ireturn, 1)) (hr : Γ.2.2.2.1 = some .boolean) (hx : narrow .boolean (.int x) = .int x) (hQ : Q (.inl (some (.inl (.int x)))) M) (hk : k ≤ mc) (hn : n ≤ ms) : px_W d mc ms Γ Q pc lv (.inl (.int x) :: []) M k n := by
  refine ⟨trivial, fun {p l e R s m args below meth c g P0 ad0} C {ad dd H locs ls} I => ?_⟩
  exact vx_ret (W.widen hk hn (W.zret C.1 C.2.1 (C.2.2.2.1.trans hr) hx (fun t ht _ => px_qc I ht hQ (fun w hw => by cases hw; trivial) args) I.2.2.2.2.1.2.2 hd C.2.2.2.2.1))
theorem px_dret {x : UInt64} (hd : decode Γ.2.1 pc = .ok (.dreturn, 1)) (hr : Γ.2.2.2.1 = some .double) (hQ : Q (.inl (some (.inl (.double x)))) M) (hk : k ≤ mc) (hn : n ≤ ms) : px_W d mc ms Γ Q pc lv (.inl (.double x) :: []) M k n := by
  refine ⟨trivial, fun {p l e R s m args below meth c g P0 ad0} C {ad dd H locs ls} I => ?_⟩
  exact vx_ret (W.widen hk hn (W.dret C.1 C.2.1 (C.2.2.2.1.trans hr) (fun t ht _ => px_qc I ht hQ (fun w hw => by cases hw; trivial) args) I.2.2.2.2.1.2.2 hd C.2.2.2.2.1))
theorem px_vret (hd : decode Γ.2.1 pc = .ok (.return_, 1)) (hr : Γ.2.2.2.1 = none) (hQ : Q (.inl none) M) (hk : k ≤ mc) (hn : n ≤ ms) : px_W d mc ms Γ Q pc lv [] M k n := by
  refine ⟨trivial, fun {p l e R s m args below meth c g P0 ad0} C {ad dd H locs ls} I => ?_⟩
  exact vx_ret (W.widen hk hn (W.vret C.1 C.2.1 (C.2.2.2.1.trans hr) (fun t ht _ => px_qc I ht hQ (fun w hw => by cases hw) args) I.2.2.2.2.1.2.2 hd C.2.2.2.2.1))
theorem px_aret {v : px_V} {rt : FieldType} (hd : decode Γ.2.1 pc = .ok (.areturn, 1)) (hr : Γ.2.2.2.1 = some rt) (hrr : (∃ n, rt = .object n) ∨ ∃ t, rt = .array t) (hv : px_ref v) (hQ : Q (.inl (some v)) M) (hk : k ≤ mc) (hn : n ≤ ms) : px_W d mc ms Γ Q pc lv (v :: []) M k n := by
  refine ⟨trivial, fun {p l e R s m args below meth c g P0 ad0} C {ad dd H locs ls} I => ?_⟩
  have h9 : px_v ad v = .null ∨ ∃ a, px_v ad v = .ref a := by
    rcases v with v | r
    · cases v <;> first | exact Or.inl rfl | exact Or.inr ⟨_, rfl⟩ | exact absurd hv id
    · exact Or.inr ⟨_, rfl⟩
  exact vx_ret (W.widen hk hn (W.aret C.1 C.2.1 (C.2.2.2.1.trans hr) hrr h9 (fun t ht _ => px_qc I ht hQ (fun w hw => by cases hw; exact I.top) args) I.2.2.2.2.1.2.2 hd C.2.2.2.2.1))
/-- what 'throw new E(text)' links -/
def px_thw (own : String) (ik ic : Nat) (E : String) : Prop := Bundle.fit E = true ∧ Cond.classLink own ik E ∈ px_T ∧ Cond.initialized E ∈ px_T ∧ (∀ w ∈ vx_atS own ic E ["java/lang/RuntimeException", "java/lang/Exception"], (w ∈ px_T ∨ (w ∈ lw_tbl ∧ px_isN w = true)) ∧ vx_ot w = true)
theorem px_throw {ik is ic : Nat} {E text : String} (hw : px_thw RX4 ik ic E) (hown : Γ.1.cls = RX4) (hh : Γ.2.2.2.2 = []) (htx : (is, text) ∈ px_strs)
    (d0 : decode Γ.2.1 pc = .ok (.new ik, 3)) (d3 : decode Γ.2.1 (pc + 3) = .ok (.dup, 1)) (d4 : decode Γ.2.1 (pc + 4) = .ok (.ldc is, 2)) (d6 : decode Γ.2.1 (pc + 6) = .ok (.invokespecial ic, 3)) (d9 : decode Γ.2.1 (pc + 9) = .ok (.athrow, 1))
    (hst : (st.map px_cat).sum ≤ 8) (hQ : Q (.inr E) M) (hk : k + 1 ≤ mc) (hn : n + 6 ≤ ms) : px_W d mc ms Γ Q pc lv st M k n := by
  refine ⟨trivial, fun {p l e R s m args below meth c g P0 ad0} C {ad dd H locs ls} I => ?_⟩
  obtain ⟨hx, hb, hml, hrt, hlk, ho, hnm, hts, htb, hfl, hSt, hR⟩ := id C
  obtain ⟨w1, w2, w3, w4⟩ := hw
  rw [hown] at ho
  obtain ⟨sa, hsa⟩ := hSt.2.2.2.2.2.1 _ htx
  have hcat : ((st.map (px_v ad)).map fun v => v.category).sum = (st.map px_cat).sum := by
    rw [List.map_map]
    exact congrArg List.sum (List.map_congr_left fun v _ => px_cat_v ad v)
  refine vx_throwS (names := ["java/lang/RuntimeException", "java/lang/Exception"]) hx hb (px_notrace hfl) ho w1 (by decide) (hts _ w2) (hts _ w3) hsa (fun w h => ?_) (fun w h => ?_) hSt.2.1 hSt.2.2.1 I.2.2.2.2.1 (I.siz.trans hml.symm) d0 d3 d4 d6 d9 ?_ (by show 2 + 3 < R.frames; omega) (by rw [hcat]; show _ + (13 * 3 + 43) ≤ R.locals; omega) (by omega) (by omega) hlk (fun t hal hz hq => ?_) I.2.2.2.2.1.2.2 hk hn
  · rcases (w4 w h).1 with h9 | ⟨h9, h8⟩
    · exact hts w h9
    · refine va_Nw.use ?_ (hSt.2.2.2.2.2.2.1 w h9 h8)
      cases w <;> first | rfl | (simp [px_isN] at h8)
  · rcases List.mem_cons.mp h with rfl | h
    · rfl
    · rcases List.mem_cons.mp h with rfl | h
      · rfl
      · exact (w4 w h).2
  · rw [htb, hh]
    exact fun x hx => absurd hx List.not_mem_nil
  · have hF := I.2.2.2.2.1
    exact ⟨M, ad, dd, hQ, I.1.heap hq, I.2.2.2.1, Nat.le_trans hF.1 hz, fun q h1 h2 => (hq q (Nat.lt_of_lt_of_le h1 hF.1)).trans (hF.2.1 q h1 h2)⟩
/-- thrown, and no handler here -/
theorem px_xout {E : String} (hh : Γ.2.2.2.2 = []) (hQ : Q (.inr E) M) (hk : k ≤ mc) (hn : n ≤ ms) : px_X d mc ms Γ Q pc lv E M k n := by
  refine ⟨trivial, fun {p l e R s m args below meth c g P0 ad0} C {ad dd H locs ls q ce rest} I h1 h2 h3 => ?_⟩
  refine vx_out (by rw [C.2.2.2.2.2.2.2.2.1, hh]; exact fun x hx => absurd hx List.not_mem_nil) C.2.2.2.2.1 h1 h2 h3 (fun t ht hal => ?_) I.2.2.2.2.1.2.2 hk hn
  exact ⟨M, ad, dd, hQ, by rw [ht]; exact I.1, I.2.2.2.1, I.F ht⟩
/-- thrown, and caught by row x of the table; the rows ahead name other classes -/
theorem px_xcatch {E : String} (pre : List (Nat × Nat × Nat × Nat)) (x : Nat × Nat × Nat × Nat) (suf : List (Nat × Nat × Nat × Nat)) (hsplit : Γ.2.2.2.2 = pre ++ x :: suf)
    (hpass : ∀ z ∈ pre, z.2.2.2 ≠ 0 ∧ ∃ nm : String, Cond.classLink Γ.1.cls z.2.2.2 nm ∈ px_T ∧ (E, nm) ∈ px_ncs) (hc : x.1 ≤ pc ∧ pc < x.2.1) (h0 : x.2.2.2 ≠ 0) (hlink : Cond.classLink Γ.1.cls x.2.2.2 E ∈ px_T) (hcast : Cond.castable E E ∈ lw_tbl)
    (kk : ∀ q : Nat, px_W d mc ms Γ Q x.2.2.1 lv (.inl (.ref q) :: []) M k n) : px_X d mc ms Γ Q pc lv E M k n := by
  refine ⟨trivial, fun {p l e R s m args below meth c g P0 ad0} C {ad dd H locs ls q ce rest} I h1 h2 h3 => ?_⟩
  obtain ⟨hx, hb, hml, hrt, hlk, ho, hnm, hts, htb, hfl, hSt, hR⟩ := id C
  refine vx_catch (name := E) ho (tableOf pre) ⟨x.1, x.2.1, x.2.2.1, x.2.2.2⟩ (tableOf suf) ?_ (fun z hz => ?_) ?_ h0 (hts _ hlink) (va_Nw.use rfl (hSt.2.2.2.2.2.2.1 _ hcast rfl)) h1 h2 h3 ((kk q).2 C (I.psh trivial))
  · rw [htb, hsplit]; simp [tableOf]
  · obtain ⟨y, hy, rfl⟩ := List.mem_map.mp hz
    obtain ⟨a1, nm, a2, a3⟩ := hpass y hy
    exact Or.inr ⟨a1, nm, hts _ a2, hSt.2.2.2.2.2.2.2.2.1.2.2.2 _ a3⟩
  · simp [covers, hc.1, hc.2]
/-! calls -/
theorem px_blind {g : px_G} {ad dd : px_R → Nat} {M : px_M} {av : List Value} : FrameBlind (va_Pc av (fun U => px_St g U ∧ px_Vw g ad dd M U.heap)) := fun a U g' mk h => ⟨h.1, h.2.1.same rfl rfl, h.2.2⟩
theorem px_pre {g : px_G} {P0 : px_R → Prop} {ad0 : px_R → Nat} {s : State} {nL : Nat} {ad dd : px_R → Nat} {H : Heap} {locs : List Loc} {ls : Array Slot} (hSt : px_St g s) (I : px_I g P0 ad0 s nL lv st M ad dd H locs ls) {av : List Value} (U : State) (hU : U.heap = H) (hW : s.WarmedH U.vm) : va_Pc av (fun U => px_St g U ∧ px_Vw g ad dd M U.heap) av.toArray U :=
  ⟨rfl, hSt.move hW (by rw [hU]; exact I.2.2.2.2.1.1) (fun q h1 h2 => by rw [hU]; exact I.2.2.2.2.1.2.1 q h1 h2), by rw [hU]; exact I.1⟩
/-- behind a call: it went on, or it threw -/
theorem px_back {Q' : px_Q} {mc' ms' : Nat} {a : Array Value} {st0 : List Value} {p : Program} {l : Launch} {e : Env} {R : Room} {s : State} {m : MethodId} {args : Array Value} {below : List Frame} {meth : Method} {c : Code} {g : px_G} {P0 : px_R → Prop} {ad0 : px_R → Nat} (C : px_C d mc ms Γ g p l R s m args meth c)
    {ad dd : px_R → Nat} {H : Heap} {locs : List Loc} {ls : Array Slot} (I : px_I g P0 ad0 s Γ.2.2.1 lv st M ad dd H locs ls)
    (hr : vx_Run p l e R s m args below meth c H locs k n mc' ms' (F0 m pc ls st0) (st.map (px_v ad)) (px_Qc g (fun r => M r ≠ none) ad Q' a) (px_XC g (fun r => M r ≠ none) ad Q') (px_AA g))
    (kk : ∀ v M', Q' (.inl v) M' → px_W d mc ms Γ Q (pc + 3) lv (v.toList ++ st) M' (k + mc') (n + ms')) (kx : ∀ E M', Q' (.inr E) M' → px_X d mc ms Γ Q pc lv E M' (k + mc') (n + ms')) :
    W p l e R s m args below meth c H locs k n (vx_MQ below (px_Qc g P0 ad0 Q) (px_XC g P0 ad0 Q) args s mc ms (px_AA g)) (F0 m pc ls st0) := by
  have keep : ∀ {M' : px_M} {ad' dd' : px_R → Nat} {t T' : State} {L : List Loc} {st₀ : State} {stk : List px_V}, st₀.heap = H → T'.heap = t.heap → (∀ q ∈ L, px_AA g q.base) → px_Vw g ad' dd' M' t.heap → (∀ r, M r ≠ none → M' r ≠ none ∧ ad' r = ad r) → va_F (px_AA g) st₀ t →
      (∀ v ∈ stk, px_wf M' v) → px_I g P0 ad0 s Γ.2.2.1 lv stk M' ad' dd' T'.heap (locs ++ L) ls := by
    intro M' ad' dd' t T' L st₀ stk h0 e1 hL hV hext hF hs
    obtain ⟨k1, k2, k3⟩ := vx_keep (A1 := px_AA g) (A0 := px_AA g) h0 e1 I.2.2.2.2.1 (fun q _ h => h) (fun q h => h) hL hF
    refine ⟨by rw [e1]; exact hV, fun q hq => (I.2.1 q hq).mono fun r h => (hext r h).1, hs, fun r hr => ⟨(hext r (I.2.2.2.1 r hr).1).1, ((hext r (I.2.2.2.1 r hr).1).2).trans (I.2.2.2.1 r hr).2⟩, k3, ?_⟩
    have e : px_l ad' lv = px_l ad lv := List.map_congr_left fun q hq => by rw [px_v_congr (fun r h => (hext r h).2) (I.2.1 q hq)]
    rw [e]; exact I.has
  intro T hT X
  rcases hr T hT X with ⟨v, st₀, t, T', L, h0, X', hL, e1, e2, ⟨v', M', ad', dd', hv, hQ, hwf, hV, hext, hF⟩, st1⟩ | ⟨q, st₀, t, T', L, E, ce, h0, X', hL, e1, e2, ⟨M', ad', dd', hQ, hV, hext, hF⟩, hce, hcv, hcl, st1⟩
  · cases hv
    have I' := keep (stk := v'.toList ++ st) h0 e1 hL hV hext hF (fun w hw => by
      rcases List.mem_append.mp hw with h | h
      · exact hwf w (Option.mem_toList.mp h)
      · exact (I.2.2.1 w h).mono fun r h => (hext r h).1)
    obtain ⟨t2, a1, b1⟩ := (kk v' M' hQ).2 C I' T' rfl X'
    have e9 : (v'.toList ++ st).map (px_v ad') = (v'.map (px_v ad')).toList ++ st.map (px_v ad) := by
      rw [List.map_append]
      congr 1
      · cases v' <;> rfl
      · exact List.map_congr_left fun w hw => px_v_congr (fun r h => (hext r h).2) (I.2.2.1 w hw)
    rw [e9] at a1
    exact ⟨t2, st1 t2 a1, b1⟩
  · have I' := keep (stk := []) h0 e1 hL hV hext hF (fun w hw => absurd hw List.not_mem_nil)
    obtain ⟨t2, a1, b1⟩ := (kx E M' hQ).2 C I' (q := q) (ce := ce) (rest := st.map (px_v ad)) (by rw [e1]; exact hce) hcv hcl T' rfl X'
    exact ⟨t2, st1.trans a1, b1⟩
/-- what a call needs of the tables: whose code, how many arguments -/
def px_lk0 (nA : Nat) (Γ' : px_Y) : Prop := Cond.initialized Γ'.1.cls ∈ px_T ∧ px_cw Γ' ∈ px_T ∧ (Γ'.1.cls ≠ "java/lang/invoke/MethodHandle" ∧ Γ'.1.cls ≠ "java/lang/invoke/VarHandle") ∧ (parseMethodDescriptor Γ'.1.desc).map (fun d => d.parameters.length) = some nA ∧ Γ'.2.2.1 ≤ 40
def px_lkV (own : String) (idx nA : Nat) (Γ' : px_Y) : Prop := px_lk0 nA Γ' ∧ Γ'.2.2.2.2 = [] ∧ Cond.methodLink own idx Γ'.1 ∈ px_T ∧ Cond.instanceMethod Γ'.1 ∈ px_T ∧ Cond.selects Γ'.1.cls Γ'.1 Γ'.1 ∈ px_T
def px_lkS (own : String) (idx nA : Nat) (Γ' : px_Y) : Prop := px_lk0 nA Γ' ∧ Γ'.2.2.2.2 = [] ∧ Cond.methodLink own idx Γ'.1 ∈ px_T ∧ Cond.static Γ'.1 ∈ px_T
def px_lkH (own : String) (idx nA : Nat) (Γ' : px_Y) : Prop := px_lk0 nA Γ' ∧ Γ'.2.2.2.2 ≠ [] ∧ Cond.methodLink own idx Γ'.1 ∈ px_T ∧ Cond.static Γ'.1 ∈ px_T
def px_lkI (own : String) (idx nA : Nat) (Γ' : px_Y) : Prop := px_lk0 nA Γ' ∧ Γ'.2.2.2.2 = [] ∧ Γ'.1.name = "<init>" ∧ Cond.instanceMethod Γ'.1 ∈ px_T ∧ (Cond.methodLink own idx Γ'.1 ∈ px_T ∨ ∃ host, Cond.methodLinkNest own idx Γ'.1 host ∈ lw_tbl)
theorem px_goodT : ∀ w ∈ px_T, (w.onTables && w.keeps) = true ∨ ∃ ty, w = .arrayClass ty := fun w h => good_of_word (List.mem_filter.mp h).2
theorem px_hws {s : State} {args : Array Value} {Γ' : px_Y} (hts : ∀ w ∈ px_T, w.before args s = true) (hc : px_cw Γ' ∈ px_T) : ∀ w ∈ px_ws Γ', ∀ (a' : Array Value) (U : State), s.WarmedH U.vm → w.before a' U = true := by
  intro w hw a' U hW
  have h9 : w ∈ px_T := by
    rcases List.mem_cons.mp hw with h | h
    · rw [h]; exact hc
    · exact h
  exact word_at hW (px_goodT w h9) (hts w h9)
theorem px_cw0 {Γ' : px_Y} (h : Γ'.2.2.2.2 = []) : px_cw Γ' = Cond.code Γ'.1 Γ'.2.1 Γ'.2.2.1 Γ'.2.2.2.1 := by unfold px_cw; rw [h]
theorem px_cwH {Γ' : px_Y} (h : Γ'.2.2.2.2 ≠ []) : px_cw Γ' = Cond.codeWith Γ'.1 Γ'.2.1 Γ'.2.2.1 Γ'.2.2.2.1 Γ'.2.2.2.2 := by
  unfold px_cw
  cases e : Γ'.2.2.2.2 with
  | nil => exact absurd e h
  | cons a l => rfl
theorem px_CallB {g : px_G} {p : Program} {l : Launch} {R : Room} {s : State} {m : MethodId} {args : Array Value} {meth : Method} {c : Code} (C : px_C d mc ms Γ g p l R s m args meth c) {Γ' : px_Y} {d' mc' ms' nA idx : Nat} (h : px_lk0 nA Γ') (hh : Γ'.2.2.2.2 = []) (hl : Cond.methodLink Γ.1.cls idx Γ'.1 ∈ px_T) (hd : d' + 1 ≤ d) :
    CallB R s args Γ.1.cls idx Γ'.1 Γ'.2.1 Γ'.2.2.1 Γ'.2.2.2.1 (px_ws Γ') (px_rm d' mc' ms') mc' ms' nA := by
  obtain ⟨hx, hb, hml, hrt, hlk, ho, hnm, hts, htb, hfl, hSt, hR⟩ := id C
  obtain ⟨h1, h2, h3, h4, h5⟩ := h
  refine ⟨rfl, rfl, by show d' + 8 + 1 ≤ R.frames; omega, by show 8 + (Γ'.2.2.1 + 11) + (60 * d' + 200) ≤ R.locals; omega, px_hws hts h2, ?_, ?_, hts _ h1, h3, fun sig hs => ?_, hts _ hl⟩
  · rw [← px_cw0 hh]; exact List.mem_cons_self
  · rw [← px_cw0 hh]; exact hts _ h2
  · rw [hs] at h4; exact (Option.some.inj h4).symm
theorem px_cats (ad : px_R → Nat) (st : List px_V) : ((st.map (px_v ad)).map fun v => v.category).sum = (st.map px_cat).sum := by
  rw [List.map_map]
  exact congrArg List.sum (List.map_congr_left fun v _ => px_cat_v ad v)
/-- the receiver's class, by its cell -/
def px_rcv (M : px_M) (r : px_R) (C : String) : Prop := (∃ ci fs q, M r = some (.inl (ci, fs)) ∧ px_cl[ci]? = some q ∧ q.1 = C) ∨ (∃ xs, M r = some (.inr (.inr xs)) ∧ C = RJx4a65c)
theorem px_rcv.use {g : px_G} {s : State} {ad dd : px_R → Nat} {H : Heap} {r : px_R} {Cn : String} (hSt : px_St g s) (hV : px_Vw g ad dd M H) (h : px_rcv M r Cn) : ∃ cell : Cell, H[ad r]? = some cell ∧ cell.vm.isStatics = false ∧ s.vm.findClass Cn = some cell.cls := by
  rcases h with ⟨ci, fs, q, hr, hc, rfl⟩ | ⟨xs, hr, rfl⟩
  · exact va_recv (q0 := 0) (fs := fs.map (px_v ad)) hSt.1 (px_one (px_at.obj (hV.1 r _ hr))) hc rfl
  · obtain ⟨mo, h1, -⟩ := hV.1 r _ hr
    exact va_recv (ci := 6) (q := (RJx4a65c, TJx4a65c, 3)) (q0 := 0) hSt.1 (px_one h1) rfl rfl
theorem px_callV {Γ' : px_Y} {d' mc' ms' idx nA : Nat} {As stk : List px_V} {r : px_R} {Q' : px_Q} (hM : px_Met d' mc' ms' Γ' (.inr r :: As) M Q') (hd : decode Γ.2.1 pc = .ok (.invokevirtual idx, 3)) (hl : px_lkV Γ.1.cls idx nA Γ') (hr : px_rcv M r Γ'.1.cls) (hs : stk = As.reverse ++ .inr r :: st) (hA : As.length = nA) (hdd : d' + 1 ≤ d) (hk : k + mc' ≤ mc) (hn : n + ms' ≤ ms) (hst : (st.map px_cat).sum ≤ 8)
    (kk : ∀ v M', Q' (.inl v) M' → px_W d mc ms Γ Q (pc + 3) lv (v.toList ++ st) M' (k + mc') (n + ms')) (kx : ∀ E M', Q' (.inr E) M' → px_X d mc ms Γ Q pc lv E M' (k + mc') (n + ms')) : px_W d mc ms Γ Q pc lv stk M k n := by
  subst hs
  refine ⟨trivial, fun {p l e R s m args below meth c g P0 ad0} C {ad dd H locs ls} I => ?_⟩
  obtain ⟨hx, hb, hml, hrt, hlk, ho, hnm, hts, htb, hfl, hSt, hR⟩ := id C
  obtain ⟨l0, hh, l1, l2, l3⟩ := hl
  have hst' : ∀ v ∈ (As.reverse ++ .inr r :: st), px_wf M v := I.2.2.1
  have hwA : ∀ v ∈ (.inr r :: As), px_wf M v := fun v hv => hst' v (by
    rcases List.mem_cons.mp hv with h | h
    · rw [h]; simp
    · simp [h])
  have I2 : px_I g P0 ad0 s Γ.2.2.1 lv st M ad dd H locs ls := ⟨I.1, I.2.1, fun v hv => hst' v (by simp [hv]), I.2.2.2⟩
  have hM' := hM l hfl hwA g ad dd
  refine px_back C I2 (a := (.ref (ad r) :: As.map (px_v ad)).toArray) (vx_runV (nL := Γ.2.2.1) (Ts := px_T) (C := Γ'.1.cls) (b := ad r) (As := As.map (px_v ad)) ⟨hx, hb, hml, ho, hts⟩ hM' ⟨px_CallB C l0 hh l1 hdd, hts _ l2, hts _ l3⟩ ⟨px_blind, hr.use hSt I.1, fun U hU hW => px_pre hSt I2 U hU hW⟩ rfl (by rw [List.length_map]; exact hA) I.siz ?_ ?_ hd ⟨by omega, by omega⟩) kk kx
  · show (As.reverse ++ .inr r :: st).map (px_v ad) = _
    rw [List.map_append, List.map_reverse]; rfl
  · show 2 * 0 + _ ≤ 8
    rw [px_cats]; omega
theorem px_callS {Γ' : px_Y} {d' mc' ms' idx nA : Nat} {As stk : List px_V} {Q' : px_Q} (hM : px_Met d' mc' ms' Γ' As M Q') (hd : decode Γ.2.1 pc = .ok (.invokestatic idx, 3)) (hl : px_lkS Γ.1.cls idx nA Γ') (hs : stk = As.reverse ++ st) (hA : As.length = nA) (hdd : d' + 1 ≤ d) (hk : k + mc' ≤ mc) (hn : n + ms' ≤ ms) (hst : (st.map px_cat).sum ≤ 8)
    (kk : ∀ v M', Q' (.inl v) M' → px_W d mc ms Γ Q (pc + 3) lv (v.toList ++ st) M' (k + mc') (n + ms')) (kx : ∀ E M', Q' (.inr E) M' → px_X d mc ms Γ Q pc lv E M' (k + mc') (n + ms')) : px_W d mc ms Γ Q pc lv stk M k n := by
  subst hs
  refine ⟨trivial, fun {p l e R s m args below meth c g P0 ad0} C {ad dd H locs ls} I => ?_⟩
  obtain ⟨hx, hb, hml, hrt, hlk, ho, hnm, hts, htb, hfl, hSt, hR⟩ := id C
  obtain ⟨l0, hh, l1, l2⟩ := hl
  have hst' : ∀ v ∈ (As.reverse ++ st), px_wf M v := I.2.2.1
  have I2 : px_I g P0 ad0 s Γ.2.2.1 lv st M ad dd H locs ls := ⟨I.1, I.2.1, fun v hv => hst' v (by simp [hv]), I.2.2.2⟩
  have hM' := hM l hfl (fun v hv => hst' v (by simp [hv])) g ad dd
  refine px_back C I2 (a := (As.map (px_v ad)).toArray) (vx_runS (nL := Γ.2.2.1) (Ts := px_T) (As := As.map (px_v ad)) ⟨hx, hb, hml, ho, hts⟩ hM' ⟨px_CallB C l0 hh l1 hdd, hts _ l2⟩ ⟨px_blind, fun U hU hW => px_pre hSt I2 U hU hW⟩ rfl (by rw [List.length_map]; exact hA) I.siz ?_ ?_ hd ⟨by omega, by omega⟩) kk kx
  · show (As.reverse ++ st).map (px_v ad) = _
    rw [List.map_append, List.map_reverse]
  · show 2 * 0 + _ ≤ 8
    rw [px_cats]; omega
/-- a static method with a table of handlers -/
theorem px_callH {Γ' : px_Y} {d' mc' ms' idx nA : Nat} {As stk : List px_V} {Q' : px_Q} (hM : px_Met d' mc' ms' Γ' As M Q') (hd : decode Γ.2.1 pc = .ok (.invokestatic idx, 3)) (hl : px_lkH Γ.1.cls idx nA Γ') (hs : stk = As.reverse ++ st) (hA : As.length = nA) (hdd : d' + 1 ≤ d) (hk : k + mc' ≤ mc) (hn : n + ms' ≤ ms) (hst : (st.map px_cat).sum ≤ 8)
    (kk : ∀ v M', Q' (.inl v) M' → px_W d mc ms Γ Q (pc + 3) lv (v.toList ++ st) M' (k + mc') (n + ms')) (kx : ∀ E M', Q' (.inr E) M' → px_X d mc ms Γ Q pc lv E M' (k + mc') (n + ms')) : px_W d mc ms Γ Q pc lv stk M k n := by
  subst hs
  refine ⟨trivial, fun {p l e R s m args below meth c g P0 ad0} C {ad dd H locs ls} I => ?_⟩
  obtain ⟨hx, hb, hml, hrt, hlk, ho, hnm, hts, htb, hfl, hSt, hR⟩ := id C
  obtain ⟨⟨h1, h2, h3, h4, h5⟩, hh, l1, l2⟩ := hl
  have hst' : ∀ v ∈ (As.reverse ++ st), px_wf M v := I.2.2.1
  have I2 : px_I g P0 ad0 s Γ.2.2.1 lv st M ad dd H locs ls := ⟨I.1, I.2.1, fun v hv => hst' v (by simp [hv]), I.2.2.2⟩
  have hM' := hM l hfl (fun v hv => hst' v (by simp [hv])) g ad dd
  refine px_back C I2 (a := (As.map (px_v ad)).toArray) (vx_runSX (nL := Γ.2.2.1) (Ts := px_T) (As := As.map (px_v ad)) ⟨hx, hb, hml, ho, hts⟩ hM' (bytes := Γ'.2.1) (maxL := Γ'.2.2.1) (ret := Γ'.2.2.2.1) (hh := Γ'.2.2.2.2) ⟨⟨rfl, rfl, by show d' + 8 + 1 ≤ R.frames; omega, by show 8 + (Γ'.2.2.1 + 11) + (60 * d' + 200) ≤ R.locals; omega, px_hws hts h2, by rw [← px_cwH hh]; exact List.mem_cons_self⟩, by rw [← px_cwH hh]; exact hts _ h2, hts _ h1, h3, fun sig hs => ?_, hts _ l1, hts _ l2⟩ ⟨px_blind, fun U hU hW => px_pre hSt I2 U hU hW⟩ rfl (by rw [List.length_map]) I.siz ?_ ?_ hd ⟨by omega, by omega⟩) kk kx
  · rw [hs] at h4; exact hA.trans (Option.some.inj h4).symm
  · show (As.reverse ++ st).map (px_v ad) = _
    rw [List.map_append, List.map_reverse]
  · show 2 * 0 + _ ≤ 8
    rw [px_cats]; omega
/-- a constructor, of the class's own, of a nest mate, of a superclass; it doesn't throw -/
theorem px_callI {Γ' : px_Y} {d' mc' ms' idx nA : Nat} {As stk : List px_V} {r : px_R} {M1 : px_M} (hM : px_Met d' mc' ms' Γ' (.inr r :: As) M (px_rt none M1)) (hd : decode Γ.2.1 pc = .ok (.invokespecial idx, 3)) (hl : px_lkI Γ.1.cls idx nA Γ') (hret : Γ'.2.2.2.1 = none) (hs : stk = As.reverse ++ .inr r :: st) (hA : As.length = nA) (hdd : d' + 1 ≤ d) (hk : k + mc' ≤ mc) (hn : n + ms' ≤ ms) (hst : (st.map px_cat).sum ≤ 8)
    (kk : px_W d mc ms Γ Q (pc + 3) lv st M1 (k + mc') (n + ms')) : px_W d mc ms Γ Q pc lv stk M k n := by
  subst hs
  refine ⟨trivial, fun {p l e R s m args below meth c g P0 ad0} C {ad dd H locs ls} I => ?_⟩
  obtain ⟨hx, hb, hml, hrt, hlk, ho, hnm, hts, htb, hfl, hSt, hR⟩ := id C
  obtain ⟨l0, hh, hin, l1, l2⟩ := hl
  have hst' : ∀ v ∈ (As.reverse ++ .inr r :: st), px_wf M v := I.2.2.1
  have hwA : ∀ v ∈ (.inr r :: As), px_wf M v := fun v hv => hst' v (by
    rcases List.mem_cons.mp hv with h | h
    · rw [h]; simp
    · simp [h])
  have I2 : px_I g P0 ad0 s Γ.2.2.1 lv st M ad dd H locs ls := ⟨I.1, I.2.1, fun v hv => hst' v (by simp [hv]), I.2.2.2⟩
  have hM' := px_met_of (hM l hfl hwA g ad dd) (fun E s t h => by obtain ⟨_, _, _, h1, -⟩ := h; exact absurd h1.1 (fun z => by cases z))
  have hstk : (As.reverse ++ .inr r :: st).map (px_v ad) = (As.map (px_v ad)).reverse ++ .ref (ad r) :: st.map (px_v ad) := by
    rw [List.map_append, List.map_reverse]; rfl
  have hcat : 2 * 0 + ((st.map (px_v ad)).map fun v => v.category).sum ≤ 8 := by rw [px_cats]; omega
  have hpre : PreS s H (va_Pc (((.inr r : px_V) :: As).map (px_v ad)) (fun U => px_St g U ∧ px_Vw g ad dd M U.heap)) (.ref (ad r) :: As.map (px_v ad)) := ⟨px_blind, fun U hU hW => px_pre hSt I2 U hU hW⟩
  have go : va_Run p l e R s m args below meth c H locs k n mc' ms' (F0 m pc ls ((As.reverse ++ .inr r :: st).map (px_v ad))) (st.map (px_v ad)) (px_Qc g (fun r => M r ≠ none) ad (px_rt none M1) (.ref (ad r) :: As.map (px_v ad)).toArray) (px_AA g) := by
    obtain ⟨h1, h2, h3, h4, h5⟩ := id l0
    rcases l2 with l2 | ⟨host, l2⟩
    · have cb := px_CallB (d' := d') (mc' := mc') (ms' := ms') C l0 hh l2 hdd
      rw [hret] at cb
      exact va_runI (nL := Γ.2.2.1) (Ts := px_T) (As := As.map (px_v ad)) (b := ad r) ⟨hx, hb, hml, ho, hts⟩ hM' ⟨cb, hin, hts _ l1⟩ hpre rfl (by rw [List.length_map]; exact hA) I.siz hstk hcat hd ⟨by omega, by omega⟩
    · refine va_runIN (nL := Γ.2.2.1) (Ts := px_T) (As := As.map (px_v ad)) (b := ad r) (bytes := Γ'.2.1) (maxL := Γ'.2.2.1) (host := host) ⟨hx, hb, hml, ho, hts⟩ hM' ⟨⟨⟨rfl, rfl, by show d' + 8 + 1 ≤ R.frames; omega, by show 8 + (Γ'.2.2.1 + 11) + (60 * d' + 200) ≤ R.locals; omega, px_hws hts h2, ?_⟩, ?_, hts _ h1, h3, fun sig hs => ?_, va_Nw.use rfl (hSt.2.2.2.2.2.2.1 _ l2 rfl)⟩, hin, hts _ l1⟩ hpre rfl (by rw [List.length_map]) I.siz hstk hcat hd ⟨by omega, by omega⟩
      · rw [← hret, ← px_cw0 hh]; exact List.mem_cons_self
      · rw [← hret, ← px_cw0 hh]; exact hts _ h2
      · rw [hs] at h4; exact hA.trans (Option.some.inj h4).symm
  exact px_back (a := (.ref (ad r) :: As.map (px_v ad)).toArray) C I2 (fun T hT X => Or.inl (go T hT X)) (fun v M' h => by
    obtain ⟨h1, h2⟩ := h
    cases h1; subst h2; exact kk) (fun E M' h => absurd h.1 (fun z => by cases z))
/-- Object's constructor -/
theorem px_objInit {idx : Nat} {r : px_R} (hd : decode Γ.2.1 pc = .ok (.invokespecial idx, 3)) (hl : Cond.methodLink Γ.1.cls idx objectInit ∈ px_T ∧ Cond.instanceMethod objectInit ∈ px_T ∧ Cond.code objectInit ⟨#[0xb1]⟩ 1 none ∈ px_T) (hst : (st.map px_cat).sum ≤ 8)
    (kk : px_W d mc ms Γ Q (pc + 3) lv st M k n) : px_W d mc ms Γ Q pc lv (.inr r :: st) M k n := by
  refine ⟨trivial, fun {p l e R s m args below meth c g P0 ad0} C {ad dd H locs ls} I => ?_⟩
  obtain ⟨hx, hb, hml, hrt, hlk, ho, hnm, hts, htb, hfl, hSt, hR⟩ := id C
  exact W.objInit hx hb ho (hts _ hl.1) (hts _ hl.2.1) (hts _ hl.2.2) rfl (I.siz.trans hml.symm) rfl hd (by omega) (by show 2 * 0 + ((st.map (px_v ad)).map fun v => v.category).sum + 12 ≤ R.locals; rw [px_cats]; omega) (kk.2 C I.pop)
/-! a body -/
def px_args : Nat → List px_V → List (Nat × px_V)
  | _, [] => []
  | i, v :: vs => (i, v) :: px_args (if px_cat v = 2 then i + 2 else i + 1) vs
theorem px_l_args (ad : px_R → Nat) : ∀ (vs : List px_V) (i : Nat), lv_args i (vs.map (px_v ad)) = px_l ad (px_args i vs)
  | [], _ => rfl
  | v :: vs, i => by
    show (i, px_v ad v) :: lv_args (if (px_v ad v).category = 2 then i + 2 else i + 1) (vs.map (px_v ad)) = (i, px_v ad v) :: px_l ad (px_args (if px_cat v = 2 then i + 2 else i + 1) vs)
    rw [px_cat_v, px_l_args ad vs]
theorem px_args_mem : ∀ (vs : List px_V) (i : Nat) (q : Nat × px_V), q ∈ px_args i vs → q.2 ∈ vs
  | [], _, _, h => absurd h List.not_mem_nil
  | v :: vs, i, q, h => by
    rcases List.mem_cons.mp h with h | h
    · rw [h]; exact List.mem_cons_self
    · exact List.mem_cons_of_mem _ (px_args_mem vs _ q h)
theorem px_sl_len (ad : px_R → Nat) (vs : List px_V) : (lg_sl (vs.map (px_v ad))).length = (vs.map fun v => if px_cat v = 2 then 2 else 1).sum := by
  induction vs with
  | nil => rfl
  | cons v vs ih =>
    show (lg_sl (px_v ad v :: vs.map (px_v ad))).length = _
    simp only [lg_sl, List.flatMap_cons, List.length_append, List.map_cons, List.sum_cons] at ih ⊢
    rw [ih, px_cat_v]
    by_cases h : px_cat v = 2 <;> simp [h]
theorem px_ofW {As : List px_V} (hy : plainName Γ.1.cls = true) (hc : px_cw Γ ∈ px_T) (hl : (As.map fun v => if px_cat v = 2 then 2 else 1).sum ≤ Γ.2.2.1) (h : px_W d mc ms Γ Q 0 (px_args 0 As) [] M 0 0) : px_Met d mc ms Γ As M Q := by
  intro l hfl hwf g ad dd
  have body : ∀ (p : Program) (e : Env) (s : State) (m : MethodId) (args : Array Value) (below : List Frame) (meth : Method) (c : Code) (s₁ : State), BodyLoose p l Γ.1 (headSpec (px_ws Γ) (px_rm d mc ms)) Γ.2.1 Γ.2.2.1 Γ.2.2.2.1 e s m args below meth c s₁ → c.maxLocals = Γ.2.2.1 → c.exceptionTable.toList = tableOf Γ.2.2.2.2 → va_Pc (As.map (px_v ad)) (fun U => px_St g U ∧ px_Vw g ad dd M U.heap) args s →
      W p l e (headSpec (px_ws Γ) (px_rm d mc ms)).room s m args below meth c s.heap [] 0 0 (vx_MQ below (px_Qc g (fun r => M r ≠ none) ad Q) (px_XC g (fun r => M r ≠ none) ad Q) args s mc ms (px_AA g)) (entryFrame m args Γ.2.2.1) := by
    intro p e s m args below meth c s₁ B hml ht hv
    obtain ⟨rfl, hSt, hV⟩ := hv
    have hts := atoms_spec (ws := px_ws Γ) B.pre
    have hl' : (lg_sl (As.map (px_v ad))).length ≤ Γ.2.2.1 := by rw [px_sl_len]; exact hl
    have hl0 := lv_entry (As.map (px_v ad)) hl'
    rw [lg_entry_eq]
    generalize (lg_sl (As.map (px_v ad)) ++ List.replicate (Γ.2.2.1 - (lg_sl (As.map (px_v ad))).length) Slot.unset).toArray = ls at hl0 ⊢
    rw [px_l_args] at hl0
    refine h.2 (P0 := fun r => M r ≠ none) (ad0 := ad) ⟨B.exec, B.bytes, hml, B.returns, B.notSynchronized, findClass_of_methodNamed B.named, (name_of_methodNamed B.named B.method).1, fun w hw => hts w (List.mem_cons_of_mem _ hw), ht, hfl, hSt, ?_⟩ ⟨hV, fun q hq => hwf _ (px_args_mem As 0 q hq), fun v hv => absurd hv List.not_mem_nil, fun r hr => ⟨hr, rfl⟩, va_S.rf, hl0⟩
    exact ⟨Nat.le_refl _, Nat.le_refl _, Nat.le_refl _, Nat.le_refl _⟩
  by_cases hh : Γ.2.2.2.2 = []
  · refine vx_ofW (cc := Γ.2.1) (maxL := Γ.2.2.1) (ret := Γ.2.2.2.1) hy (by rw [px_ws, px_cw0 hh]) fun p e s m args below meth c s₁ B hml ht hv => body p e s m args below meth c s₁ B hml ?_ hv
    rw [hh]
    cases e9 : c.exceptionTable.toList with
    | nil => rfl
    | cons a l => exact (ht a (by rw [e9]; exact List.mem_cons_self)).elim
  · refine vx_ofWH (cc := Γ.2.1) (maxL := Γ.2.2.1) (ret := Γ.2.2.2.1) (hh := Γ.2.2.2.2) hy (by rw [px_ws, px_cwH hh]) fun p e s m args below meth c s₁ B hml hv => body p e s m args below meth c s₁ B hml ?_ hv
    have h9 := atoms_spec (ws := px_ws Γ) B.pre _ List.mem_cons_self
    rw [px_cwH hh] at h9
    exact vx_table (x := Γ.1) B h9
/-- another end's words -/
theorem px_Met.mono {As : List px_V} {Q' : px_Q} (h : px_Met d mc ms Γ As M Q) (hQ : ∀ o M', Q o M' → Q' o M') : px_Met d mc ms Γ As M Q' := by
  intro l hfl hwf g ad dd p e ha hc hk s m args below hf happ hP hK
  obtain ⟨n, o, h1, h2, h3, h4⟩ := h l hfl hwf g ad dd p e ha hc hk s m args below hf happ hP hK
  refine ⟨n, o, h1, h2, h3, ?_⟩
  rcases h4 with ⟨⟨v, M', ad', dd', a1, a2, a3⟩, h4⟩ | ⟨q, e9, E, ce, L, ⟨M', ad', dd', a1, a2⟩, h5⟩
  · exact Or.inl ⟨⟨v, M', ad', dd', a1, hQ _ _ a2, a3⟩, h4⟩
  · exact Or.inr ⟨q, e9, E, ce, L, ⟨M', ad', dd', hQ _ _ a1, a2⟩, h5⟩
end PX4
end
section
theorem px_mem {w : Cond} (i : Nat) (h : lw_tbl[i]? = some w) (g : goodWord w = true) : w ∈ px_T := List.mem_filter.mpr ⟨List.mem_of_getElem? h, g⟩
def mX4_init : px_Y := (yX4_init, cX4_init, 1, none, [])
theorem W_mX4_init : px_cw mX4_init ∈ px_T := px_mem 70 (by decide +kernel) rfl
def mJx4a65c_init_da8c8 : px_Y := (yJx4a65c_init_da8c8, cJx4a65c_init_da8c8, 1, none, [])
theorem W_mJx4a65c_init_da8c8 : px_cw mJx4a65c_init_da8c8 ∈ px_T := px_mem 78 (by decide +kernel) rfl
def mJxc12de_init_da8c8 : px_Y := (yJxc12de_init_da8c8, cJxc12de_init_da8c8, 1, none, [])
theorem W_mJxc12de_init_da8c8 : px_cw mJxc12de_init_da8c8 ∈ px_T := px_mem 81 (by decide +kernel) rfl
def mJxa1e45_init_da8c8 : px_Y := (yJxa1e45_init_da8c8, cJxa1e45_init_da8c8, 1, none, [])
theorem W_mJxa1e45_init_da8c8 : px_cw mJxa1e45_init_da8c8 ∈ px_T := px_mem 84 (by decide +kernel) rfl
def mX1_init : px_Y := (yX1_init, cX1_init, 3, none, [])
theorem W_mX1_init : px_cw mX1_init ∈ px_T := px_mem 104 (by decide +kernel) rfl
def mX3_init : px_Y := (yX3_init, cX3_init, 2, none, [])
theorem W_mX3_init : px_cw mX3_init ∈ px_T := px_mem 113 (by decide +kernel) rfl
def mJ7_fill_53178 : px_Y := (yJ7_fill_53178, cJ7_fill_53178, 4, none, [])
theorem W_mJ7_fill_53178 : px_cw mJ7_fill_53178 ∈ px_T := px_mem 171 (by decide +kernel) rfl
def mX4_back : px_Y := (yX4_back, cX4_back, 2, some (Jvm.ClassFile.FieldType.boolean), [])
theorem W_mX4_back : px_cw mX4_back ∈ px_T := px_mem 209 (by decide +kernel) rfl
def mJx4a65c_isEmpty_aae02 : px_Y := (yJx4a65c_isEmpty_aae02, cJx4a65c_isEmpty_aae02, 1, some (Jvm.ClassFile.FieldType.boolean), [])
theorem W_mJx4a65c_isEmpty_aae02 : px_cw mJx4a65c_isEmpty_aae02 ∈ px_T := px_mem 213 (by decide +kernel) rfl
def mJx4a65c_size_8abf5 : px_Y := (yJx4a65c_size_8abf5, cJx4a65c_size_8abf5, 1, some (Jvm.ClassFile.FieldType.int), [])
theorem W_mJx4a65c_size_8abf5 : px_cw mJx4a65c_size_8abf5 ∈ px_T := px_mem 217 (by decide +kernel) rfl
def mJx4a65c_remove_915e3 : px_Y := (yJx4a65c_remove_915e3, cJx4a65c_remove_915e3, 4, some ((Jvm.ClassFile.FieldType.object "java/lang/Object")), [])
theorem W_mJx4a65c_remove_915e3 : px_cw mJx4a65c_remove_915e3 ∈ px_T := px_mem 221 (by decide +kernel) rfl
def mJ15_checkIndex_7cf53 : px_Y := (yJ15_checkIndex_7cf53, cJ15_checkIndex_7cf53, 2, some (Jvm.ClassFile.FieldType.int), [])
theorem W_mJ15_checkIndex_7cf53 : px_cw mJ15_checkIndex_7cf53 ∈ px_T := px_mem 224 (by decide +kernel) rfl
def mJ3_checkIndex_8e157 : px_Y := (yJ3_checkIndex_8e157, cJ3_checkIndex_8e157, 3, some (Jvm.ClassFile.FieldType.int), [])
theorem W_mJ3_checkIndex_8e157 : px_cw mJ3_checkIndex_8e157 ∈ px_T := px_mem 227 (by decide +kernel) rfl
def mJx4a65c_fastRemove_b59b0 : px_Y := (yJx4a65c_fastRemove_b59b0, cJx4a65c_fastRemove_b59b0, 4, none, [])
theorem W_mJx4a65c_fastRemove_b59b0 : px_cw mJx4a65c_fastRemove_b59b0 ∈ px_T := px_mem 231 (by decide +kernel) rfl
def mL_pin : px_Y := (yL_pin, cL_pin, 3, some (Jvm.ClassFile.FieldType.int), [(0, 8, 11, 13)])
theorem W_mL_pin : px_cw mL_pin ∈ px_T := px_mem 238 (by decide +kernel) rfl
def mX4_pin : px_Y := (yX4_pin, cX4_pin, 2, some (Jvm.ClassFile.FieldType.int), [])
theorem W_mX4_pin : px_cw mX4_pin ∈ px_T := px_mem 243 (by decide +kernel) rfl
def mJx4a65c_add_9ea2d : px_Y := (yJx4a65c_add_9ea2d, cJx4a65c_add_9ea2d, 2, some (Jvm.ClassFile.FieldType.boolean), [])
theorem W_mJx4a65c_add_9ea2d : px_cw mJx4a65c_add_9ea2d ∈ px_T := px_mem 315 (by decide +kernel) rfl
def mJx4a65c_add_72be8 : px_Y := (yJx4a65c_add_72be8, cJx4a65c_add_72be8, 4, none, [])
theorem W_mJx4a65c_add_72be8 : px_cw mJx4a65c_add_72be8 ∈ px_T := px_mem 319 (by decide +kernel) rfl
def mJx4a65c_grow_d5877 : px_Y := (yJx4a65c_grow_d5877, cJx4a65c_grow_d5877, 1, some ((Jvm.ClassFile.FieldType.array (Jvm.ClassFile.FieldType.object "java/lang/Object"))), [])
theorem W_mJx4a65c_grow_d5877 : px_cw mJx4a65c_grow_d5877 ∈ px_T := px_mem 323 (by decide +kernel) rfl
def mJx4a65c_grow_92f84 : px_Y := (yJx4a65c_grow_92f84, cJx4a65c_grow_92f84, 4, some ((Jvm.ClassFile.FieldType.array (Jvm.ClassFile.FieldType.object "java/lang/Object"))), [])
theorem W_mJx4a65c_grow_92f84 : px_cw mJx4a65c_grow_92f84 ∈ px_T := px_mem 327 (by decide +kernel) rfl
def mJ8_newLength_cabcc : px_Y := (yJ8_newLength_cabcc, cJ8_newLength_cabcc, 4, some (Jvm.ClassFile.FieldType.int), [])
theorem W_mJ8_newLength_cabcc : px_cw mJ8_newLength_cabcc ∈ px_T := px_mem 330 (by decide +kernel) rfl
def mJ9_max_7cf53 : px_Y := (yJ9_max_7cf53, cJ9_max_7cf53, 2, some (Jvm.ClassFile.FieldType.int), [])
theorem W_mJ9_max_7cf53 : px_cw mJ9_max_7cf53 ∈ px_T := px_mem 333 (by decide +kernel) rfl
def mJ8_hugeLength_7cf53 : px_Y := (yJ8_hugeLength_7cf53, cJ8_hugeLength_7cf53, 3, some (Jvm.ClassFile.FieldType.int), [])
theorem W_mJ8_hugeLength_7cf53 : px_cw mJ8_hugeLength_7cf53 ∈ px_T := px_mem 337 (by decide +kernel) rfl
def mJ7_copyOf_1904c : px_Y := (yJ7_copyOf_1904c, cJ7_copyOf_1904c, 2, some ((Jvm.ClassFile.FieldType.array (Jvm.ClassFile.FieldType.object "java/lang/Object"))), [])
theorem W_mJ7_copyOf_1904c : px_cw mJ7_copyOf_1904c ∈ px_T := px_mem 340 (by decide +kernel) rfl
def mJ7_copyOf_6403c : px_Y := (yJ7_copyOf_6403c, cJ7_copyOf_6403c, 4, some ((Jvm.ClassFile.FieldType.array (Jvm.ClassFile.FieldType.object "java/lang/Object"))), [])
theorem W_mJ7_copyOf_6403c : px_cw mJ7_copyOf_6403c ∈ px_T := px_mem 359 (by decide +kernel) rfl
def mJ9_min_7cf53 : px_Y := (yJ9_min_7cf53, cJ9_min_7cf53, 2, some (Jvm.ClassFile.FieldType.int), [])
theorem W_mJ9_min_7cf53 : px_cw mJ9_min_7cf53 ∈ px_T := px_mem 365 (by decide +kernel) rfl
def mL_arc : px_Y := (yL_arc, cL_arc, 7, some (Jvm.ClassFile.FieldType.int), [(0, 12, 15, 19), (0, 12, 19, 13), (0, 12, 23, 21)])
theorem W_mL_arc : px_cw mL_arc ∈ px_T := px_mem 371 (by decide +kernel) rfl
def mX4_arc : px_Y := (yX4_arc, cX4_arc, 8, some (Jvm.ClassFile.FieldType.int), [])
theorem W_mX4_arc : px_cw mX4_arc ∈ px_T := px_mem 377 (by decide +kernel) rfl
def mX4_checkIndex : px_Y := (yX4_checkIndex, cX4_checkIndex, 2, none, [])
theorem W_mX4_checkIndex : px_cw mX4_checkIndex ∈ px_T := px_mem 380 (by decide +kernel) rfl
def mX4_isDelay : px_Y := (yX4_isDelay, cX4_isDelay, 2, some (Jvm.ClassFile.FieldType.boolean), [])
theorem W_mX4_isDelay : px_cw mX4_isDelay ∈ px_T := px_mem 400 (by decide +kernel) rfl
def mX4_isTime : px_Y := (yX4_isTime, cX4_isTime, 2, some (Jvm.ClassFile.FieldType.boolean), [])
theorem W_mX4_isTime : px_cw mX4_isTime ∈ px_T := px_mem 403 (by decide +kernel) rfl
def mJx4a65c_get_915e3 : px_Y := (yJx4a65c_get_915e3, cJx4a65c_get_915e3, 2, some ((Jvm.ClassFile.FieldType.object "java/lang/Object")), [])
theorem W_mJx4a65c_get_915e3 : px_cw mJx4a65c_get_915e3 ∈ px_T := px_mem 426 (by decide +kernel) rfl
def mJx4a65c_elementData_915e3 : px_Y := (yJx4a65c_elementData_915e3, cJx4a65c_elementData_915e3, 2, some ((Jvm.ClassFile.FieldType.object "java/lang/Object")), [])
theorem W_mJx4a65c_elementData_915e3 : px_cw mJx4a65c_elementData_915e3 ∈ px_T := px_mem 430 (by decide +kernel) rfl
def mX4_spread : px_Y := (yX4_spread, cX4_spread, 5, none, [])
theorem W_mX4_spread : px_cw mX4_spread ∈ px_T := px_mem 434 (by decide +kernel) rfl
def mX4_spreadFurther : px_Y := (yX4_spreadFurther, cX4_spreadFurther, 7, none, [])
theorem W_mX4_spreadFurther : px_cw mX4_spreadFurther ∈ px_T := px_mem 439 (by decide +kernel) rfl
def mX4_placeReachedLast : px_Y := (yX4_placeReachedLast, cX4_placeReachedLast, 4, none, [])
theorem W_mX4_placeReachedLast : px_cw mX4_placeReachedLast ∈ px_T := px_mem 445 (by decide +kernel) rfl
def mJx4a65c_add_7a177 : px_Y := (yJx4a65c_add_7a177, cJx4a65c_add_7a177, 5, none, [])
theorem W_mJx4a65c_add_7a177 : px_cw mJx4a65c_add_7a177 ∈ px_T := px_mem 449 (by decide +kernel) rfl
def mJx4a65c_rangeCheckForAdd_d00df : px_Y := (yJx4a65c_rangeCheckForAdd_d00df, cJx4a65c_rangeCheckForAdd_d00df, 2, none, [])
theorem W_mJx4a65c_rangeCheckForAdd_d00df : px_cw mJx4a65c_rangeCheckForAdd_d00df ∈ px_T := px_mem 453 (by decide +kernel) rfl
def mJx4a65c_outOfBoundsMsg_b52d3 : px_Y := (yJx4a65c_outOfBoundsMsg_b52d3, cJx4a65c_outOfBoundsMsg_b52d3, 2, some ((Jvm.ClassFile.FieldType.object "java/lang/String")), [])
theorem W_mJx4a65c_outOfBoundsMsg_b52d3 : px_cw mJx4a65c_outOfBoundsMsg_b52d3 ∈ px_T := px_mem 458 (by decide +kernel) rfl
def mJ7_copyOf_9075b : px_Y := (yJ7_copyOf_9075b, cJ7_copyOf_9075b, 3, some ((Jvm.ClassFile.FieldType.array Jvm.ClassFile.FieldType.byte)), [])
theorem W_mJ7_copyOf_9075b : px_cw mJ7_copyOf_9075b ∈ px_T := px_mem 514 (by decide +kernel) rfl
def mJ3_checkFromToIndex_8c36e : px_Y := (yJ3_checkFromToIndex_8c36e, cJ3_checkFromToIndex_8c36e, 4, some (Jvm.ClassFile.FieldType.int), [])
theorem W_mJ3_checkFromToIndex_8c36e : px_cw mJ3_checkFromToIndex_8c36e ∈ px_T := px_mem 543 (by decide +kernel) rfl
def mJ3_checkFromIndexSize_8c36e : px_Y := (yJ3_checkFromIndexSize_8c36e, cJ3_checkFromIndexSize_8c36e, 4, some (Jvm.ClassFile.FieldType.int), [])
theorem W_mJ3_checkFromIndexSize_8c36e : px_cw mJ3_checkFromIndexSize_8c36e ∈ px_T := px_mem 589 (by decide +kernel) rfl
def mJ7_copyOfRange_39247 : px_Y := (yJ7_copyOfRange_39247, cJ7_copyOfRange_39247, 3, some ((Jvm.ClassFile.FieldType.array Jvm.ClassFile.FieldType.byte)), [])
theorem W_mJ7_copyOfRange_39247 : px_cw mJ7_copyOfRange_39247 ∈ px_T := px_mem 651 (by decide +kernel) rfl
def mJ7_copyOfRangeByte_39247 : px_Y := (yJ7_copyOfRangeByte_39247, cJ7_copyOfRangeByte_39247, 5, some ((Jvm.ClassFile.FieldType.array Jvm.ClassFile.FieldType.byte)), [])
theorem W_mJ7_copyOfRangeByte_39247 : px_cw mJ7_copyOfRangeByte_39247 ∈ px_T := px_mem 654 (by decide +kernel) rfl
def mJ7_checkLength_df160 : px_Y := (yJ7_checkLength_df160, cJ7_checkLength_df160, 2, none, [])
theorem W_mJ7_checkLength_df160 : px_cw mJ7_checkLength_df160 ∈ px_T := px_mem 657 (by decide +kernel) rfl
def mX2_init : px_Y := (yX2_init, cX2_init, 6, none, [])
theorem W_mX2_init : px_cw mX2_init ∈ px_T := px_mem 694 (by decide +kernel) rfl
def mL_end : px_Y := (yL_end, cL_end, 6, some (Jvm.ClassFile.FieldType.int), [(0, 11, 14, 19), (0, 11, 18, 13), (0, 11, 22, 21)])
theorem W_mL_end : px_cw mL_end ∈ px_T := px_mem 723 (by decide +kernel) rfl
def mX4_end : px_Y := (yX4_end, cX4_end, 6, some (Jvm.ClassFile.FieldType.int), [])
theorem W_mX4_end : px_cw mX4_end ∈ px_T := px_mem 727 (by decide +kernel) rfl
def mX4_checkTime : px_Y := (yX4_checkTime, cX4_checkTime, 2, none, [])
theorem W_mX4_checkTime : px_cw mX4_checkTime ∈ px_T := px_mem 731 (by decide +kernel) rfl
def mL_start : px_Y := (yL_start, cL_start, 6, some (Jvm.ClassFile.FieldType.int), [(0, 11, 14, 19), (0, 11, 18, 13), (0, 11, 22, 21)])
theorem W_mL_start : px_cw mL_start ∈ px_T := px_mem 735 (by decide +kernel) rfl
def mX4_start : px_Y := (yX4_start, cX4_start, 6, some (Jvm.ClassFile.FieldType.int), [])
theorem W_mX4_start : px_cw mX4_start ∈ px_T := px_mem 739 (by decide +kernel) rfl
def mL_through : px_Y := (yL_through, cL_through, 5, some (Jvm.ClassFile.FieldType.int), [(0, 17, 20, 19), (0, 17, 24, 21)])
theorem W_mL_through : px_cw mL_through ∈ px_T := px_mem 743 (by decide +kernel) rfl
def mX4_through : px_Y := (yX4_through, cX4_through, 3, some (Jvm.ClassFile.FieldType.boolean), [])
theorem W_mX4_through : px_cw mX4_through ∈ px_T := px_mem 747 (by decide +kernel) rfl
def mL_run : px_Y := (yL_run, cL_run, 4, some (Jvm.ClassFile.FieldType.int), [(0, 9, 12, 21)])
theorem W_mL_run : px_cw mL_run ∈ px_T := px_mem 751 (by decide +kernel) rfl
def mX4_run : px_Y := (yX4_run, cX4_run, 3, some (Jvm.ClassFile.FieldType.int), [])
theorem W_mX4_run : px_cw mX4_run ∈ px_T := px_mem 755 (by decide +kernel) rfl
def mX4_throughRises : px_Y := (yX4_throughRises, cX4_throughRises, 4, some (Jvm.ClassFile.FieldType.boolean), [])
theorem W_mX4_throughRises : px_cw mX4_throughRises ∈ px_T := px_mem 760 (by decide +kernel) rfl
def mX4_placeOfOrder : px_Y := (yX4_placeOfOrder, cX4_placeOfOrder, 3, some (Jvm.ClassFile.FieldType.int), [])
theorem W_mX4_placeOfOrder : px_cw mX4_placeOfOrder ∈ px_T := px_mem 764 (by decide +kernel) rfl
def mX4_gather : px_Y := (yX4_gather, cX4_gather, 6, none, [])
theorem W_mX4_gather : px_cw mX4_gather ∈ px_T := px_mem 768 (by decide +kernel) rfl
def mX4_leavesOut : px_Y := (yX4_leavesOut, cX4_leavesOut, 4, some (Jvm.ClassFile.FieldType.boolean), [])
theorem W_mX4_leavesOut : px_cw mX4_leavesOut ∈ px_T := px_mem 772 (by decide +kernel) rfl
def mX4_firstOf : px_Y := (yX4_firstOf, cX4_firstOf, 6, some ((Jvm.ClassFile.FieldType.object "PathLists$Step")), [])
theorem W_mX4_firstOf : px_cw mX4_firstOf ∈ px_T := px_mem 776 (by decide +kernel) rfl
def mX4_hasNext : px_Y := (yX4_hasNext, cX4_hasNext, 4, some (Jvm.ClassFile.FieldType.boolean), [])
theorem W_mX4_hasNext : px_cw mX4_hasNext ∈ px_T := px_mem 780 (by decide +kernel) rfl
def mX4_groupOfNext : px_Y := (yX4_groupOfNext, cX4_groupOfNext, 2, some (Jvm.ClassFile.FieldType.int), [])
theorem W_mX4_groupOfNext : px_cw mX4_groupOfNext ∈ px_T := px_mem 784 (by decide +kernel) rfl
def mX4_leftByNext : px_Y := (yX4_leftByNext, cX4_leftByNext, 2, some (Jvm.ClassFile.FieldType.double), [])
theorem W_mX4_leftByNext : px_cw mX4_leftByNext ∈ px_T := px_mem 788 (by decide +kernel) rfl
def mX4_take : px_Y := (yX4_take, cX4_take, 4, none, [])
theorem W_mX4_take : px_cw mX4_take ∈ px_T := px_mem 792 (by decide +kernel) rfl
def mL_slack : px_Y := (yL_slack, cL_slack, 4, some (Jvm.ClassFile.FieldType.int), [(0, 8, 11, 13), (0, 8, 14, 19)])
theorem W_mL_slack : px_cw mL_slack ∈ px_T := px_mem 795 (by decide +kernel) rfl
def mX4_slack : px_Y := (yX4_slack, cX4_slack, 2, some (Jvm.ClassFile.FieldType.double), [])
theorem W_mX4_slack : px_cw mX4_slack ∈ px_T := px_mem 799 (by decide +kernel) rfl
def mX4_checkListed : px_Y := (yX4_checkListed, cX4_checkListed, 1, none, [])
theorem W_mX4_checkListed : px_cw mX4_checkListed ∈ px_T := px_mem 803 (by decide +kernel) rfl
def mL_at : px_Y := (yL_at, cL_at, 5, some (Jvm.ClassFile.FieldType.int), [(0, 10, 13, 13), (0, 10, 17, 19)])
theorem W_mL_at : px_cw mL_at ∈ px_T := px_mem 807 (by decide +kernel) rfl
def mX4_at : px_Y := (yX4_at, cX4_at, 4, some (Jvm.ClassFile.FieldType.int), [])
theorem W_mX4_at : px_cw mX4_at ∈ px_T := px_mem 811 (by decide +kernel) rfl
def mX4_stepOf : px_Y := (yX4_stepOf, cX4_stepOf, 7, some ((Jvm.ClassFile.FieldType.object "PathLists$Step")), [])
theorem W_mX4_stepOf : px_cw mX4_stepOf ∈ px_T := px_mem 815 (by decide +kernel) rfl
def mX4_firstStep : px_Y := (yX4_firstStep, cX4_firstStep, 2, some ((Jvm.ClassFile.FieldType.object "PathLists$Step")), [])
theorem W_mX4_firstStep : px_cw mX4_firstStep ∈ px_T := px_mem 818 (by decide +kernel) rfl
def mL_group : px_Y := (yL_group, cL_group, 5, some (Jvm.ClassFile.FieldType.int), [(0, 10, 13, 19), (0, 10, 17, 21)])
theorem W_mL_group : px_cw mL_group ∈ px_T := px_mem 822 (by decide +kernel) rfl
def mX4_group : px_Y := (yX4_group, cX4_group, 5, some (Jvm.ClassFile.FieldType.int), [])
theorem W_mX4_group : px_cw mX4_group ∈ px_T := px_mem 826 (by decide +kernel) rfl
def mL_model : px_Y := (yL_model, cL_model, 4, some (Jvm.ClassFile.FieldType.int), [(0, 9, 12, 19)])
theorem W_mL_model : px_cw mL_model ∈ px_T := px_mem 830 (by decide +kernel) rfl
def mX4_model : px_Y := (yX4_model, cX4_model, 5, some (Jvm.ClassFile.FieldType.int), [])
theorem W_mX4_model : px_cw mX4_model ∈ px_T := px_mem 834 (by decide +kernel) rfl
def mX4_isInput : px_Y := (yX4_isInput, cX4_isInput, 3, some (Jvm.ClassFile.FieldType.boolean), [])
theorem W_mX4_isInput : px_cw mX4_isInput ∈ px_T := px_mem 837 (by decide +kernel) rfl
def mX4_countReachedOutputs : px_Y := (yX4_countReachedOutputs, cX4_countReachedOutputs, 5, some (Jvm.ClassFile.FieldType.int), [])
theorem W_mX4_countReachedOutputs : px_cw mX4_countReachedOutputs ∈ px_T := px_mem 841 (by decide +kernel) rfl
def mX4_isOutput : px_Y := (yX4_isOutput, cX4_isOutput, 3, some (Jvm.ClassFile.FieldType.boolean), [])
theorem W_mX4_isOutput : px_cw mX4_isOutput ∈ px_T := px_mem 844 (by decide +kernel) rfl
def mL_into : px_Y := (yL_into, cL_into, 5, some (Jvm.ClassFile.FieldType.int), [(0, 17, 20, 19)])
theorem W_mL_into : px_cw mL_into ∈ px_T := px_mem 847 (by decide +kernel) rfl
def mX4_into : px_Y := (yX4_into, cX4_into, 5, some (Jvm.ClassFile.FieldType.boolean), [])
theorem W_mX4_into : px_cw mX4_into ∈ px_T := px_mem 851 (by decide +kernel) rfl
def mL_reduced : px_Y := (yL_reduced, cL_reduced, 6, some (Jvm.ClassFile.FieldType.int), [(0, 11, 14, 19)])
theorem W_mL_reduced : px_cw mL_reduced ∈ px_T := px_mem 854 (by decide +kernel) rfl
def mX4_reduced : px_Y := (yX4_reduced, cX4_reduced, 6, some (Jvm.ClassFile.FieldType.double), [])
theorem W_mX4_reduced : px_cw mX4_reduced ∈ px_T := px_mem 858 (by decide +kernel) rfl
def mL_budget : px_Y := (yL_budget, cL_budget, 5, some (Jvm.ClassFile.FieldType.int), [(0, 9, 12, 13), (0, 9, 16, 19)])
theorem W_mL_budget : px_cw mL_budget ∈ px_T := px_mem 861 (by decide +kernel) rfl
def mX4_budget : px_Y := (yX4_budget, cX4_budget, 9, some (Jvm.ClassFile.FieldType.double), [])
theorem W_mX4_budget : px_cw mX4_budget ∈ px_T := px_mem 865 (by decide +kernel) rfl
def mL_whatIf : px_Y := (yL_whatIf, cL_whatIf, 6, some (Jvm.ClassFile.FieldType.int), [(0, 18, 21, 19), (0, 18, 25, 13), (0, 18, 29, 21)])
theorem W_mL_whatIf : px_cw mL_whatIf ∈ px_T := px_mem 868 (by decide +kernel) rfl
def mX4_whatIf : px_Y := (yX4_whatIf, cX4_whatIf, 5, some (Jvm.ClassFile.FieldType.boolean), [])
theorem W_mX4_whatIf : px_cw mX4_whatIf ∈ px_T := px_mem 872 (by decide +kernel) rfl
def mX0_init : px_Y := (yX0_init, cX0_init, 4, none, [])
theorem W_mX0_init : px_cw mX0_init ∈ px_T := px_mem 877 (by decide +kernel) rfl
def mX5_init : px_Y := (yX5_init, cX5_init, 2, none, [])
theorem W_mX5_init : px_cw mX5_init ∈ px_T := px_mem 892 (by decide +kernel) rfl
def mX5_thrown : px_Y := (yX5_thrown, cX5_thrown, 1, some (Jvm.ClassFile.FieldType.int), [])
theorem W_mX5_thrown : px_cw mX5_thrown ∈ px_T := px_mem 992 (by decide +kernel) rfl
def mX5_pin : px_Y := (yX5_pin, cX5_pin, 1, some (Jvm.ClassFile.FieldType.int), [])
theorem W_mX5_pin : px_cw mX5_pin ∈ px_T := px_mem 996 (by decide +kernel) rfl
def mX5_arc : px_Y := (yX5_arc, cX5_arc, 5, some (Jvm.ClassFile.FieldType.int), [])
theorem W_mX5_arc : px_cw mX5_arc ∈ px_T := px_mem 1000 (by decide +kernel) rfl
def mX5_isPin : px_Y := (yX5_isPin, cX5_isPin, 2, some (Jvm.ClassFile.FieldType.boolean), [])
theorem W_mX5_isPin : px_cw mX5_isPin ∈ px_T := px_mem 1004 (by decide +kernel) rfl
def mX5_isTime : px_Y := (yX5_isTime, cX5_isTime, 6, some (Jvm.ClassFile.FieldType.boolean), [])
theorem W_mX5_isTime : px_cw mX5_isTime ∈ px_T := px_mem 1007 (by decide +kernel) rfl
def mX5_spread : px_Y := (yX5_spread, cX5_spread, 6, none, [])
theorem W_mX5_spread : px_cw mX5_spread ∈ px_T := px_mem 1013 (by decide +kernel) rfl
def mX5_end : px_Y := (yX5_end, cX5_end, 4, some (Jvm.ClassFile.FieldType.int), [])
theorem W_mX5_end : px_cw mX5_end ∈ px_T := px_mem 1017 (by decide +kernel) rfl
def mX5_start : px_Y := (yX5_start, cX5_start, 4, some (Jvm.ClassFile.FieldType.int), [])
theorem W_mX5_start : px_cw mX5_start ∈ px_T := px_mem 1022 (by decide +kernel) rfl
def mX5_through : px_Y := (yX5_through, cX5_through, 3, some (Jvm.ClassFile.FieldType.boolean), [])
theorem W_mX5_through : px_cw mX5_through ∈ px_T := px_mem 1026 (by decide +kernel) rfl
def mX5_group : px_Y := (yX5_group, cX5_group, 5, some (Jvm.ClassFile.FieldType.int), [])
theorem W_mX5_group : px_cw mX5_group ∈ px_T := px_mem 1030 (by decide +kernel) rfl
def mX5_run : px_Y := (yX5_run, cX5_run, 7, some (Jvm.ClassFile.FieldType.int), [])
theorem W_mX5_run : px_cw mX5_run ∈ px_T := px_mem 1034 (by decide +kernel) rfl
def mX5_gather : px_Y := (yX5_gather, cX5_gather, 8, none, [])
theorem W_mX5_gather : px_cw mX5_gather ∈ px_T := px_mem 1038 (by decide +kernel) rfl
def mX5_arrange : px_Y := (yX5_arrange, cX5_arrange, 5, none, [])
theorem W_mX5_arrange : px_cw mX5_arrange ∈ px_T := px_mem 1042 (by decide +kernel) rfl
def mX5_met : px_Y := (yX5_met, cX5_met, 4, some (Jvm.ClassFile.FieldType.int), [])
theorem W_mX5_met : px_cw mX5_met ∈ px_T := px_mem 1046 (by decide +kernel) rfl
def mX5_come : px_Y := (yX5_come, cX5_come, 13, none, [])
theorem W_mX5_come : px_cw mX5_come ∈ px_T := px_mem 1050 (by decide +kernel) rfl
def mX5_compareRows : px_Y := (yX5_compareRows, cX5_compareRows, 8, some (Jvm.ClassFile.FieldType.int), [])
theorem W_mX5_compareRows : px_cw mX5_compareRows ∈ px_T := px_mem 1054 (by decide +kernel) rfl
def mX5_startOf : px_Y := (yX5_startOf, cX5_startOf, 3, some (Jvm.ClassFile.FieldType.int), [])
theorem W_mX5_startOf : px_cw mX5_startOf ∈ px_T := px_mem 1058 (by decide +kernel) rfl
def mX5_unroll : px_Y := (yX5_unroll, cX5_unroll, 6, some (Jvm.ClassFile.FieldType.int), [])
theorem W_mX5_unroll : px_cw mX5_unroll ∈ px_T := px_mem 1062 (by decide +kernel) rfl
def mX5_enlist : px_Y := (yX5_enlist, cX5_enlist, 8, none, [])
theorem W_mX5_enlist : px_cw mX5_enlist ∈ px_T := px_mem 1066 (by decide +kernel) rfl
def mX5_isBefore : px_Y := (yX5_isBefore, cX5_isBefore, 8, some (Jvm.ClassFile.FieldType.boolean), [])
theorem W_mX5_isBefore : px_cw mX5_isBefore ∈ px_T := px_mem 1070 (by decide +kernel) rfl
def mX5_slackOf : px_Y := (yX5_slackOf, cX5_slackOf, 2, some (Jvm.ClassFile.FieldType.double), [])
theorem W_mX5_slackOf : px_cw mX5_slackOf ∈ px_T := px_mem 1074 (by decide +kernel) rfl
def mX5_slack : px_Y := (yX5_slack, cX5_slack, 2, some (Jvm.ClassFile.FieldType.double), [])
theorem W_mX5_slack : px_cw mX5_slack ∈ px_T := px_mem 1078 (by decide +kernel) rfl
def mX5_faultOf : px_Y := (yX5_faultOf, cX5_faultOf, 2, some (Jvm.ClassFile.FieldType.int), [])
theorem W_mX5_faultOf : px_cw mX5_faultOf ∈ px_T := px_mem 1082 (by decide +kernel) rfl
def mX5_at : px_Y := (yX5_at, cX5_at, 4, some (Jvm.ClassFile.FieldType.int), [])
theorem W_mX5_at : px_cw mX5_at ∈ px_T := px_mem 1086 (by decide +kernel) rfl
def mX5_budget : px_Y := (yX5_budget, cX5_budget, 9, some (Jvm.ClassFile.FieldType.double), [])
theorem W_mX5_budget : px_cw mX5_budget ∈ px_T := px_mem 1090 (by decide +kernel) rfl
def mX5_model : px_Y := (yX5_model, cX5_model, 5, some (Jvm.ClassFile.FieldType.int), [])
theorem W_mX5_model : px_cw mX5_model ∈ px_T := px_mem 1094 (by decide +kernel) rfl
def mX5_isReduced : px_Y := (yX5_isReduced, cX5_isReduced, 4, some (Jvm.ClassFile.FieldType.boolean), [])
theorem W_mX5_isReduced : px_cw mX5_isReduced ∈ px_T := px_mem 1098 (by decide +kernel) rfl
def mX5_isEdge : px_Y := (yX5_isEdge, cX5_isEdge, 5, some (Jvm.ClassFile.FieldType.boolean), [])
theorem W_mX5_isEdge : px_cw mX5_isEdge ∈ px_T := px_mem 1102 (by decide +kernel) rfl
def mX5_reduced : px_Y := (yX5_reduced, cX5_reduced, 7, some (Jvm.ClassFile.FieldType.double), [])
theorem W_mX5_reduced : px_cw mX5_reduced ∈ px_T := px_mem 1106 (by decide +kernel) rfl
def mX5_into : px_Y := (yX5_into, cX5_into, 3, some (Jvm.ClassFile.FieldType.boolean), [])
theorem W_mX5_into : px_cw mX5_into ∈ px_T := px_mem 1111 (by decide +kernel) rfl
def mX5_whatIf : px_Y := (yX5_whatIf, cX5_whatIf, 4, some (Jvm.ClassFile.FieldType.boolean), [])
theorem W_mX5_whatIf : px_cw mX5_whatIf ∈ px_T := px_mem 1115 (by decide +kernel) rfl
def mX5_back : px_Y := (yX5_back, cX5_back, 1, some (Jvm.ClassFile.FieldType.boolean), [])
theorem W_mX5_back : px_cw mX5_back ∈ px_T := px_mem 1119 (by decide +kernel) rfl
theorem K_RL_8 : Cond.classLink RL 8 RX4 ∈ px_T := px_mem 66 (by decide +kernel) rfl
theorem L_RL_67 : px_lkI RL 67 0 mX4_init := ⟨⟨px_mem 38 (by decide +kernel) rfl, W_mX4_init, ⟨by decide, by decide⟩, by decide +kernel, by decide⟩, rfl, rfl, px_mem 69 (by decide +kernel) rfl, Or.inl (px_mem 68 (by decide +kernel) rfl)⟩
theorem K_RX4_9 : Cond.classLink RX4 9 RJx4a65c ∈ px_T := px_mem 74 (by decide +kernel) rfl
theorem L_RX4_11 : px_lkI RX4 11 0 mJx4a65c_init_da8c8 := ⟨⟨px_mem 41 (by decide +kernel) rfl, W_mJx4a65c_init_da8c8, ⟨by decide, by decide⟩, by decide +kernel, by decide⟩, rfl, rfl, px_mem 77 (by decide +kernel) rfl, Or.inl (px_mem 76 (by decide +kernel) rfl)⟩
theorem L_RJx4a65c_1 : px_lkI RJx4a65c 1 0 mJxc12de_init_da8c8 := ⟨⟨px_mem 40 (by decide +kernel) rfl, W_mJxc12de_init_da8c8, ⟨by decide, by decide⟩, by decide +kernel, by decide⟩, rfl, rfl, px_mem 80 (by decide +kernel) rfl, Or.inl (px_mem 79 (by decide +kernel) rfl)⟩
theorem L_RJxc12de_1 : px_lkI RJxc12de 1 0 mJxa1e45_init_da8c8 := ⟨⟨px_mem 39 (by decide +kernel) rfl, W_mJxa1e45_init_da8c8, ⟨by decide, by decide⟩, by decide +kernel, by decide⟩, rfl, rfl, px_mem 83 (by decide +kernel) rfl, Or.inl (px_mem 82 (by decide +kernel) rfl)⟩
theorem F_RJx4a65c_9 : px_fl RJx4a65c 9 6 1 := ⟨_, rfl, by decide, "java/util/ArrayList", Or.inl rfl, Or.inl (px_mem 88 (by decide +kernel) rfl)⟩
theorem F_RJx4a65c_48 : px_fl RJx4a65c 48 6 2 := ⟨_, rfl, by decide, "java/util/ArrayList", Or.inl rfl, Or.inl (px_mem 89 (by decide +kernel) rfl)⟩
theorem F_RJxc12de_7 : px_fl RJxc12de 7 6 0 := ⟨_, rfl, by decide, "java/util/AbstractList", Or.inl rfl, Or.inl (px_mem 90 (by decide +kernel) rfl)⟩
theorem F_RJx4a65c_63 : px_fl RJx4a65c 63 6 0 := ⟨_, rfl, by decide, "java/util/ArrayList", Or.inr (px_mem 92 (by decide +kernel) rfl), Or.inl (px_mem 91 (by decide +kernel) rfl)⟩
theorem K_RX4_35 : Cond.classLink RX4 35 RX1 ∈ px_T := px_mem 100 (by decide +kernel) rfl
theorem L_RX4_37 : px_lkI RX4 37 2 mX1_init := ⟨⟨px_mem 42 (by decide +kernel) rfl, W_mX1_init, ⟨by decide, by decide⟩, by decide +kernel, by decide⟩, rfl, rfl, px_mem 103 (by decide +kernel) rfl, Or.inr ⟨"PathLists", List.mem_of_getElem? (i := 102) (by decide +kernel)⟩⟩
theorem K_RX1_9 : Cond.classLink RX1 9 RJx4a65c ∈ px_T := px_mem 106 (by decide +kernel) rfl
theorem L_RX1_11 : px_lkI RX1 11 0 mJx4a65c_init_da8c8 := ⟨⟨px_mem 41 (by decide +kernel) rfl, W_mJx4a65c_init_da8c8, ⟨by decide, by decide⟩, by decide +kernel, by decide⟩, rfl, rfl, px_mem 77 (by decide +kernel) rfl, Or.inl (px_mem 107 (by decide +kernel) rfl)⟩
theorem D_RX1_28 : Cond.constantDouble RX1 28 13830554455654793216 ∈ px_T := px_mem 108 (by decide +kernel) rfl
theorem K_RX1_37 : Cond.classLink RX1 37 RX3 ∈ px_T := px_mem 109 (by decide +kernel) rfl
theorem L_RX1_39 : px_lkI RX1 39 1 mX3_init := ⟨⟨px_mem 43 (by decide +kernel) rfl, W_mX3_init, ⟨by decide, by decide⟩, by decide +kernel, by decide⟩, rfl, rfl, px_mem 112 (by decide +kernel) rfl, Or.inr ⟨"PathLists", List.mem_of_getElem? (i := 111) (by decide +kernel)⟩⟩
theorem K_RX3_17 : Cond.classLink RX3 17 RX2 ∈ px_T := px_mem 115 (by decide +kernel) rfl
theorem F_RX3_13 : px_fl RX3 13 3 0 := ⟨_, rfl, by decide, "PathLists$Ways", Or.inl rfl, Or.inl (px_mem 117 (by decide +kernel) rfl)⟩
theorem G_RX3_13 : ∃ q : vw_C, px_cl[3]? = some q ∧ 0 < q.2.2 ∧ (q.2.1 0).2.2.2 = true ∧ (q.2.1 0).1 = RX3 ∧ Cond.fieldLink RX3 13 (q.2.1 0).1 (q.2.1 0).2.1 (q.2.1 0).2.2.1 ∈ px_T := ⟨_, rfl, by decide, rfl, rfl, px_mem 117 (by decide +kernel) rfl⟩
theorem F_RX4_157 : px_fl RX4 157 3 0 := ⟨_, rfl, by decide, "PathLists$Ways", Or.inl rfl, Or.inr ⟨"PathLists", List.mem_of_getElem? (i := 118) (by decide +kernel)⟩⟩
theorem F_RX3_19 : px_fl RX3 19 3 1 := ⟨_, rfl, by decide, "PathLists$Ways", Or.inl rfl, Or.inl (px_mem 119 (by decide +kernel) rfl)⟩
theorem G_RX3_19 : ∃ q : vw_C, px_cl[3]? = some q ∧ 1 < q.2.2 ∧ (q.2.1 1).2.2.2 = true ∧ (q.2.1 1).1 = RX3 ∧ Cond.fieldLink RX3 19 (q.2.1 1).1 (q.2.1 1).2.1 (q.2.1 1).2.2.1 ∈ px_T := ⟨_, rfl, by decide, rfl, rfl, px_mem 119 (by decide +kernel) rfl⟩
theorem F_RX4_273 : px_fl RX4 273 3 1 := ⟨_, rfl, by decide, "PathLists$Ways", Or.inl rfl, Or.inr ⟨"PathLists", List.mem_of_getElem? (i := 120) (by decide +kernel)⟩⟩
theorem F_RX3_23 : px_fl RX3 23 3 2 := ⟨_, rfl, by decide, "PathLists$Ways", Or.inl rfl, Or.inl (px_mem 121 (by decide +kernel) rfl)⟩
theorem G_RX3_23 : ∃ q : vw_C, px_cl[3]? = some q ∧ 2 < q.2.2 ∧ (q.2.1 2).2.2.2 = true ∧ (q.2.1 2).1 = RX3 ∧ Cond.fieldLink RX3 23 (q.2.1 2).1 (q.2.1 2).2.1 (q.2.1 2).2.2.1 ∈ px_T := ⟨_, rfl, by decide, rfl, rfl, px_mem 121 (by decide +kernel) rfl⟩
theorem F_RX4_277 : px_fl RX4 277 3 2 := ⟨_, rfl, by decide, "PathLists$Ways", Or.inl rfl, Or.inr ⟨"PathLists", List.mem_of_getElem? (i := 122) (by decide +kernel)⟩⟩
theorem F_RX3_27 : px_fl RX3 27 3 3 := ⟨_, rfl, by decide, "PathLists$Ways", Or.inl rfl, Or.inl (px_mem 123 (by decide +kernel) rfl)⟩
theorem G_RX3_27 : ∃ q : vw_C, px_cl[3]? = some q ∧ 3 < q.2.2 ∧ (q.2.1 3).2.2.2 = true ∧ (q.2.1 3).1 = RX3 ∧ Cond.fieldLink RX3 27 (q.2.1 3).1 (q.2.1 3).2.1 (q.2.1 3).2.2.1 ∈ px_T := ⟨_, rfl, by decide, rfl, rfl, px_mem 123 (by decide +kernel) rfl⟩
theorem F_RX4_271 : px_fl RX4 271 3 3 := ⟨_, rfl, by decide, "PathLists$Ways", Or.inl rfl, Or.inr ⟨"PathLists", List.mem_of_getElem? (i := 124) (by decide +kernel)⟩⟩
theorem F_RX3_7 : px_fl RX3 7 3 4 := ⟨_, rfl, by decide, "PathLists$Ways", Or.inl rfl, Or.inl (px_mem 125 (by decide +kernel) rfl)⟩
theorem F_RX4_64 : px_fl RX4 64 3 4 := ⟨_, rfl, by decide, "PathLists$Ways", Or.inl rfl, Or.inr ⟨"PathLists", List.mem_of_getElem? (i := 126) (by decide +kernel)⟩⟩
theorem A_int : Cond.arrayClass Jvm.ClassFile.FieldType.int ∈ px_T := px_mem 138 (by decide +kernel) rfl
theorem A_double : Cond.arrayClass Jvm.ClassFile.FieldType.double ∈ px_T := px_mem 139 (by decide +kernel) rfl
theorem F_RX1_12 : px_fl RX1 12 1 0 := ⟨_, rfl, by decide, "PathLists$Pin", Or.inl rfl, Or.inl (px_mem 140 (by decide +kernel) rfl)⟩
theorem G_RX1_12 : ∃ q : vw_C, px_cl[1]? = some q ∧ 0 < q.2.2 ∧ (q.2.1 0).2.2.2 = true ∧ (q.2.1 0).1 = RX1 ∧ Cond.fieldLink RX1 12 (q.2.1 0).1 (q.2.1 0).2.1 (q.2.1 0).2.2.1 ∈ px_T := ⟨_, rfl, by decide, rfl, rfl, px_mem 140 (by decide +kernel) rfl⟩
theorem F_RX4_123 : px_fl RX4 123 1 0 := ⟨_, rfl, by decide, "PathLists$Pin", Or.inl rfl, Or.inr ⟨"PathLists", List.mem_of_getElem? (i := 141) (by decide +kernel)⟩⟩
theorem F_RX1_18 : px_fl RX1 18 1 1 := ⟨_, rfl, by decide, "PathLists$Pin", Or.inl rfl, Or.inl (px_mem 142 (by decide +kernel) rfl)⟩
theorem G_RX1_18 : ∃ q : vw_C, px_cl[1]? = some q ∧ 1 < q.2.2 ∧ (q.2.1 1).2.2.2 = true ∧ (q.2.1 1).1 = RX1 ∧ Cond.fieldLink RX1 18 (q.2.1 1).1 (q.2.1 1).2.1 (q.2.1 1).2.2.1 ∈ px_T := ⟨_, rfl, by decide, rfl, rfl, px_mem 142 (by decide +kernel) rfl⟩
theorem F_RX4_120 : px_fl RX4 120 1 1 := ⟨_, rfl, by decide, "PathLists$Pin", Or.inl rfl, Or.inr ⟨"PathLists", List.mem_of_getElem? (i := 143) (by decide +kernel)⟩⟩
theorem F_RX1_42 : px_fl RX1 42 1 2 := ⟨_, rfl, by decide, "PathLists$Pin", Or.inl rfl, Or.inl (px_mem 144 (by decide +kernel) rfl)⟩
theorem G_RX1_42 : ∃ q : vw_C, px_cl[1]? = some q ∧ 2 < q.2.2 ∧ (q.2.1 2).2.2.2 = true ∧ (q.2.1 2).1 = RX1 ∧ Cond.fieldLink RX1 42 (q.2.1 2).1 (q.2.1 2).2.1 (q.2.1 2).2.2.1 ∈ px_T := ⟨_, rfl, by decide, rfl, rfl, px_mem 144 (by decide +kernel) rfl⟩
theorem F_RX4_60 : px_fl RX4 60 1 2 := ⟨_, rfl, by decide, "PathLists$Pin", Or.inl rfl, Or.inr ⟨"PathLists", List.mem_of_getElem? (i := 145) (by decide +kernel)⟩⟩
theorem F_RX1_34 : px_fl RX1 34 1 3 := ⟨_, rfl, by decide, "PathLists$Pin", Or.inl rfl, Or.inl (px_mem 146 (by decide +kernel) rfl)⟩
theorem F_RX4_235 : px_fl RX4 235 1 3 := ⟨_, rfl, by decide, "PathLists$Pin", Or.inl rfl, Or.inr ⟨"PathLists", List.mem_of_getElem? (i := 147) (by decide +kernel)⟩⟩
theorem F_RX1_21 : px_fl RX1 21 1 4 := ⟨_, rfl, by decide, "PathLists$Pin", Or.inl rfl, Or.inl (px_mem 148 (by decide +kernel) rfl)⟩
theorem F_RX4_135 : px_fl RX4 135 1 4 := ⟨_, rfl, by decide, "PathLists$Pin", Or.inl rfl, Or.inr ⟨"PathLists", List.mem_of_getElem? (i := 149) (by decide +kernel)⟩⟩
theorem F_RX1_25 : px_fl RX1 25 1 5 := ⟨_, rfl, by decide, "PathLists$Pin", Or.inl rfl, Or.inl (px_mem 150 (by decide +kernel) rfl)⟩
theorem F_RX4_183 : px_fl RX4 183 1 5 := ⟨_, rfl, by decide, "PathLists$Pin", Or.inl rfl, Or.inr ⟨"PathLists", List.mem_of_getElem? (i := 151) (by decide +kernel)⟩⟩
theorem F_RX1_30 : px_fl RX1 30 1 6 := ⟨_, rfl, by decide, "PathLists$Pin", Or.inl rfl, Or.inl (px_mem 152 (by decide +kernel) rfl)⟩
theorem F_RX4_106 : px_fl RX4 106 1 6 := ⟨_, rfl, by decide, "PathLists$Pin", Or.inl rfl, Or.inr ⟨"PathLists", List.mem_of_getElem? (i := 153) (by decide +kernel)⟩⟩
theorem L_RX4_54 : px_lkS RX4 54 2 mJ7_fill_53178 := ⟨⟨px_mem 44 (by decide +kernel) rfl, W_mJ7_fill_53178, ⟨by decide, by decide⟩, by decide +kernel, by decide⟩, rfl, px_mem 169 (by decide +kernel) rfl, px_mem 170 (by decide +kernel) rfl⟩
theorem F_RX4_12 : px_fl RX4 12 4 0 := ⟨_, rfl, by decide, "PathLists", Or.inl rfl, Or.inl (px_mem 172 (by decide +kernel) rfl)⟩
theorem G_RX4_12 : ∃ q : vw_C, px_cl[4]? = some q ∧ 0 < q.2.2 ∧ (q.2.1 0).2.2.2 = true ∧ (q.2.1 0).1 = RX4 ∧ Cond.fieldLink RX4 12 (q.2.1 0).1 (q.2.1 0).2.1 (q.2.1 0).2.2.1 ∈ px_T := ⟨_, rfl, by decide, rfl, rfl, px_mem 172 (by decide +kernel) rfl⟩
theorem F_RX4_16 : px_fl RX4 16 4 1 := ⟨_, rfl, by decide, "PathLists", Or.inl rfl, Or.inl (px_mem 173 (by decide +kernel) rfl)⟩
theorem G_RX4_16 : ∃ q : vw_C, px_cl[4]? = some q ∧ 1 < q.2.2 ∧ (q.2.1 1).2.2.2 = true ∧ (q.2.1 1).1 = RX4 ∧ Cond.fieldLink RX4 16 (q.2.1 1).1 (q.2.1 1).2.1 (q.2.1 1).2.2.1 ∈ px_T := ⟨_, rfl, by decide, rfl, rfl, px_mem 173 (by decide +kernel) rfl⟩
theorem F_RX4_19 : px_fl RX4 19 4 2 := ⟨_, rfl, by decide, "PathLists", Or.inl rfl, Or.inl (px_mem 174 (by decide +kernel) rfl)⟩
theorem G_RX4_19 : ∃ q : vw_C, px_cl[4]? = some q ∧ 2 < q.2.2 ∧ (q.2.1 2).2.2.2 = true ∧ (q.2.1 2).1 = RX4 ∧ Cond.fieldLink RX4 19 (q.2.1 2).1 (q.2.1 2).2.1 (q.2.1 2).2.2.1 ∈ px_T := ⟨_, rfl, by decide, rfl, rfl, px_mem 174 (by decide +kernel) rfl⟩
theorem F_RX4_22 : px_fl RX4 22 4 3 := ⟨_, rfl, by decide, "PathLists", Or.inl rfl, Or.inl (px_mem 175 (by decide +kernel) rfl)⟩
theorem G_RX4_22 : ∃ q : vw_C, px_cl[4]? = some q ∧ 3 < q.2.2 ∧ (q.2.1 3).2.2.2 = true ∧ (q.2.1 3).1 = RX4 ∧ Cond.fieldLink RX4 22 (q.2.1 3).1 (q.2.1 3).2.1 (q.2.1 3).2.2.1 ∈ px_T := ⟨_, rfl, by decide, rfl, rfl, px_mem 175 (by decide +kernel) rfl⟩
theorem F_RX4_25 : px_fl RX4 25 4 4 := ⟨_, rfl, by decide, "PathLists", Or.inl rfl, Or.inl (px_mem 176 (by decide +kernel) rfl)⟩
theorem G_RX4_25 : ∃ q : vw_C, px_cl[4]? = some q ∧ 4 < q.2.2 ∧ (q.2.1 4).2.2.2 = true ∧ (q.2.1 4).1 = RX4 ∧ Cond.fieldLink RX4 25 (q.2.1 4).1 (q.2.1 4).2.1 (q.2.1 4).2.2.1 ∈ px_T := ⟨_, rfl, by decide, rfl, rfl, px_mem 176 (by decide +kernel) rfl⟩
theorem F_RX4_28 : px_fl RX4 28 4 5 := ⟨_, rfl, by decide, "PathLists", Or.inl rfl, Or.inl (px_mem 177 (by decide +kernel) rfl)⟩
theorem G_RX4_28 : ∃ q : vw_C, px_cl[4]? = some q ∧ 5 < q.2.2 ∧ (q.2.1 5).2.2.2 = true ∧ (q.2.1 5).1 = RX4 ∧ Cond.fieldLink RX4 28 (q.2.1 5).1 (q.2.1 5).2.1 (q.2.1 5).2.2.1 ∈ px_T := ⟨_, rfl, by decide, rfl, rfl, px_mem 177 (by decide +kernel) rfl⟩
theorem F_RX4_31 : px_fl RX4 31 4 6 := ⟨_, rfl, by decide, "PathLists", Or.inl rfl, Or.inl (px_mem 178 (by decide +kernel) rfl)⟩
theorem G_RX4_31 : ∃ q : vw_C, px_cl[4]? = some q ∧ 6 < q.2.2 ∧ (q.2.1 6).2.2.2 = true ∧ (q.2.1 6).1 = RX4 ∧ Cond.fieldLink RX4 31 (q.2.1 6).1 (q.2.1 6).2.1 (q.2.1 6).2.2.1 ∈ px_T := ⟨_, rfl, by decide, rfl, rfl, px_mem 178 (by decide +kernel) rfl⟩
theorem F_RX4_40 : px_fl RX4 40 4 7 := ⟨_, rfl, by decide, "PathLists", Or.inl rfl, Or.inl (px_mem 179 (by decide +kernel) rfl)⟩
theorem G_RX4_40 : ∃ q : vw_C, px_cl[4]? = some q ∧ 7 < q.2.2 ∧ (q.2.1 7).2.2.2 = true ∧ (q.2.1 7).1 = RX4 ∧ Cond.fieldLink RX4 40 (q.2.1 7).1 (q.2.1 7).2.1 (q.2.1 7).2.2.1 ∈ px_T := ⟨_, rfl, by decide, rfl, rfl, px_mem 179 (by decide +kernel) rfl⟩
theorem F_RX4_44 : px_fl RX4 44 4 8 := ⟨_, rfl, by decide, "PathLists", Or.inl rfl, Or.inl (px_mem 180 (by decide +kernel) rfl)⟩
theorem G_RX4_44 : ∃ q : vw_C, px_cl[4]? = some q ∧ 8 < q.2.2 ∧ (q.2.1 8).2.2.2 = true ∧ (q.2.1 8).1 = RX4 ∧ Cond.fieldLink RX4 44 (q.2.1 8).1 (q.2.1 8).2.1 (q.2.1 8).2.2.1 ∈ px_T := ⟨_, rfl, by decide, rfl, rfl, px_mem 180 (by decide +kernel) rfl⟩
theorem F_RX4_47 : px_fl RX4 47 4 9 := ⟨_, rfl, by decide, "PathLists", Or.inl rfl, Or.inl (px_mem 181 (by decide +kernel) rfl)⟩
theorem G_RX4_47 : ∃ q : vw_C, px_cl[4]? = some q ∧ 9 < q.2.2 ∧ (q.2.1 9).2.2.2 = true ∧ (q.2.1 9).1 = RX4 ∧ Cond.fieldLink RX4 47 (q.2.1 9).1 (q.2.1 9).2.1 (q.2.1 9).2.2.1 ∈ px_T := ⟨_, rfl, by decide, rfl, rfl, px_mem 181 (by decide +kernel) rfl⟩
theorem F_RX4_50 : px_fl RX4 50 4 10 := ⟨_, rfl, by decide, "PathLists", Or.inl rfl, Or.inl (px_mem 182 (by decide +kernel) rfl)⟩
theorem L_RL_128 : px_lkV RL 128 0 mX4_back := ⟨⟨px_mem 38 (by decide +kernel) rfl, W_mX4_back, ⟨by decide, by decide⟩, by decide +kernel, by decide⟩, rfl, px_mem 206 (by decide +kernel) rfl, px_mem 207 (by decide +kernel) rfl, px_mem 208 (by decide +kernel) rfl⟩
theorem L_RX4_204 : px_lkV RX4 204 0 mJx4a65c_isEmpty_aae02 := ⟨⟨px_mem 41 (by decide +kernel) rfl, W_mJx4a65c_isEmpty_aae02, ⟨by decide, by decide⟩, by decide +kernel, by decide⟩, rfl, px_mem 210 (by decide +kernel) rfl, px_mem 211 (by decide +kernel) rfl, px_mem 212 (by decide +kernel) rfl⟩
theorem L_RX4_70 : px_lkV RX4 70 0 mJx4a65c_size_8abf5 := ⟨⟨px_mem 41 (by decide +kernel) rfl, W_mJx4a65c_size_8abf5, ⟨by decide, by decide⟩, by decide +kernel, by decide⟩, rfl, px_mem 214 (by decide +kernel) rfl, px_mem 215 (by decide +kernel) rfl, px_mem 216 (by decide +kernel) rfl⟩
theorem L_RX4_207 : px_lkV RX4 207 1 mJx4a65c_remove_915e3 := ⟨⟨px_mem 41 (by decide +kernel) rfl, W_mJx4a65c_remove_915e3, ⟨by decide, by decide⟩, by decide +kernel, by decide⟩, rfl, px_mem 218 (by decide +kernel) rfl, px_mem 219 (by decide +kernel) rfl, px_mem 220 (by decide +kernel) rfl⟩
theorem L_RJx4a65c_118 : px_lkS RJx4a65c 118 2 mJ15_checkIndex_7cf53 := ⟨⟨px_mem 55 (by decide +kernel) rfl, W_mJ15_checkIndex_7cf53, ⟨by decide, by decide⟩, by decide +kernel, by decide⟩, rfl, px_mem 222 (by decide +kernel) rfl, px_mem 223 (by decide +kernel) rfl⟩
theorem L_RJ15_105 : px_lkS RJ15 105 3 mJ3_checkIndex_8e157 := ⟨⟨px_mem 56 (by decide +kernel) rfl, W_mJ3_checkIndex_8e157, ⟨by decide, by decide⟩, by decide +kernel, by decide⟩, rfl, px_mem 225 (by decide +kernel) rfl, px_mem 226 (by decide +kernel) rfl⟩
theorem L_RJx4a65c_144 : px_lkV RJx4a65c 144 2 mJx4a65c_fastRemove_b59b0 := ⟨⟨px_mem 41 (by decide +kernel) rfl, W_mJx4a65c_fastRemove_b59b0, ⟨by decide, by decide⟩, by decide +kernel, by decide⟩, rfl, px_mem 228 (by decide +kernel) rfl, px_mem 230 (by decide +kernel) rfl, px_mem 0 (by decide +kernel) rfl⟩
theorem K_RX4_199 : Cond.classLink RX4 199 RX0 ∈ px_T := px_mem 235 (by decide +kernel) rfl
theorem L_RL_71 : px_lkH RL 71 2 mL_pin := ⟨⟨px_mem 37 (by decide +kernel) rfl, W_mL_pin, ⟨by decide, by decide⟩, by decide +kernel, by decide⟩, (by decide), px_mem 236 (by decide +kernel) rfl, px_mem 237 (by decide +kernel) rfl⟩
theorem K_RL_13 : Cond.classLink RL 13 "java/lang/IllegalStateException" ∈ px_T := px_mem 239 (by decide +kernel) rfl
theorem L_RL_7 : px_lkV RL 7 0 mX4_pin := ⟨⟨px_mem 38 (by decide +kernel) rfl, W_mX4_pin, ⟨by decide, by decide⟩, by decide +kernel, by decide⟩, rfl, px_mem 240 (by decide +kernel) rfl, px_mem 241 (by decide +kernel) rfl, px_mem 242 (by decide +kernel) rfl⟩
theorem K_RX4_73 : Cond.classLink RX4 73 "java/lang/IllegalStateException" ∈ px_T := px_mem 244 (by decide +kernel) rfl
theorem A_byte : Cond.arrayClass Jvm.ClassFile.FieldType.byte ∈ px_T := px_mem 311 (by decide +kernel) rfl
theorem L_RX4_80 : px_lkV RX4 80 1 mJx4a65c_add_9ea2d := ⟨⟨px_mem 41 (by decide +kernel) rfl, W_mJx4a65c_add_9ea2d, ⟨by decide, by decide⟩, by decide +kernel, by decide⟩, rfl, px_mem 312 (by decide +kernel) rfl, px_mem 313 (by decide +kernel) rfl, px_mem 314 (by decide +kernel) rfl⟩
theorem L_RJx4a65c_131 : px_lkV RJx4a65c 131 3 mJx4a65c_add_72be8 := ⟨⟨px_mem 41 (by decide +kernel) rfl, W_mJx4a65c_add_72be8, ⟨by decide, by decide⟩, by decide +kernel, by decide⟩, rfl, px_mem 316 (by decide +kernel) rfl, px_mem 318 (by decide +kernel) rfl, px_mem 2 (by decide +kernel) rfl⟩
theorem L_RJx4a65c_129 : px_lkV RJx4a65c 129 0 mJx4a65c_grow_d5877 := ⟨⟨px_mem 41 (by decide +kernel) rfl, W_mJx4a65c_grow_d5877, ⟨by decide, by decide⟩, by decide +kernel, by decide⟩, rfl, px_mem 320 (by decide +kernel) rfl, px_mem 322 (by decide +kernel) rfl, px_mem 3 (by decide +kernel) rfl⟩
theorem L_RJx4a65c_69 : px_lkV RJx4a65c 69 1 mJx4a65c_grow_92f84 := ⟨⟨px_mem 41 (by decide +kernel) rfl, W_mJx4a65c_grow_92f84, ⟨by decide, by decide⟩, by decide +kernel, by decide⟩, rfl, px_mem 324 (by decide +kernel) rfl, px_mem 326 (by decide +kernel) rfl, px_mem 4 (by decide +kernel) rfl⟩
theorem L_RJx4a65c_73 : px_lkS RJx4a65c 73 3 mJ8_newLength_cabcc := ⟨⟨px_mem 50 (by decide +kernel) rfl, W_mJ8_newLength_cabcc, ⟨by decide, by decide⟩, by decide +kernel, by decide⟩, rfl, px_mem 328 (by decide +kernel) rfl, px_mem 329 (by decide +kernel) rfl⟩
theorem L_RJ8_194 : px_lkS RJ8 194 2 mJ9_max_7cf53 := ⟨⟨px_mem 51 (by decide +kernel) rfl, W_mJ9_max_7cf53, ⟨by decide, by decide⟩, by decide +kernel, by decide⟩, rfl, px_mem 331 (by decide +kernel) rfl, px_mem 332 (by decide +kernel) rfl⟩
theorem C_RJ8_200 : Cond.constant RJ8 200 2147483639 ∈ px_T := px_mem 334 (by decide +kernel) rfl
theorem L_RJ8_201 : px_lkS RJ8 201 2 mJ8_hugeLength_7cf53 := ⟨⟨px_mem 50 (by decide +kernel) rfl, W_mJ8_hugeLength_7cf53, ⟨by decide, by decide⟩, by decide +kernel, by decide⟩, rfl, px_mem 335 (by decide +kernel) rfl, px_mem 336 (by decide +kernel) rfl⟩
theorem L_RJx4a65c_66 : px_lkS RJx4a65c 66 2 mJ7_copyOf_1904c := ⟨⟨px_mem 44 (by decide +kernel) rfl, W_mJ7_copyOf_1904c, ⟨by decide, by decide⟩, by decide +kernel, by decide⟩, rfl, px_mem 338 (by decide +kernel) rfl, px_mem 339 (by decide +kernel) rfl⟩
theorem L_RJ7_300 : px_lkS RJ7 300 3 mJ7_copyOf_6403c := ⟨⟨px_mem 44 (by decide +kernel) rfl, W_mJ7_copyOf_6403c, ⟨by decide, by decide⟩, by decide +kernel, by decide⟩, rfl, px_mem 357 (by decide +kernel) rfl, px_mem 358 (by decide +kernel) rfl⟩
theorem K_RJ7_110 : Cond.classLink RJ7 110 "[Ljava/lang/Object;" ∈ px_T := px_mem 360 (by decide +kernel) rfl
theorem K_RJ7_2 : Cond.classLink RJ7 2 "java/lang/Object" ∈ px_T := px_mem 362 (by decide +kernel) rfl
theorem L_RJ7_304 : px_lkS RJ7 304 2 mJ9_min_7cf53 := ⟨⟨px_mem 51 (by decide +kernel) rfl, W_mJ9_min_7cf53, ⟨by decide, by decide⟩, by decide +kernel, by decide⟩, rfl, px_mem 363 (by decide +kernel) rfl, px_mem 364 (by decide +kernel) rfl⟩
theorem L_RJx4a65c_79 : px_lkS RJx4a65c 79 2 mJ9_max_7cf53 := ⟨⟨px_mem 51 (by decide +kernel) rfl, W_mJ9_max_7cf53, ⟨by decide, by decide⟩, by decide +kernel, by decide⟩, rfl, px_mem 367 (by decide +kernel) rfl, px_mem 332 (by decide +kernel) rfl⟩
theorem K_RJx4a65c_7 : Cond.classLink RJx4a65c 7 "java/lang/Object" ∈ px_T := px_mem 368 (by decide +kernel) rfl
theorem L_RL_82 : px_lkH RL 82 5 mL_arc := ⟨⟨px_mem 37 (by decide +kernel) rfl, W_mL_arc, ⟨by decide, by decide⟩, by decide +kernel, by decide⟩, (by decide), px_mem 369 (by decide +kernel) rfl, px_mem 370 (by decide +kernel) rfl⟩
theorem K_RL_19 : Cond.classLink RL 19 "java/lang/IndexOutOfBoundsException" ∈ px_T := px_mem 372 (by decide +kernel) rfl
theorem K_RL_21 : Cond.classLink RL 21 "java/lang/IllegalArgumentException" ∈ px_T := px_mem 373 (by decide +kernel) rfl
theorem L_RL_15 : px_lkV RL 15 3 mX4_arc := ⟨⟨px_mem 38 (by decide +kernel) rfl, W_mX4_arc, ⟨by decide, by decide⟩, by decide +kernel, by decide⟩, rfl, px_mem 374 (by decide +kernel) rfl, px_mem 375 (by decide +kernel) rfl, px_mem 376 (by decide +kernel) rfl⟩
theorem L_RX4_84 : px_lkS RX4 84 2 mX4_checkIndex := ⟨⟨px_mem 38 (by decide +kernel) rfl, W_mX4_checkIndex, ⟨by decide, by decide⟩, by decide +kernel, by decide⟩, rfl, px_mem 378 (by decide +kernel) rfl, px_mem 379 (by decide +kernel) rfl⟩
theorem K_RX4_165 : Cond.classLink RX4 165 "java/lang/IndexOutOfBoundsException" ∈ px_T := px_mem 381 (by decide +kernel) rfl
theorem L_RX4_89 : px_lkS RX4 89 1 mX4_isDelay := ⟨⟨px_mem 38 (by decide +kernel) rfl, W_mX4_isDelay, ⟨by decide, by decide⟩, by decide +kernel, by decide⟩, rfl, px_mem 398 (by decide +kernel) rfl, px_mem 399 (by decide +kernel) rfl⟩
theorem L_RX4_219 : px_lkS RX4 219 1 mX4_isTime := ⟨⟨px_mem 38 (by decide +kernel) rfl, W_mX4_isTime, ⟨by decide, by decide⟩, by decide +kernel, by decide⟩, rfl, px_mem 401 (by decide +kernel) rfl, px_mem 402 (by decide +kernel) rfl⟩
theorem D_RX4_226 : Cond.constantDouble RX4 226 13920626448202203136 ∈ px_T := px_mem 404 (by decide +kernel) rfl
theorem D_RX4_228 : Cond.constantDouble RX4 228 4697254411347427328 ∈ px_T := px_mem 405 (by decide +kernel) rfl
theorem D_RX4_230 : Cond.constantDouble RX4 230 4620693217682128896 ∈ px_T := px_mem 406 (by decide +kernel) rfl
theorem K_RX4_93 : Cond.classLink RX4 93 "java/lang/IllegalArgumentException" ∈ px_T := px_mem 407 (by decide +kernel) rfl
theorem L_RX4_98 : px_lkV RX4 98 1 mJx4a65c_get_915e3 := ⟨⟨px_mem 41 (by decide +kernel) rfl, W_mJx4a65c_get_915e3, ⟨by decide, by decide⟩, by decide +kernel, by decide⟩, rfl, px_mem 423 (by decide +kernel) rfl, px_mem 424 (by decide +kernel) rfl, px_mem 425 (by decide +kernel) rfl⟩
theorem L_RJx4a65c_123 : px_lkV RJx4a65c 123 1 mJx4a65c_elementData_915e3 := ⟨⟨px_mem 41 (by decide +kernel) rfl, W_mJx4a65c_elementData_915e3, ⟨by decide, by decide⟩, by decide +kernel, by decide⟩, rfl, px_mem 427 (by decide +kernel) rfl, px_mem 428 (by decide +kernel) rfl, px_mem 429 (by decide +kernel) rfl⟩
theorem L_RX4_102 : px_lkV RX4 102 2 mX4_spread := ⟨⟨px_mem 38 (by decide +kernel) rfl, W_mX4_spread, ⟨by decide, by decide⟩, by decide +kernel, by decide⟩, rfl, px_mem 431 (by decide +kernel) rfl, px_mem 433 (by decide +kernel) rfl, px_mem 5 (by decide +kernel) rfl⟩
theorem D_RX4_189 : Cond.constantDouble RX4 189 13830554455654793216 ∈ px_T := px_mem 435 (by decide +kernel) rfl
theorem L_RX4_232 : px_lkV RX4 232 2 mX4_spreadFurther := ⟨⟨px_mem 38 (by decide +kernel) rfl, W_mX4_spreadFurther, ⟨by decide, by decide⟩, by decide +kernel, by decide⟩, rfl, px_mem 436 (by decide +kernel) rfl, px_mem 438 (by decide +kernel) rfl, px_mem 6 (by decide +kernel) rfl⟩
theorem K_RX4_115 : Cond.classLink RX4 115 RX2 ∈ px_T := px_mem 440 (by decide +kernel) rfl
theorem L_RX4_112 : px_lkV RX4 112 0 mX4_placeReachedLast := ⟨⟨px_mem 38 (by decide +kernel) rfl, W_mX4_placeReachedLast, ⟨by decide, by decide⟩, by decide +kernel, by decide⟩, rfl, px_mem 442 (by decide +kernel) rfl, px_mem 444 (by decide +kernel) rfl, px_mem 7 (by decide +kernel) rfl⟩
theorem L_RX4_138 : px_lkV RX4 138 2 mJx4a65c_add_7a177 := ⟨⟨px_mem 41 (by decide +kernel) rfl, W_mJx4a65c_add_7a177, ⟨by decide, by decide⟩, by decide +kernel, by decide⟩, rfl, px_mem 446 (by decide +kernel) rfl, px_mem 447 (by decide +kernel) rfl, px_mem 448 (by decide +kernel) rfl⟩
theorem L_RJx4a65c_135 : px_lkV RJx4a65c 135 1 mJx4a65c_rangeCheckForAdd_d00df := ⟨⟨px_mem 41 (by decide +kernel) rfl, W_mJx4a65c_rangeCheckForAdd_d00df, ⟨by decide, by decide⟩, by decide +kernel, by decide⟩, rfl, px_mem 450 (by decide +kernel) rfl, px_mem 452 (by decide +kernel) rfl, px_mem 8 (by decide +kernel) rfl⟩
theorem K_RJx4a65c_187 : Cond.classLink RJx4a65c 187 "java/lang/IndexOutOfBoundsException" ∈ px_T := px_mem 454 (by decide +kernel) rfl
theorem L_RJx4a65c_198 : px_lkV RJx4a65c 198 1 mJx4a65c_outOfBoundsMsg_b52d3 := ⟨⟨px_mem 41 (by decide +kernel) rfl, W_mJx4a65c_outOfBoundsMsg_b52d3, ⟨by decide, by decide⟩, by decide +kernel, by decide⟩, rfl, px_mem 455 (by decide +kernel) rfl, px_mem 457 (by decide +kernel) rfl, px_mem 9 (by decide +kernel) rfl⟩
theorem K_RJx4a65c_20 : Cond.classLink RJx4a65c 20 "java/lang/StringBuilder" ∈ px_T := px_mem 459 (by decide +kernel) rfl
theorem K_RJ7_311 : Cond.classLink RJ7 311 "[B" ∈ px_T := px_mem 521 (by decide +kernel) rfl
theorem L_RJ7_339 : px_lkS RJ7 339 3 mJ7_copyOfRangeByte_39247 := ⟨⟨px_mem 44 (by decide +kernel) rfl, W_mJ7_copyOfRangeByte_39247, ⟨by decide, by decide⟩, by decide +kernel, by decide⟩, rfl, px_mem 652 (by decide +kernel) rfl, px_mem 653 (by decide +kernel) rfl⟩
theorem L_RJ7_343 : px_lkS RJ7 343 2 mJ7_checkLength_df160 := ⟨⟨px_mem 44 (by decide +kernel) rfl, W_mJ7_checkLength_df160, ⟨by decide, by decide⟩, by decide +kernel, by decide⟩, rfl, px_mem 655 (by decide +kernel) rfl, px_mem 656 (by decide +kernel) rfl⟩
theorem K_RJ7_43 : Cond.classLink RJ7 43 "java/lang/IllegalArgumentException" ∈ px_T := px_mem 658 (by decide +kernel) rfl
theorem K_RJ7_45 : Cond.classLink RJ7 45 "java/lang/StringBuilder" ∈ px_T := px_mem 659 (by decide +kernel) rfl
theorem L_RX4_117 : px_lkI RX4 117 4 mX2_init := ⟨⟨px_mem 64 (by decide +kernel) rfl, W_mX2_init, ⟨by decide, by decide⟩, by decide +kernel, by decide⟩, rfl, rfl, px_mem 693 (by decide +kernel) rfl, Or.inr ⟨"PathLists", List.mem_of_getElem? (i := 692) (by decide +kernel)⟩⟩
theorem F_RX2_16 : px_fl RX2 16 2 0 := ⟨_, rfl, by decide, "PathLists$Step", Or.inl rfl, Or.inl (px_mem 696 (by decide +kernel) rfl)⟩
theorem G_RX2_16 : ∃ q : vw_C, px_cl[2]? = some q ∧ 0 < q.2.2 ∧ (q.2.1 0).2.2.2 = true ∧ (q.2.1 0).1 = RX2 ∧ Cond.fieldLink RX2 16 (q.2.1 0).1 (q.2.1 0).2.1 (q.2.1 0).2.2.1 ∈ px_T := ⟨_, rfl, by decide, rfl, rfl, px_mem 696 (by decide +kernel) rfl⟩
theorem F_RX4_126 : px_fl RX4 126 2 0 := ⟨_, rfl, by decide, "PathLists$Step", Or.inl rfl, Or.inr ⟨"PathLists", List.mem_of_getElem? (i := 697) (by decide +kernel)⟩⟩
theorem F_RX2_19 : px_fl RX2 19 2 1 := ⟨_, rfl, by decide, "PathLists$Step", Or.inl rfl, Or.inl (px_mem 698 (by decide +kernel) rfl)⟩
theorem G_RX2_19 : ∃ q : vw_C, px_cl[2]? = some q ∧ 1 < q.2.2 ∧ (q.2.1 1).2.2.2 = true ∧ (q.2.1 1).1 = RX2 ∧ Cond.fieldLink RX2 19 (q.2.1 1).1 (q.2.1 1).2.1 (q.2.1 1).2.2.1 ∈ px_T := ⟨_, rfl, by decide, rfl, rfl, px_mem 698 (by decide +kernel) rfl⟩
theorem F_RX4_241 : px_fl RX4 241 2 1 := ⟨_, rfl, by decide, "PathLists$Step", Or.inl rfl, Or.inr ⟨"PathLists", List.mem_of_getElem? (i := 699) (by decide +kernel)⟩⟩
theorem F_RX2_23 : px_fl RX2 23 2 2 := ⟨_, rfl, by decide, "PathLists$Step", Or.inl rfl, Or.inl (px_mem 700 (by decide +kernel) rfl)⟩
theorem G_RX2_23 : ∃ q : vw_C, px_cl[2]? = some q ∧ 2 < q.2.2 ∧ (q.2.1 2).2.2.2 = true ∧ (q.2.1 2).1 = RX2 ∧ Cond.fieldLink RX2 23 (q.2.1 2).1 (q.2.1 2).2.1 (q.2.1 2).2.2.1 ∈ px_T := ⟨_, rfl, by decide, rfl, rfl, px_mem 700 (by decide +kernel) rfl⟩
theorem F_RX4_191 : px_fl RX4 191 2 2 := ⟨_, rfl, by decide, "PathLists$Step", Or.inl rfl, Or.inr ⟨"PathLists", List.mem_of_getElem? (i := 701) (by decide +kernel)⟩⟩
theorem F_RX2_26 : px_fl RX2 26 2 3 := ⟨_, rfl, by decide, "PathLists$Step", Or.inl rfl, Or.inl (px_mem 702 (by decide +kernel) rfl)⟩
theorem F_RX4_194 : px_fl RX4 194 2 3 := ⟨_, rfl, by decide, "PathLists$Step", Or.inl rfl, Or.inr ⟨"PathLists", List.mem_of_getElem? (i := 703) (by decide +kernel)⟩⟩
theorem F_RX2_7 : px_fl RX2 7 2 4 := ⟨_, rfl, by decide, "PathLists$Step", Or.inl rfl, Or.inl (px_mem 704 (by decide +kernel) rfl)⟩
theorem F_RX4_172 : px_fl RX4 172 2 4 := ⟨_, rfl, by decide, "PathLists$Step", Or.inl rfl, Or.inr ⟨"PathLists", List.mem_of_getElem? (i := 705) (by decide +kernel)⟩⟩
theorem F_RX2_13 : px_fl RX2 13 2 5 := ⟨_, rfl, by decide, "PathLists$Step", Or.inl rfl, Or.inl (px_mem 706 (by decide +kernel) rfl)⟩
theorem F_RX4_248 : px_fl RX4 248 2 5 := ⟨_, rfl, by decide, "PathLists$Step", Or.inl rfl, Or.inr ⟨"PathLists", List.mem_of_getElem? (i := 707) (by decide +kernel)⟩⟩
theorem L_RL_86 : px_lkH RL 86 4 mL_end := ⟨⟨px_mem 37 (by decide +kernel) rfl, W_mL_end, ⟨by decide, by decide⟩, by decide +kernel, by decide⟩, (by decide), px_mem 721 (by decide +kernel) rfl, px_mem 722 (by decide +kernel) rfl⟩
theorem L_RL_23 : px_lkV RL 23 2 mX4_end := ⟨⟨px_mem 38 (by decide +kernel) rfl, W_mX4_end, ⟨by decide, by decide⟩, by decide +kernel, by decide⟩, rfl, px_mem 724 (by decide +kernel) rfl, px_mem 725 (by decide +kernel) rfl, px_mem 726 (by decide +kernel) rfl⟩
theorem L_RX4_131 : px_lkS RX4 131 1 mX4_checkTime := ⟨⟨px_mem 38 (by decide +kernel) rfl, W_mX4_checkTime, ⟨by decide, by decide⟩, by decide +kernel, by decide⟩, rfl, px_mem 729 (by decide +kernel) rfl, px_mem 730 (by decide +kernel) rfl⟩
theorem L_RL_90 : px_lkH RL 90 4 mL_start := ⟨⟨px_mem 37 (by decide +kernel) rfl, W_mL_start, ⟨by decide, by decide⟩, by decide +kernel, by decide⟩, (by decide), px_mem 733 (by decide +kernel) rfl, px_mem 734 (by decide +kernel) rfl⟩
theorem L_RL_27 : px_lkV RL 27 2 mX4_start := ⟨⟨px_mem 38 (by decide +kernel) rfl, W_mX4_start, ⟨by decide, by decide⟩, by decide +kernel, by decide⟩, rfl, px_mem 736 (by decide +kernel) rfl, px_mem 737 (by decide +kernel) rfl, px_mem 738 (by decide +kernel) rfl⟩
theorem L_RL_93 : px_lkH RL 93 4 mL_through := ⟨⟨px_mem 37 (by decide +kernel) rfl, W_mL_through, ⟨by decide, by decide⟩, by decide +kernel, by decide⟩, (by decide), px_mem 741 (by decide +kernel) rfl, px_mem 742 (by decide +kernel) rfl⟩
theorem L_RL_30 : px_lkV RL 30 2 mX4_through := ⟨⟨px_mem 38 (by decide +kernel) rfl, W_mX4_through, ⟨by decide, by decide⟩, by decide +kernel, by decide⟩, rfl, px_mem 744 (by decide +kernel) rfl, px_mem 745 (by decide +kernel) rfl, px_mem 746 (by decide +kernel) rfl⟩
theorem L_RL_97 : px_lkH RL 97 3 mL_run := ⟨⟨px_mem 37 (by decide +kernel) rfl, W_mL_run, ⟨by decide, by decide⟩, by decide +kernel, by decide⟩, (by decide), px_mem 749 (by decide +kernel) rfl, px_mem 750 (by decide +kernel) rfl⟩
theorem L_RL_34 : px_lkV RL 34 1 mX4_run := ⟨⟨px_mem 38 (by decide +kernel) rfl, W_mX4_run, ⟨by decide, by decide⟩, by decide +kernel, by decide⟩, rfl, px_mem 752 (by decide +kernel) rfl, px_mem 753 (by decide +kernel) rfl, px_mem 754 (by decide +kernel) rfl⟩
theorem L_RX4_147 : px_lkV RX4 147 0 mX4_throughRises := ⟨⟨px_mem 38 (by decide +kernel) rfl, W_mX4_throughRises, ⟨by decide, by decide⟩, by decide +kernel, by decide⟩, rfl, px_mem 757 (by decide +kernel) rfl, px_mem 759 (by decide +kernel) rfl, px_mem 10 (by decide +kernel) rfl⟩
theorem L_RX4_238 : px_lkV RX4 238 1 mX4_placeOfOrder := ⟨⟨px_mem 38 (by decide +kernel) rfl, W_mX4_placeOfOrder, ⟨by decide, by decide⟩, by decide +kernel, by decide⟩, rfl, px_mem 761 (by decide +kernel) rfl, px_mem 763 (by decide +kernel) rfl, px_mem 11 (by decide +kernel) rfl⟩
theorem L_RX4_151 : px_lkV RX4 151 2 mX4_gather := ⟨⟨px_mem 38 (by decide +kernel) rfl, W_mX4_gather, ⟨by decide, by decide⟩, by decide +kernel, by decide⟩, rfl, px_mem 765 (by decide +kernel) rfl, px_mem 767 (by decide +kernel) rfl, px_mem 12 (by decide +kernel) rfl⟩
theorem L_RX4_244 : px_lkV RX4 244 1 mX4_leavesOut := ⟨⟨px_mem 38 (by decide +kernel) rfl, W_mX4_leavesOut, ⟨by decide, by decide⟩, by decide +kernel, by decide⟩, rfl, px_mem 769 (by decide +kernel) rfl, px_mem 771 (by decide +kernel) rfl, px_mem 13 (by decide +kernel) rfl⟩
theorem L_RX4_251 : px_lkV RX4 251 2 mX4_firstOf := ⟨⟨px_mem 38 (by decide +kernel) rfl, W_mX4_firstOf, ⟨by decide, by decide⟩, by decide +kernel, by decide⟩, rfl, px_mem 773 (by decide +kernel) rfl, px_mem 775 (by decide +kernel) rfl, px_mem 14 (by decide +kernel) rfl⟩
theorem L_RX4_259 : px_lkV RX4 259 2 mX4_hasNext := ⟨⟨px_mem 38 (by decide +kernel) rfl, W_mX4_hasNext, ⟨by decide, by decide⟩, by decide +kernel, by decide⟩, rfl, px_mem 777 (by decide +kernel) rfl, px_mem 779 (by decide +kernel) rfl, px_mem 15 (by decide +kernel) rfl⟩
theorem L_RX4_267 : px_lkV RX4 267 1 mX4_groupOfNext := ⟨⟨px_mem 38 (by decide +kernel) rfl, W_mX4_groupOfNext, ⟨by decide, by decide⟩, by decide +kernel, by decide⟩, rfl, px_mem 781 (by decide +kernel) rfl, px_mem 783 (by decide +kernel) rfl, px_mem 16 (by decide +kernel) rfl⟩
theorem L_RX4_263 : px_lkV RX4 263 1 mX4_leftByNext := ⟨⟨px_mem 38 (by decide +kernel) rfl, W_mX4_leftByNext, ⟨by decide, by decide⟩, by decide +kernel, by decide⟩, rfl, px_mem 785 (by decide +kernel) rfl, px_mem 787 (by decide +kernel) rfl, px_mem 17 (by decide +kernel) rfl⟩
theorem L_RX4_255 : px_lkV RX4 255 2 mX4_take := ⟨⟨px_mem 38 (by decide +kernel) rfl, W_mX4_take, ⟨by decide, by decide⟩, by decide +kernel, by decide⟩, rfl, px_mem 789 (by decide +kernel) rfl, px_mem 791 (by decide +kernel) rfl, px_mem 18 (by decide +kernel) rfl⟩
theorem L_RL_101 : px_lkH RL 101 3 mL_slack := ⟨⟨px_mem 37 (by decide +kernel) rfl, W_mL_slack, ⟨by decide, by decide⟩, by decide +kernel, by decide⟩, (by decide), px_mem 793 (by decide +kernel) rfl, px_mem 794 (by decide +kernel) rfl⟩
theorem L_RL_38 : px_lkV RL 38 1 mX4_slack := ⟨⟨px_mem 38 (by decide +kernel) rfl, W_mX4_slack, ⟨by decide, by decide⟩, by decide +kernel, by decide⟩, rfl, px_mem 796 (by decide +kernel) rfl, px_mem 797 (by decide +kernel) rfl, px_mem 798 (by decide +kernel) rfl⟩
theorem L_RX4_154 : px_lkV RX4 154 0 mX4_checkListed := ⟨⟨px_mem 38 (by decide +kernel) rfl, W_mX4_checkListed, ⟨by decide, by decide⟩, by decide +kernel, by decide⟩, rfl, px_mem 800 (by decide +kernel) rfl, px_mem 802 (by decide +kernel) rfl, px_mem 19 (by decide +kernel) rfl⟩
theorem L_RL_105 : px_lkH RL 105 4 mL_at := ⟨⟨px_mem 37 (by decide +kernel) rfl, W_mL_at, ⟨by decide, by decide⟩, by decide +kernel, by decide⟩, (by decide), px_mem 805 (by decide +kernel) rfl, px_mem 806 (by decide +kernel) rfl⟩
theorem L_RL_42 : px_lkV RL 42 2 mX4_at := ⟨⟨px_mem 38 (by decide +kernel) rfl, W_mX4_at, ⟨by decide, by decide⟩, by decide +kernel, by decide⟩, rfl, px_mem 808 (by decide +kernel) rfl, px_mem 809 (by decide +kernel) rfl, px_mem 810 (by decide +kernel) rfl⟩
theorem L_RX4_161 : px_lkV RX4 161 2 mX4_stepOf := ⟨⟨px_mem 38 (by decide +kernel) rfl, W_mX4_stepOf, ⟨by decide, by decide⟩, by decide +kernel, by decide⟩, rfl, px_mem 812 (by decide +kernel) rfl, px_mem 814 (by decide +kernel) rfl, px_mem 20 (by decide +kernel) rfl⟩
theorem L_RX4_280 : px_lkS RX4 280 2 mX4_firstStep := ⟨⟨px_mem 38 (by decide +kernel) rfl, W_mX4_firstStep, ⟨by decide, by decide⟩, by decide +kernel, by decide⟩, rfl, px_mem 816 (by decide +kernel) rfl, px_mem 817 (by decide +kernel) rfl⟩
theorem L_RL_108 : px_lkH RL 108 4 mL_group := ⟨⟨px_mem 37 (by decide +kernel) rfl, W_mL_group, ⟨by decide, by decide⟩, by decide +kernel, by decide⟩, (by decide), px_mem 820 (by decide +kernel) rfl, px_mem 821 (by decide +kernel) rfl⟩
theorem L_RL_46 : px_lkV RL 46 2 mX4_group := ⟨⟨px_mem 38 (by decide +kernel) rfl, W_mX4_group, ⟨by decide, by decide⟩, by decide +kernel, by decide⟩, rfl, px_mem 823 (by decide +kernel) rfl, px_mem 824 (by decide +kernel) rfl, px_mem 825 (by decide +kernel) rfl⟩
theorem L_RL_111 : px_lkH RL 111 3 mL_model := ⟨⟨px_mem 37 (by decide +kernel) rfl, W_mL_model, ⟨by decide, by decide⟩, by decide +kernel, by decide⟩, (by decide), px_mem 828 (by decide +kernel) rfl, px_mem 829 (by decide +kernel) rfl⟩
theorem L_RL_49 : px_lkV RL 49 1 mX4_model := ⟨⟨px_mem 38 (by decide +kernel) rfl, W_mX4_model, ⟨by decide, by decide⟩, by decide +kernel, by decide⟩, rfl, px_mem 831 (by decide +kernel) rfl, px_mem 832 (by decide +kernel) rfl, px_mem 833 (by decide +kernel) rfl⟩
theorem L_RX4_175 : px_lkS RX4 175 2 mX4_isInput := ⟨⟨px_mem 38 (by decide +kernel) rfl, W_mX4_isInput, ⟨by decide, by decide⟩, by decide +kernel, by decide⟩, rfl, px_mem 835 (by decide +kernel) rfl, px_mem 836 (by decide +kernel) rfl⟩
theorem L_RX4_179 : px_lkV RX4 179 1 mX4_countReachedOutputs := ⟨⟨px_mem 38 (by decide +kernel) rfl, W_mX4_countReachedOutputs, ⟨by decide, by decide⟩, by decide +kernel, by decide⟩, rfl, px_mem 838 (by decide +kernel) rfl, px_mem 840 (by decide +kernel) rfl, px_mem 21 (by decide +kernel) rfl⟩
theorem L_RX4_186 : px_lkS RX4 186 2 mX4_isOutput := ⟨⟨px_mem 38 (by decide +kernel) rfl, W_mX4_isOutput, ⟨by decide, by decide⟩, by decide +kernel, by decide⟩, rfl, px_mem 842 (by decide +kernel) rfl, px_mem 843 (by decide +kernel) rfl⟩
theorem L_RL_114 : px_lkH RL 114 4 mL_into := ⟨⟨px_mem 37 (by decide +kernel) rfl, W_mL_into, ⟨by decide, by decide⟩, by decide +kernel, by decide⟩, (by decide), px_mem 845 (by decide +kernel) rfl, px_mem 846 (by decide +kernel) rfl⟩
theorem L_RL_52 : px_lkV RL 52 2 mX4_into := ⟨⟨px_mem 38 (by decide +kernel) rfl, W_mX4_into, ⟨by decide, by decide⟩, by decide +kernel, by decide⟩, rfl, px_mem 848 (by decide +kernel) rfl, px_mem 849 (by decide +kernel) rfl, px_mem 850 (by decide +kernel) rfl⟩
theorem L_RL_117 : px_lkH RL 117 5 mL_reduced := ⟨⟨px_mem 37 (by decide +kernel) rfl, W_mL_reduced, ⟨by decide, by decide⟩, by decide +kernel, by decide⟩, (by decide), px_mem 852 (by decide +kernel) rfl, px_mem 853 (by decide +kernel) rfl⟩
theorem L_RL_55 : px_lkV RL 55 3 mX4_reduced := ⟨⟨px_mem 38 (by decide +kernel) rfl, W_mX4_reduced, ⟨by decide, by decide⟩, by decide +kernel, by decide⟩, rfl, px_mem 855 (by decide +kernel) rfl, px_mem 856 (by decide +kernel) rfl, px_mem 857 (by decide +kernel) rfl⟩
theorem L_RL_121 : px_lkH RL 121 4 mL_budget := ⟨⟨px_mem 37 (by decide +kernel) rfl, W_mL_budget, ⟨by decide, by decide⟩, by decide +kernel, by decide⟩, (by decide), px_mem 859 (by decide +kernel) rfl, px_mem 860 (by decide +kernel) rfl⟩
theorem L_RL_59 : px_lkV RL 59 2 mX4_budget := ⟨⟨px_mem 38 (by decide +kernel) rfl, W_mX4_budget, ⟨by decide, by decide⟩, by decide +kernel, by decide⟩, rfl, px_mem 862 (by decide +kernel) rfl, px_mem 863 (by decide +kernel) rfl, px_mem 864 (by decide +kernel) rfl⟩
theorem L_RL_125 : px_lkH RL 125 4 mL_whatIf := ⟨⟨px_mem 37 (by decide +kernel) rfl, W_mL_whatIf, ⟨by decide, by decide⟩, by decide +kernel, by decide⟩, (by decide), px_mem 866 (by decide +kernel) rfl, px_mem 867 (by decide +kernel) rfl⟩
theorem L_RL_63 : px_lkV RL 63 2 mX4_whatIf := ⟨⟨px_mem 38 (by decide +kernel) rfl, W_mX4_whatIf, ⟨by decide, by decide⟩, by decide +kernel, by decide⟩, rfl, px_mem 869 (by decide +kernel) rfl, px_mem 870 (by decide +kernel) rfl, px_mem 871 (by decide +kernel) rfl⟩
theorem L_RX4_201 : px_lkI RX4 201 2 mX0_init := ⟨⟨px_mem 65 (by decide +kernel) rfl, W_mX0_init, ⟨by decide, by decide⟩, by decide +kernel, by decide⟩, rfl, rfl, px_mem 876 (by decide +kernel) rfl, Or.inr ⟨"PathLists", List.mem_of_getElem? (i := 875) (by decide +kernel)⟩⟩
theorem F_RX0_7 : px_fl RX0 7 0 0 := ⟨_, rfl, by decide, "PathLists$Change", Or.inl rfl, Or.inl (px_mem 879 (by decide +kernel) rfl)⟩
theorem G_RX0_7 : ∃ q : vw_C, px_cl[0]? = some q ∧ 0 < q.2.2 ∧ (q.2.1 0).2.2.2 = true ∧ (q.2.1 0).1 = RX0 ∧ Cond.fieldLink RX0 7 (q.2.1 0).1 (q.2.1 0).2.1 (q.2.1 0).2.2.1 ∈ px_T := ⟨_, rfl, by decide, rfl, rfl, px_mem 879 (by decide +kernel) rfl⟩
theorem F_RX4_210 : px_fl RX4 210 0 0 := ⟨_, rfl, by decide, "PathLists$Change", Or.inl rfl, Or.inr ⟨"PathLists", List.mem_of_getElem? (i := 880) (by decide +kernel)⟩⟩
theorem F_RX0_13 : px_fl RX0 13 0 1 := ⟨_, rfl, by decide, "PathLists$Change", Or.inl rfl, Or.inl (px_mem 881 (by decide +kernel) rfl)⟩
theorem G_RX0_13 : ∃ q : vw_C, px_cl[0]? = some q ∧ 1 < q.2.2 ∧ (q.2.1 1).2.2.2 = true ∧ (q.2.1 1).1 = RX0 ∧ Cond.fieldLink RX0 13 (q.2.1 1).1 (q.2.1 1).2.1 (q.2.1 1).2.2.1 ∈ px_T := ⟨_, rfl, by decide, rfl, rfl, px_mem 881 (by decide +kernel) rfl⟩
theorem F_RX4_214 : px_fl RX4 214 0 1 := ⟨_, rfl, by decide, "PathLists$Change", Or.inl rfl, Or.inr ⟨"PathLists", List.mem_of_getElem? (i := 882) (by decide +kernel)⟩⟩
theorem K_RL_68 : Cond.classLink RL 68 RX5 ∈ px_T := px_mem 888 (by decide +kernel) rfl
theorem L_RL_70 : px_lkI RL 70 0 mX5_init := ⟨⟨px_mem 45 (by decide +kernel) rfl, W_mX5_init, ⟨by decide, by decide⟩, by decide +kernel, by decide⟩, rfl, rfl, px_mem 891 (by decide +kernel) rfl, Or.inl (px_mem 890 (by decide +kernel) rfl)⟩
theorem F_RX5_81 : px_fl RX5 81 5 0 := ⟨_, rfl, by decide, "PathListsModel", Or.inl rfl, Or.inl (px_mem 894 (by decide +kernel) rfl)⟩
theorem F_RX5_85 : px_fl RX5 85 5 1 := ⟨_, rfl, by decide, "PathListsModel", Or.inl rfl, Or.inl (px_mem 895 (by decide +kernel) rfl)⟩
theorem F_RX5_7 : px_fl RX5 7 5 2 := ⟨_, rfl, by decide, "PathListsModel", Or.inl rfl, Or.inl (px_mem 896 (by decide +kernel) rfl)⟩
theorem G_RX5_7 : ∃ q : vw_C, px_cl[5]? = some q ∧ 2 < q.2.2 ∧ (q.2.1 2).2.2.2 = true ∧ (q.2.1 2).1 = RX5 ∧ Cond.fieldLink RX5 7 (q.2.1 2).1 (q.2.1 2).2.1 (q.2.1 2).2.2.1 ∈ px_T := ⟨_, rfl, by decide, rfl, rfl, px_mem 896 (by decide +kernel) rfl⟩
theorem F_RX5_13 : px_fl RX5 13 5 3 := ⟨_, rfl, by decide, "PathListsModel", Or.inl rfl, Or.inl (px_mem 897 (by decide +kernel) rfl)⟩
theorem G_RX5_13 : ∃ q : vw_C, px_cl[5]? = some q ∧ 3 < q.2.2 ∧ (q.2.1 3).2.2.2 = true ∧ (q.2.1 3).1 = RX5 ∧ Cond.fieldLink RX5 13 (q.2.1 3).1 (q.2.1 3).2.1 (q.2.1 3).2.2.1 ∈ px_T := ⟨_, rfl, by decide, rfl, rfl, px_mem 897 (by decide +kernel) rfl⟩
theorem F_RX5_16 : px_fl RX5 16 5 4 := ⟨_, rfl, by decide, "PathListsModel", Or.inl rfl, Or.inl (px_mem 898 (by decide +kernel) rfl)⟩
theorem G_RX5_16 : ∃ q : vw_C, px_cl[5]? = some q ∧ 4 < q.2.2 ∧ (q.2.1 4).2.2.2 = true ∧ (q.2.1 4).1 = RX5 ∧ Cond.fieldLink RX5 16 (q.2.1 4).1 (q.2.1 4).2.1 (q.2.1 4).2.2.1 ∈ px_T := ⟨_, rfl, by decide, rfl, rfl, px_mem 898 (by decide +kernel) rfl⟩
theorem F_RX5_19 : px_fl RX5 19 5 5 := ⟨_, rfl, by decide, "PathListsModel", Or.inl rfl, Or.inl (px_mem 899 (by decide +kernel) rfl)⟩
theorem G_RX5_19 : ∃ q : vw_C, px_cl[5]? = some q ∧ 5 < q.2.2 ∧ (q.2.1 5).2.2.2 = true ∧ (q.2.1 5).1 = RX5 ∧ Cond.fieldLink RX5 19 (q.2.1 5).1 (q.2.1 5).2.1 (q.2.1 5).2.2.1 ∈ px_T := ⟨_, rfl, by decide, rfl, rfl, px_mem 899 (by decide +kernel) rfl⟩
theorem F_RX5_96 : px_fl RX5 96 5 6 := ⟨_, rfl, by decide, "PathListsModel", Or.inl rfl, Or.inl (px_mem 900 (by decide +kernel) rfl)⟩
theorem F_RX5_23 : px_fl RX5 23 5 7 := ⟨_, rfl, by decide, "PathListsModel", Or.inl rfl, Or.inl (px_mem 901 (by decide +kernel) rfl)⟩
theorem G_RX5_23 : ∃ q : vw_C, px_cl[5]? = some q ∧ 7 < q.2.2 ∧ (q.2.1 7).2.2.2 = true ∧ (q.2.1 7).1 = RX5 ∧ Cond.fieldLink RX5 23 (q.2.1 7).1 (q.2.1 7).2.1 (q.2.1 7).2.2.1 ∈ px_T := ⟨_, rfl, by decide, rfl, rfl, px_mem 901 (by decide +kernel) rfl⟩
theorem F_RX5_26 : px_fl RX5 26 5 8 := ⟨_, rfl, by decide, "PathListsModel", Or.inl rfl, Or.inl (px_mem 902 (by decide +kernel) rfl)⟩
theorem G_RX5_26 : ∃ q : vw_C, px_cl[5]? = some q ∧ 8 < q.2.2 ∧ (q.2.1 8).2.2.2 = true ∧ (q.2.1 8).1 = RX5 ∧ Cond.fieldLink RX5 26 (q.2.1 8).1 (q.2.1 8).2.1 (q.2.1 8).2.2.1 ∈ px_T := ⟨_, rfl, by decide, rfl, rfl, px_mem 902 (by decide +kernel) rfl⟩
theorem F_RX5_116 : px_fl RX5 116 5 9 := ⟨_, rfl, by decide, "PathListsModel", Or.inl rfl, Or.inl (px_mem 903 (by decide +kernel) rfl)⟩
theorem F_RX5_29 : px_fl RX5 29 5 10 := ⟨_, rfl, by decide, "PathListsModel", Or.inl rfl, Or.inl (px_mem 904 (by decide +kernel) rfl)⟩
theorem G_RX5_29 : ∃ q : vw_C, px_cl[5]? = some q ∧ 10 < q.2.2 ∧ (q.2.1 10).2.2.2 = true ∧ (q.2.1 10).1 = RX5 ∧ Cond.fieldLink RX5 29 (q.2.1 10).1 (q.2.1 10).2.1 (q.2.1 10).2.2.1 ∈ px_T := ⟨_, rfl, by decide, rfl, rfl, px_mem 904 (by decide +kernel) rfl⟩
theorem F_RX5_32 : px_fl RX5 32 5 11 := ⟨_, rfl, by decide, "PathListsModel", Or.inl rfl, Or.inl (px_mem 905 (by decide +kernel) rfl)⟩
theorem G_RX5_32 : ∃ q : vw_C, px_cl[5]? = some q ∧ 11 < q.2.2 ∧ (q.2.1 11).2.2.2 = true ∧ (q.2.1 11).1 = RX5 ∧ Cond.fieldLink RX5 32 (q.2.1 11).1 (q.2.1 11).2.1 (q.2.1 11).2.2.1 ∈ px_T := ⟨_, rfl, by decide, rfl, rfl, px_mem 905 (by decide +kernel) rfl⟩
theorem F_RX5_35 : px_fl RX5 35 5 12 := ⟨_, rfl, by decide, "PathListsModel", Or.inl rfl, Or.inl (px_mem 906 (by decide +kernel) rfl)⟩
theorem G_RX5_35 : ∃ q : vw_C, px_cl[5]? = some q ∧ 12 < q.2.2 ∧ (q.2.1 12).2.2.2 = true ∧ (q.2.1 12).1 = RX5 ∧ Cond.fieldLink RX5 35 (q.2.1 12).1 (q.2.1 12).2.1 (q.2.1 12).2.2.1 ∈ px_T := ⟨_, rfl, by decide, rfl, rfl, px_mem 906 (by decide +kernel) rfl⟩
theorem F_RX5_111 : px_fl RX5 111 5 13 := ⟨_, rfl, by decide, "PathListsModel", Or.inl rfl, Or.inl (px_mem 907 (by decide +kernel) rfl)⟩
theorem F_RX5_38 : px_fl RX5 38 5 14 := ⟨_, rfl, by decide, "PathListsModel", Or.inl rfl, Or.inl (px_mem 908 (by decide +kernel) rfl)⟩
theorem G_RX5_38 : ∃ q : vw_C, px_cl[5]? = some q ∧ 14 < q.2.2 ∧ (q.2.1 14).2.2.2 = true ∧ (q.2.1 14).1 = RX5 ∧ Cond.fieldLink RX5 38 (q.2.1 14).1 (q.2.1 14).2.1 (q.2.1 14).2.2.1 ∈ px_T := ⟨_, rfl, by decide, rfl, rfl, px_mem 908 (by decide +kernel) rfl⟩
theorem F_RX5_41 : px_fl RX5 41 5 15 := ⟨_, rfl, by decide, "PathListsModel", Or.inl rfl, Or.inl (px_mem 909 (by decide +kernel) rfl)⟩
theorem G_RX5_41 : ∃ q : vw_C, px_cl[5]? = some q ∧ 15 < q.2.2 ∧ (q.2.1 15).2.2.2 = true ∧ (q.2.1 15).1 = RX5 ∧ Cond.fieldLink RX5 41 (q.2.1 15).1 (q.2.1 15).2.1 (q.2.1 15).2.2.1 ∈ px_T := ⟨_, rfl, by decide, rfl, rfl, px_mem 909 (by decide +kernel) rfl⟩
theorem F_RX5_44 : px_fl RX5 44 5 16 := ⟨_, rfl, by decide, "PathListsModel", Or.inl rfl, Or.inl (px_mem 910 (by decide +kernel) rfl)⟩
theorem G_RX5_44 : ∃ q : vw_C, px_cl[5]? = some q ∧ 16 < q.2.2 ∧ (q.2.1 16).2.2.2 = true ∧ (q.2.1 16).1 = RX5 ∧ Cond.fieldLink RX5 44 (q.2.1 16).1 (q.2.1 16).2.1 (q.2.1 16).2.2.1 ∈ px_T := ⟨_, rfl, by decide, rfl, rfl, px_mem 910 (by decide +kernel) rfl⟩
theorem F_RX5_173 : px_fl RX5 173 5 17 := ⟨_, rfl, by decide, "PathListsModel", Or.inl rfl, Or.inl (px_mem 911 (by decide +kernel) rfl)⟩
theorem F_RX5_47 : px_fl RX5 47 5 18 := ⟨_, rfl, by decide, "PathListsModel", Or.inl rfl, Or.inl (px_mem 912 (by decide +kernel) rfl)⟩
theorem G_RX5_47 : ∃ q : vw_C, px_cl[5]? = some q ∧ 18 < q.2.2 ∧ (q.2.1 18).2.2.2 = true ∧ (q.2.1 18).1 = RX5 ∧ Cond.fieldLink RX5 47 (q.2.1 18).1 (q.2.1 18).2.1 (q.2.1 18).2.2.1 ∈ px_T := ⟨_, rfl, by decide, rfl, rfl, px_mem 912 (by decide +kernel) rfl⟩
theorem F_RX5_50 : px_fl RX5 50 5 19 := ⟨_, rfl, by decide, "PathListsModel", Or.inl rfl, Or.inl (px_mem 913 (by decide +kernel) rfl)⟩
theorem G_RX5_50 : ∃ q : vw_C, px_cl[5]? = some q ∧ 19 < q.2.2 ∧ (q.2.1 19).2.2.2 = true ∧ (q.2.1 19).1 = RX5 ∧ Cond.fieldLink RX5 50 (q.2.1 19).1 (q.2.1 19).2.1 (q.2.1 19).2.2.1 ∈ px_T := ⟨_, rfl, by decide, rfl, rfl, px_mem 913 (by decide +kernel) rfl⟩
theorem F_RX5_53 : px_fl RX5 53 5 20 := ⟨_, rfl, by decide, "PathListsModel", Or.inl rfl, Or.inl (px_mem 914 (by decide +kernel) rfl)⟩
theorem G_RX5_53 : ∃ q : vw_C, px_cl[5]? = some q ∧ 20 < q.2.2 ∧ (q.2.1 20).2.2.2 = true ∧ (q.2.1 20).1 = RX5 ∧ Cond.fieldLink RX5 53 (q.2.1 20).1 (q.2.1 20).2.1 (q.2.1 20).2.2.1 ∈ px_T := ⟨_, rfl, by decide, rfl, rfl, px_mem 914 (by decide +kernel) rfl⟩
theorem F_RX5_56 : px_fl RX5 56 5 21 := ⟨_, rfl, by decide, "PathListsModel", Or.inl rfl, Or.inl (px_mem 915 (by decide +kernel) rfl)⟩
theorem G_RX5_56 : ∃ q : vw_C, px_cl[5]? = some q ∧ 21 < q.2.2 ∧ (q.2.1 21).2.2.2 = true ∧ (q.2.1 21).1 = RX5 ∧ Cond.fieldLink RX5 56 (q.2.1 21).1 (q.2.1 21).2.1 (q.2.1 21).2.2.1 ∈ px_T := ⟨_, rfl, by decide, rfl, rfl, px_mem 915 (by decide +kernel) rfl⟩
theorem F_RX5_59 : px_fl RX5 59 5 22 := ⟨_, rfl, by decide, "PathListsModel", Or.inl rfl, Or.inl (px_mem 916 (by decide +kernel) rfl)⟩
theorem G_RX5_59 : ∃ q : vw_C, px_cl[5]? = some q ∧ 22 < q.2.2 ∧ (q.2.1 22).2.2.2 = true ∧ (q.2.1 22).1 = RX5 ∧ Cond.fieldLink RX5 59 (q.2.1 22).1 (q.2.1 22).2.1 (q.2.1 22).2.2.1 ∈ px_T := ⟨_, rfl, by decide, rfl, rfl, px_mem 916 (by decide +kernel) rfl⟩
theorem F_RX5_62 : px_fl RX5 62 5 23 := ⟨_, rfl, by decide, "PathListsModel", Or.inl rfl, Or.inl (px_mem 917 (by decide +kernel) rfl)⟩
theorem G_RX5_62 : ∃ q : vw_C, px_cl[5]? = some q ∧ 23 < q.2.2 ∧ (q.2.1 23).2.2.2 = true ∧ (q.2.1 23).1 = RX5 ∧ Cond.fieldLink RX5 62 (q.2.1 23).1 (q.2.1 23).2.1 (q.2.1 23).2.2.1 ∈ px_T := ⟨_, rfl, by decide, rfl, rfl, px_mem 917 (by decide +kernel) rfl⟩
theorem F_RX5_145 : px_fl RX5 145 5 24 := ⟨_, rfl, by decide, "PathListsModel", Or.inl rfl, Or.inl (px_mem 918 (by decide +kernel) rfl)⟩
theorem F_RX5_92 : px_fl RX5 92 5 25 := ⟨_, rfl, by decide, "PathListsModel", Or.inl rfl, Or.inl (px_mem 919 (by decide +kernel) rfl)⟩
theorem F_RX5_65 : px_fl RX5 65 5 26 := ⟨_, rfl, by decide, "PathListsModel", Or.inl rfl, Or.inl (px_mem 920 (by decide +kernel) rfl)⟩
theorem G_RX5_65 : ∃ q : vw_C, px_cl[5]? = some q ∧ 26 < q.2.2 ∧ (q.2.1 26).2.2.2 = true ∧ (q.2.1 26).1 = RX5 ∧ Cond.fieldLink RX5 65 (q.2.1 26).1 (q.2.1 26).2.1 (q.2.1 26).2.2.1 ∈ px_T := ⟨_, rfl, by decide, rfl, rfl, px_mem 920 (by decide +kernel) rfl⟩
theorem F_RX5_69 : px_fl RX5 69 5 27 := ⟨_, rfl, by decide, "PathListsModel", Or.inl rfl, Or.inl (px_mem 921 (by decide +kernel) rfl)⟩
theorem G_RX5_69 : ∃ q : vw_C, px_cl[5]? = some q ∧ 27 < q.2.2 ∧ (q.2.1 27).2.2.2 = true ∧ (q.2.1 27).1 = RX5 ∧ Cond.fieldLink RX5 69 (q.2.1 27).1 (q.2.1 27).2.1 (q.2.1 27).2.2.1 ∈ px_T := ⟨_, rfl, by decide, rfl, rfl, px_mem 921 (by decide +kernel) rfl⟩
theorem F_RX5_72 : px_fl RX5 72 5 28 := ⟨_, rfl, by decide, "PathListsModel", Or.inl rfl, Or.inl (px_mem 922 (by decide +kernel) rfl)⟩
theorem G_RX5_72 : ∃ q : vw_C, px_cl[5]? = some q ∧ 28 < q.2.2 ∧ (q.2.1 28).2.2.2 = true ∧ (q.2.1 28).1 = RX5 ∧ Cond.fieldLink RX5 72 (q.2.1 28).1 (q.2.1 28).2.1 (q.2.1 28).2.2.1 ∈ px_T := ⟨_, rfl, by decide, rfl, rfl, px_mem 922 (by decide +kernel) rfl⟩
theorem F_RX5_75 : px_fl RX5 75 5 29 := ⟨_, rfl, by decide, "PathListsModel", Or.inl rfl, Or.inl (px_mem 923 (by decide +kernel) rfl)⟩
theorem G_RX5_75 : ∃ q : vw_C, px_cl[5]? = some q ∧ 29 < q.2.2 ∧ (q.2.1 29).2.2.2 = true ∧ (q.2.1 29).1 = RX5 ∧ Cond.fieldLink RX5 75 (q.2.1 29).1 (q.2.1 29).2.1 (q.2.1 29).2.2.1 ∈ px_T := ⟨_, rfl, by decide, rfl, rfl, px_mem 923 (by decide +kernel) rfl⟩
theorem F_RX5_78 : px_fl RX5 78 5 30 := ⟨_, rfl, by decide, "PathListsModel", Or.inl rfl, Or.inl (px_mem 924 (by decide +kernel) rfl)⟩
theorem G_RX5_78 : ∃ q : vw_C, px_cl[5]? = some q ∧ 30 < q.2.2 ∧ (q.2.1 30).2.2.2 = true ∧ (q.2.1 30).1 = RX5 ∧ Cond.fieldLink RX5 78 (q.2.1 30).1 (q.2.1 30).2.1 (q.2.1 30).2.2.1 ∈ px_T := ⟨_, rfl, by decide, rfl, rfl, px_mem 924 (by decide +kernel) rfl⟩
theorem A_boolean : Cond.arrayClass Jvm.ClassFile.FieldType.boolean ∈ px_T := px_mem 988 (by decide +kernel) rfl
theorem L_RL_77 : px_lkV RL 77 0 mX5_thrown := ⟨⟨px_mem 45 (by decide +kernel) rfl, W_mX5_thrown, ⟨by decide, by decide⟩, by decide +kernel, by decide⟩, rfl, px_mem 989 (by decide +kernel) rfl, px_mem 990 (by decide +kernel) rfl, px_mem 991 (by decide +kernel) rfl⟩
theorem L_RL_76 : px_lkV RL 76 0 mX5_pin := ⟨⟨px_mem 45 (by decide +kernel) rfl, W_mX5_pin, ⟨by decide, by decide⟩, by decide +kernel, by decide⟩, rfl, px_mem 993 (by decide +kernel) rfl, px_mem 994 (by decide +kernel) rfl, px_mem 995 (by decide +kernel) rfl⟩
theorem L_RL_85 : px_lkV RL 85 3 mX5_arc := ⟨⟨px_mem 45 (by decide +kernel) rfl, W_mX5_arc, ⟨by decide, by decide⟩, by decide +kernel, by decide⟩, rfl, px_mem 997 (by decide +kernel) rfl, px_mem 998 (by decide +kernel) rfl, px_mem 999 (by decide +kernel) rfl⟩
theorem L_RX5_99 : px_lkV RX5 99 1 mX5_isPin := ⟨⟨px_mem 45 (by decide +kernel) rfl, W_mX5_isPin, ⟨by decide, by decide⟩, by decide +kernel, by decide⟩, rfl, px_mem 1001 (by decide +kernel) rfl, px_mem 1003 (by decide +kernel) rfl, px_mem 22 (by decide +kernel) rfl⟩
theorem L_RX5_103 : px_lkS RX5 103 2 mX5_isTime := ⟨⟨px_mem 45 (by decide +kernel) rfl, W_mX5_isTime, ⟨by decide, by decide⟩, by decide +kernel, by decide⟩, rfl, px_mem 1005 (by decide +kernel) rfl, px_mem 1006 (by decide +kernel) rfl⟩
theorem D_RX5_88 : Cond.constantDouble RX5 88 4620693217682128896 ∈ px_T := px_mem 1008 (by decide +kernel) rfl
theorem D_RX5_90 : Cond.constantDouble RX5 90 4697254411347427328 ∈ px_T := px_mem 1009 (by decide +kernel) rfl
theorem L_RX5_107 : px_lkV RX5 107 2 mX5_spread := ⟨⟨px_mem 45 (by decide +kernel) rfl, W_mX5_spread, ⟨by decide, by decide⟩, by decide +kernel, by decide⟩, rfl, px_mem 1010 (by decide +kernel) rfl, px_mem 1012 (by decide +kernel) rfl, px_mem 23 (by decide +kernel) rfl⟩
theorem L_RL_89 : px_lkV RL 89 2 mX5_end := ⟨⟨px_mem 45 (by decide +kernel) rfl, W_mX5_end, ⟨by decide, by decide⟩, by decide +kernel, by decide⟩, rfl, px_mem 1014 (by decide +kernel) rfl, px_mem 1015 (by decide +kernel) rfl, px_mem 1016 (by decide +kernel) rfl⟩
theorem D_RX5_114 : Cond.constantDouble RX5 114 13920626448202203136 ∈ px_T := px_mem 1018 (by decide +kernel) rfl
theorem L_RL_92 : px_lkV RL 92 2 mX5_start := ⟨⟨px_mem 45 (by decide +kernel) rfl, W_mX5_start, ⟨by decide, by decide⟩, by decide +kernel, by decide⟩, rfl, px_mem 1019 (by decide +kernel) rfl, px_mem 1020 (by decide +kernel) rfl, px_mem 1021 (by decide +kernel) rfl⟩
theorem L_RL_96 : px_lkV RL 96 2 mX5_through := ⟨⟨px_mem 45 (by decide +kernel) rfl, W_mX5_through, ⟨by decide, by decide⟩, by decide +kernel, by decide⟩, rfl, px_mem 1023 (by decide +kernel) rfl, px_mem 1024 (by decide +kernel) rfl, px_mem 1025 (by decide +kernel) rfl⟩
theorem L_RL_110 : px_lkV RL 110 2 mX5_group := ⟨⟨px_mem 45 (by decide +kernel) rfl, W_mX5_group, ⟨by decide, by decide⟩, by decide +kernel, by decide⟩, rfl, px_mem 1027 (by decide +kernel) rfl, px_mem 1028 (by decide +kernel) rfl, px_mem 1029 (by decide +kernel) rfl⟩
theorem L_RL_100 : px_lkV RL 100 1 mX5_run := ⟨⟨px_mem 45 (by decide +kernel) rfl, W_mX5_run, ⟨by decide, by decide⟩, by decide +kernel, by decide⟩, rfl, px_mem 1031 (by decide +kernel) rfl, px_mem 1032 (by decide +kernel) rfl, px_mem 1033 (by decide +kernel) rfl⟩
theorem L_RX5_152 : px_lkV RX5 152 1 mX5_gather := ⟨⟨px_mem 45 (by decide +kernel) rfl, W_mX5_gather, ⟨by decide, by decide⟩, by decide +kernel, by decide⟩, rfl, px_mem 1035 (by decide +kernel) rfl, px_mem 1037 (by decide +kernel) rfl, px_mem 24 (by decide +kernel) rfl⟩
theorem L_RX5_131 : px_lkV RX5 131 0 mX5_arrange := ⟨⟨px_mem 45 (by decide +kernel) rfl, W_mX5_arrange, ⟨by decide, by decide⟩, by decide +kernel, by decide⟩, rfl, px_mem 1039 (by decide +kernel) rfl, px_mem 1041 (by decide +kernel) rfl, px_mem 25 (by decide +kernel) rfl⟩
theorem L_RX5_134 : px_lkV RX5 134 2 mX5_met := ⟨⟨px_mem 45 (by decide +kernel) rfl, W_mX5_met, ⟨by decide, by decide⟩, by decide +kernel, by decide⟩, rfl, px_mem 1043 (by decide +kernel) rfl, px_mem 1045 (by decide +kernel) rfl, px_mem 26 (by decide +kernel) rfl⟩
theorem L_RX5_137 : px_lkV RX5 137 5 mX5_come := ⟨⟨px_mem 45 (by decide +kernel) rfl, W_mX5_come, ⟨by decide, by decide⟩, by decide +kernel, by decide⟩, rfl, px_mem 1047 (by decide +kernel) rfl, px_mem 1049 (by decide +kernel) rfl, px_mem 27 (by decide +kernel) rfl⟩
theorem L_RX5_127 : px_lkV RX5 127 2 mX5_compareRows := ⟨⟨px_mem 45 (by decide +kernel) rfl, W_mX5_compareRows, ⟨by decide, by decide⟩, by decide +kernel, by decide⟩, rfl, px_mem 1051 (by decide +kernel) rfl, px_mem 1053 (by decide +kernel) rfl, px_mem 28 (by decide +kernel) rfl⟩
theorem L_RX5_119 : px_lkV RX5 119 1 mX5_startOf := ⟨⟨px_mem 45 (by decide +kernel) rfl, W_mX5_startOf, ⟨by decide, by decide⟩, by decide +kernel, by decide⟩, rfl, px_mem 1055 (by decide +kernel) rfl, px_mem 1057 (by decide +kernel) rfl, px_mem 29 (by decide +kernel) rfl⟩
theorem L_RX5_123 : px_lkV RX5 123 2 mX5_unroll := ⟨⟨px_mem 45 (by decide +kernel) rfl, W_mX5_unroll, ⟨by decide, by decide⟩, by decide +kernel, by decide⟩, rfl, px_mem 1059 (by decide +kernel) rfl, px_mem 1061 (by decide +kernel) rfl, px_mem 30 (by decide +kernel) rfl⟩
theorem L_RX5_156 : px_lkV RX5 156 4 mX5_enlist := ⟨⟨px_mem 45 (by decide +kernel) rfl, W_mX5_enlist, ⟨by decide, by decide⟩, by decide +kernel, by decide⟩, rfl, px_mem 1063 (by decide +kernel) rfl, px_mem 1065 (by decide +kernel) rfl, px_mem 31 (by decide +kernel) rfl⟩
theorem L_RX5_148 : px_lkV RX5 148 2 mX5_isBefore := ⟨⟨px_mem 45 (by decide +kernel) rfl, W_mX5_isBefore, ⟨by decide, by decide⟩, by decide +kernel, by decide⟩, rfl, px_mem 1067 (by decide +kernel) rfl, px_mem 1069 (by decide +kernel) rfl, px_mem 32 (by decide +kernel) rfl⟩
theorem L_RX5_141 : px_lkV RX5 141 1 mX5_slackOf := ⟨⟨px_mem 45 (by decide +kernel) rfl, W_mX5_slackOf, ⟨by decide, by decide⟩, by decide +kernel, by decide⟩, rfl, px_mem 1071 (by decide +kernel) rfl, px_mem 1073 (by decide +kernel) rfl, px_mem 33 (by decide +kernel) rfl⟩
theorem L_RL_104 : px_lkV RL 104 1 mX5_slack := ⟨⟨px_mem 45 (by decide +kernel) rfl, W_mX5_slack, ⟨by decide, by decide⟩, by decide +kernel, by decide⟩, rfl, px_mem 1075 (by decide +kernel) rfl, px_mem 1076 (by decide +kernel) rfl, px_mem 1077 (by decide +kernel) rfl⟩
theorem L_RX5_160 : px_lkV RX5 160 1 mX5_faultOf := ⟨⟨px_mem 45 (by decide +kernel) rfl, W_mX5_faultOf, ⟨by decide, by decide⟩, by decide +kernel, by decide⟩, rfl, px_mem 1079 (by decide +kernel) rfl, px_mem 1081 (by decide +kernel) rfl, px_mem 34 (by decide +kernel) rfl⟩
theorem L_RL_107 : px_lkV RL 107 2 mX5_at := ⟨⟨px_mem 45 (by decide +kernel) rfl, W_mX5_at, ⟨by decide, by decide⟩, by decide +kernel, by decide⟩, rfl, px_mem 1083 (by decide +kernel) rfl, px_mem 1084 (by decide +kernel) rfl, px_mem 1085 (by decide +kernel) rfl⟩
theorem L_RL_124 : px_lkV RL 124 2 mX5_budget := ⟨⟨px_mem 45 (by decide +kernel) rfl, W_mX5_budget, ⟨by decide, by decide⟩, by decide +kernel, by decide⟩, rfl, px_mem 1087 (by decide +kernel) rfl, px_mem 1088 (by decide +kernel) rfl, px_mem 1089 (by decide +kernel) rfl⟩
theorem L_RL_113 : px_lkV RL 113 1 mX5_model := ⟨⟨px_mem 45 (by decide +kernel) rfl, W_mX5_model, ⟨by decide, by decide⟩, by decide +kernel, by decide⟩, rfl, px_mem 1091 (by decide +kernel) rfl, px_mem 1092 (by decide +kernel) rfl, px_mem 1093 (by decide +kernel) rfl⟩
theorem L_RX5_167 : px_lkV RX5 167 3 mX5_isReduced := ⟨⟨px_mem 45 (by decide +kernel) rfl, W_mX5_isReduced, ⟨by decide, by decide⟩, by decide +kernel, by decide⟩, rfl, px_mem 1095 (by decide +kernel) rfl, px_mem 1097 (by decide +kernel) rfl, px_mem 35 (by decide +kernel) rfl⟩
theorem L_RX5_163 : px_lkV RX5 163 2 mX5_isEdge := ⟨⟨px_mem 45 (by decide +kernel) rfl, W_mX5_isEdge, ⟨by decide, by decide⟩, by decide +kernel, by decide⟩, rfl, px_mem 1099 (by decide +kernel) rfl, px_mem 1101 (by decide +kernel) rfl, px_mem 36 (by decide +kernel) rfl⟩
theorem L_RL_120 : px_lkV RL 120 3 mX5_reduced := ⟨⟨px_mem 45 (by decide +kernel) rfl, W_mX5_reduced, ⟨by decide, by decide⟩, by decide +kernel, by decide⟩, rfl, px_mem 1103 (by decide +kernel) rfl, px_mem 1104 (by decide +kernel) rfl, px_mem 1105 (by decide +kernel) rfl⟩
theorem D_RX5_171 : Cond.constantDouble RX5 171 13830554455654793216 ∈ px_T := px_mem 1107 (by decide +kernel) rfl
theorem L_RL_116 : px_lkV RL 116 2 mX5_into := ⟨⟨px_mem 45 (by decide +kernel) rfl, W_mX5_into, ⟨by decide, by decide⟩, by decide +kernel, by decide⟩, rfl, px_mem 1108 (by decide +kernel) rfl, px_mem 1109 (by decide +kernel) rfl, px_mem 1110 (by decide +kernel) rfl⟩
theorem L_RL_127 : px_lkV RL 127 2 mX5_whatIf := ⟨⟨px_mem 45 (by decide +kernel) rfl, W_mX5_whatIf, ⟨by decide, by decide⟩, by decide +kernel, by decide⟩, rfl, px_mem 1112 (by decide +kernel) rfl, px_mem 1113 (by decide +kernel) rfl, px_mem 1114 (by decide +kernel) rfl⟩
theorem L_RL_132 : px_lkV RL 132 0 mX5_back := ⟨⟨px_mem 45 (by decide +kernel) rfl, W_mX5_back, ⟨by decide, by decide⟩, by decide +kernel, by decide⟩, rfl, px_mem 1116 (by decide +kernel) rfl, px_mem 1117 (by decide +kernel) rfl, px_mem 1118 (by decide +kernel) rfl⟩
theorem D_RL_80 : Cond.constantDouble RL 80 4593671619917905920 ∈ px_T := px_mem 1120 (by decide +kernel) rfl
theorem A_long : Cond.arrayClass Jvm.ClassFile.FieldType.long ∈ px_T := px_mem 1121 (by decide +kernel) rfl
theorem N_RX0 : Cond.instantiable RX0 2 ∈ px_T := px_mem 874 (by decide +kernel) rfl
theorem Z_RX0 : Cond.initialized RX0 ∈ px_T := px_mem 65 (by decide +kernel) rfl
theorem N_RX1 : Cond.instantiable RX1 7 ∈ px_T := px_mem 101 (by decide +kernel) rfl
theorem Z_RX1 : Cond.initialized RX1 ∈ px_T := px_mem 42 (by decide +kernel) rfl
theorem N_RX2 : Cond.instantiable RX2 6 ∈ px_T := px_mem 691 (by decide +kernel) rfl
theorem Z_RX2 : Cond.initialized RX2 ∈ px_T := px_mem 64 (by decide +kernel) rfl
theorem N_RX3 : Cond.instantiable RX3 5 ∈ px_T := px_mem 110 (by decide +kernel) rfl
theorem Z_RX3 : Cond.initialized RX3 ∈ px_T := px_mem 43 (by decide +kernel) rfl
theorem N_RX4 : Cond.instantiable RX4 11 ∈ px_T := px_mem 67 (by decide +kernel) rfl
theorem Z_RX4 : Cond.initialized RX4 ∈ px_T := px_mem 38 (by decide +kernel) rfl
theorem N_RX5 : Cond.instantiable RX5 31 ∈ px_T := px_mem 889 (by decide +kernel) rfl
theorem Z_RX5 : Cond.initialized RX5 ∈ px_T := px_mem 45 (by decide +kernel) rfl
theorem N_RJx4a65c : Cond.instantiable RJx4a65c 3 ∈ px_T := px_mem 75 (by decide +kernel) rfl
theorem Z_RJx4a65c : Cond.initialized RJx4a65c ∈ px_T := px_mem 41 (by decide +kernel) rfl
theorem nf_1_3 : px_nf 1 3 := fun q h => by cases h; rfl
theorem nf_1_4 : px_nf 1 4 := fun q h => by cases h; rfl
theorem nf_1_5 : px_nf 1 5 := fun q h => by cases h; rfl
theorem nf_1_6 : px_nf 1 6 := fun q h => by cases h; rfl
theorem nf_2_3 : px_nf 2 3 := fun q h => by cases h; rfl
theorem nf_2_4 : px_nf 2 4 := fun q h => by cases h; rfl
theorem nf_2_5 : px_nf 2 5 := fun q h => by cases h; rfl
theorem nf_3_4 : px_nf 3 4 := fun q h => by cases h; rfl
theorem nf_4_10 : px_nf 4 10 := fun q h => by cases h; rfl
theorem nf_5_0 : px_nf 5 0 := fun q h => by cases h; rfl
theorem nf_5_1 : px_nf 5 1 := fun q h => by cases h; rfl
theorem nf_5_6 : px_nf 5 6 := fun q h => by cases h; rfl
theorem nf_5_9 : px_nf 5 9 := fun q h => by cases h; rfl
theorem nf_5_13 : px_nf 5 13 := fun q h => by cases h; rfl
theorem nf_5_17 : px_nf 5 17 := fun q h => by cases h; rfl
theorem nf_5_24 : px_nf 5 24 := fun q h => by cases h; rfl
theorem nf_5_25 : px_nf 5 25 := fun q h => by cases h; rfl
theorem nf_6_0 : px_nf 6 0 := fun q h => by cases h; rfl
theorem nf_6_1 : px_nf 6 1 := fun q h => by cases h; rfl
theorem nf_6_2 : px_nf 6 2 := fun q h => by cases h; rfl
end
section
/-! ===== times: doubles that are whole numbers of 1/8 ===== -/
section FPZ
def dz_sc : FP.Core.Datum → FP.Core.Datum
  | .fin s c q => .fin s c (q + 3)
  | d => d
/-- the double k/8 -/
def dz (k : Int) : UInt64 := FP.Core.of64 (FP.Core.roundRatio FP.Core.b64 (decide (k < 0)) k.natAbs 1 (-3))
def dz_is (k : Int) (a : UInt64) : Prop := FP.Core.Whole k (dz_sc (FP.Core.val64 a))
theorem dz_val (k : Int) : FP.Core.val64 (dz k) = FP.Core.roundRatio FP.Core.b64 (decide (k < 0)) k.natAbs 1 (-3) := FP.Core.val64_of64 (FP.Core.roundRatio_fits FP.Core.good_b64 _ _ (by decide) _)
/-- a datum that is k/8 rounds to dz k's, but for the sign of 0 -/
theorem dz_round {k : Int} {s : Bool} {c : Nat} {q : Int} (h : FP.Core.Whole k (dz_sc (.fin s c q))) : FP.Core.round FP.Core.b64 (.fin s c q) = FP.Core.roundRatio FP.Core.b64 s k.natAbs 1 (-3) := by
  have h1 := FP.Core.whole_natAbs h
  refine FP.Core.roundRatio_congr (by decide) (by decide) ?_
  rw [show (q - -3).toNat = (q + 3).toNat by omega, show (-3 - q).toNat = (-(q + 3)).toNat by omega, Nat.mul_one, Nat.mul_one]
  exact h1
theorem dz_eq {k : Int} {d : FP.Core.Datum} {a : UInt64} (ha : FP.Core.val64 a = FP.Core.round FP.Core.b64 d) (h : FP.Core.Whole k (dz_sc d)) (h0 : ∀ s c q, d = .fin s c q → k = 0 → s = false) : a = dz k := by
  cases d with
  | nan => exact h.elim
  | inf => exact h.elim
  | fin s c q =>
    have hs : s = decide (k < 0) := by
      by_cases hk : k = 0
      · rw [h0 s c q rfl hk, hk]; rfl
      · exact FP.Core.whole_sign h hk
    have e : FP.Core.val64 a = FP.Core.val64 (dz k) := by rw [ha, dz_round h, dz_val, hs]
    refine FP.Core.val64_inj ?_ e
    rw [e, dz_val]
    unfold FP.Core.roundRatio
    split
    · exact fun z => by cases z
    · unfold FP.Core.roundAt FP.Core.settle FP.Core.bound
      split <;> split <;> exact fun z => by cases z
theorem dz_is_dz {k : Int} (h : k.natAbs ≤ 2 ^ 53) : dz_is k (dz k) := by
  unfold dz_is
  rw [dz_val]
  obtain ⟨c', q', hfit, hv⟩ := FP.Core.natFit FP.Core.good_b64 FP.Core.wide_b64 (decide (k < 0)) (show k.natAbs ≤ 2 ^ FP.Core.b64.p from h)
  by_cases hk : k = 0
  · subst hk
    have e : FP.Core.roundRatio FP.Core.b64 (decide ((0 : Int) < 0)) (0 : Int).natAbs 1 (-3) = .fin false 0 FP.Core.b64.qmin := by decide +kernel
    rw [e]
    show FP.Core.signed false (0 * _) = 0 * _
    simp [FP.Core.signed]
  · have hn : 0 < k.natAbs := by omega
    have hq : -53 < q' ∧ q' ≤ 1 := by
      obtain ⟨f1, f2, f3, f4⟩ := hfit
      have hp : FP.Core.b64.p = 53 := rfl
      rw [hp] at f1
      constructor
      · refine Int.lt_of_not_ge fun hge => ?_
        rw [show (q' - 0).toNat = 0 by omega, Nat.pow_zero, Nat.mul_one, Nat.mul_one] at hv
        have h3 : 2 ^ 53 ≤ 2 ^ (0 - q').toNat := Nat.pow_le_pow_right (by decide) (by omega)
        have h4 : 1 * 2 ^ (0 - q').toNat ≤ k.natAbs * 2 ^ (0 - q').toNat := Nat.mul_le_mul_right _ hn
        omega
      · refine Int.le_of_not_gt fun hgt => ?_
        have h6 : FP.Core.b64.tails ≤ c' := by
          rcases f4 with f4 | f4
          · have : FP.Core.b64.qmin = -1074 := by decide
            omega
          · exact f4
        have h7 : FP.Core.b64.tails = 2 ^ 52 := by decide
        rw [show (0 - q').toNat = 0 by omega, Nat.pow_zero, Nat.mul_one, Nat.mul_one] at hv
        have h3 : 2 ^ 2 ≤ 2 ^ (q' - 0).toNat := Nat.pow_le_pow_right (by decide) (by omega)
        have h4 : 2 ^ 52 * 2 ^ 2 ≤ c' * 2 ^ (q' - 0).toNat := Nat.mul_le_mul (by omega) h3
        omega
    have hfit2 : FP.Core.fits FP.Core.b64 (.fin (decide (k < 0)) c' (q' - 3)) := by
      obtain ⟨f1, f2, f3, f4⟩ := hfit
      have e1 : FP.Core.b64.qmin = -1074 := by decide
      have e2 : FP.Core.b64.qmax = 971 := by decide
      refine ⟨f1, by omega, by omega, Or.inr ?_⟩
      rcases f4 with f4 | f4
      · omega
      · exact f4
    rw [FP.Core.roundRatio_exact (c := c') (q := q' - 3) FP.Core.good_b64 (by decide) hfit2 (by rw [show (-3 - (q' - 3)).toNat = (0 - q').toNat by omega, show (q' - 3 - -3).toNat = (q' - 0).toNat by omega]; exact hv)]
    show FP.Core.signed _ (c' * 2 ^ (q' - 3 + 3).toNat) = k * ((2 ^ (-(q' - 3 + 3)).toNat : Nat) : Int)
    rw [show q' - 3 + 3 = q' by omega]
    rw [show (0 - q').toNat = (-q').toNat by omega, show (q' - 0).toNat = q'.toNat by omega, Nat.mul_one] at hv
    rw [← hv, FP.Core.signed_mul]
    congr 1
    unfold FP.Core.signed
    by_cases h : k < 0
    · rw [decide_eq_true h]; simp; omega
    · rw [decide_eq_false h]; simp; omega
theorem dz_sc_sum (x y : FP.Core.Datum) : dz_sc (FP.Core.exactSum x y) = FP.Core.exactSum (dz_sc x) (dz_sc y) := by
  cases x with
  | nan => rfl
  | inf s =>
    cases y with
    | nan => rfl
    | inf t => by_cases h : s = t <;> simp [FP.Core.exactSum, dz_sc, h]
    | fin t d r => rfl
  | fin s c q =>
    cases y with
    | nan => rfl
    | inf t => rfl
    | fin t d r =>
      have e : min (q + 3) (r + 3) = min q r + 3 := by omega
      have e1 : q + 3 - (min q r + 3) = q - min q r := by omega
      have e2 : r + 3 - (min q r + 3) = r - min q r := by omega
      simp only [FP.Core.exactSum, dz_sc, e, FP.Core.sumUnits, FP.Core.inUnits, e1, e2]
theorem dz_sc_neg (x : FP.Core.Datum) : dz_sc (FP.Core.negate x) = FP.Core.negate (dz_sc x) := by cases x <;> rfl
/-- the sign of dz k's datum -/
theorem dz_sign {k : Int} {s : Bool} {c : Nat} {q : Int} (h : FP.Core.val64 (dz k) = .fin s c q) : s = decide (k < 0) := by
  rw [dz_val] at h
  unfold FP.Core.roundRatio at h
  split at h
  · cases h; rfl
  · unfold FP.Core.roundAt FP.Core.settle FP.Core.bound at h
    split at h <;> split at h <;> first | (cases h; done) | (cases h; rfl)
theorem dz_add {a b : Int} (ha : a.natAbs ≤ 2 ^ 53) (hb : b.natAbs ≤ 2 ^ 53) : FP.dadd (dz a) (dz b) = dz (a + b) := by
  refine dz_eq (FP.Core.val64_dadd _ _) ?_ fun s c q h h0 => ?_
  · rw [dz_sc_sum]; exact FP.Core.whole_sum (dz_is_dz ha) (dz_is_dz hb)
  · have h1 := dz_is_dz ha
    have h2 := dz_is_dz hb
    unfold dz_is at h1 h2
    cases e1 : FP.Core.val64 (dz a) with
    | nan => rw [e1] at h1; exact h1.elim
    | inf => rw [e1] at h1; exact h1.elim
    | fin s1 c1 q1 =>
      cases e2 : FP.Core.val64 (dz b) with
      | nan => rw [e2] at h2; exact h2.elim
      | inf => rw [e2] at h2; exact h2.elim
      | fin s2 c2 q2 =>
        rw [e1, e2] at h
        have hw : FP.Core.Whole (a + b) (dz_sc (.fin s c q)) := by rw [← h, dz_sc_sum, ← e1, ← e2]; exact FP.Core.whole_sum h1 h2
        have hc0 : c = 0 := (FP.Core.whole_zero hw).mpr h0
        simp only [FP.Core.exactSum, FP.Core.Datum.fin.injEq] at h
        obtain ⟨g1, g2, -⟩ := h
        rw [← g1]
        unfold FP.Core.sumSign
        rw [if_pos (by omega), dz_sign e1, dz_sign e2]
        by_cases z : a < 0
        · rw [show decide (b < 0) = false by simp; omega]; simp
        · simp [z]
theorem dz_sub {a b : Int} (ha : a.natAbs ≤ 2 ^ 53) (hb : b.natAbs ≤ 2 ^ 53) : FP.dsub (dz a) (dz b) = dz (a - b) := by
  refine dz_eq (FP.Core.val64_dsub _ _) ?_ fun s c q h h0 => ?_
  · rw [dz_sc_sum, dz_sc_neg]; exact FP.Core.whole_sum (dz_is_dz ha) (FP.Core.whole_negate (dz_is_dz hb))
  · have h1 := dz_is_dz ha
    have h2 := dz_is_dz hb
    unfold dz_is at h1 h2
    cases e1 : FP.Core.val64 (dz a) with
    | nan => rw [e1] at h1; exact h1.elim
    | inf => rw [e1] at h1; exact h1.elim
    | fin s1 c1 q1 =>
      cases e2 : FP.Core.val64 (dz b) with
      | nan => rw [e2] at h2; exact h2.elim
      | inf => rw [e2] at h2; exact h2.elim
      | fin s2 c2 q2 =>
        rw [e1, e2] at h
        have hw : FP.Core.Whole (a - b) (dz_sc (.fin s c q)) := by rw [← h, dz_sc_sum, dz_sc_neg, ← e1, ← e2]; exact FP.Core.whole_sum h1 (FP.Core.whole_negate h2)
        have hc0 : c = 0 := (FP.Core.whole_zero hw).mpr h0
        simp only [FP.Core.exactSum, FP.Core.negate, FP.Core.Datum.fin.injEq] at h
        obtain ⟨g1, g2, -⟩ := h
        rw [← g1]
        unfold FP.Core.sumSign
        rw [if_pos (by omega), dz_sign e1, dz_sign e2]
        by_cases z : a < 0
        · rw [show decide (b < 0) = true by simp; omega]; simp
        · simp [z]
theorem dz_num {a : UInt64} (h : FP.Core.val64 a ≠ .nan) : vf_n64 a := by
  unfold vf_n64
  rw [UInt64.le_iff_toNat_le, UInt64.toNat_and]
  have e1 : (0x7fffffffffffffff : UInt64).toNat = 2 ^ 63 - 1 := by decide
  have e2 : (0x7ff0000000000000 : UInt64).toNat = 9218868437227405312 := by decide
  rw [e1, e2, Nat.and_two_pow_sub_one_eq_mod]
  unfold FP.Core.val64 FP.Core.decode at h
  have t1 : FP.Core.b64.tails = 4503599627370496 := by decide
  have t2 : FP.Core.b64.exps = 2048 := by decide
  simp only [FP.Core.fieldE, FP.Core.fieldT, t1, t2] at h
  have hlt := a.toNat_lt
  split at h
  · split at h
    · omega
    · exact absurd rfl h
  · omega
theorem dz_isnum {k : Int} {a : UInt64} (h : dz_is k a) : FP.Core.val64 a ≠ .nan := fun e => by unfold dz_is at h; rw [e] at h; exact h.elim
theorem dz_vf {k : Int} (h : k.natAbs ≤ 2 ^ 53) : vf_n64 (dz k) := dz_num (dz_isnum (dz_is_dz h))
theorem dz_order (x y : FP.Core.Datum) : FP.Core.order (dz_sc x) (dz_sc y) = FP.Core.order x y := by
  cases x with
  | nan => rfl
  | inf s => cases y <;> rfl
  | fin s c q =>
    cases y with
    | nan => rfl
    | inf t => rfl
    | fin t d r =>
      have e : min (q + 3) (r + 3) = min q r + 3 := by omega
      have e1 : q + 3 - (min q r + 3) = q - min q r := by omega
      have e2 : r + 3 - (min q r + 3) = r - min q r := by omega
      simp only [FP.Core.order, dz_sc, e, FP.Core.inUnits, e1, e2]
theorem dz_cmp0 {a b : Int} (ha : a.natAbs ≤ 2 ^ 53) (hb : b.natAbs ≤ 2 ^ 53) : FP.dcmp (dz a) (dz b) = some (compare a b) := by
  show FP.Core.order (FP.Core.val64 (dz a)) (FP.Core.val64 (dz b)) = _
  rw [← dz_order]
  exact FP.Core.order_whole (dz_is_dz ha) (dz_is_dz hb)
/-- what dcmpl and dcmpg push -/
def dz_c (a b : Int) : Int32 := if a < b then -1 else if a = b then 0 else 1
theorem dz_cmp {a b : Int} (op : CmpOp) (ha : a.natAbs ≤ 2 ^ 53) (hb : b.natAbs ≤ 2 ^ 53) : Op.cmpValue (FP.dcmp (dz a) (dz b)) op = dz_c a b := by
  rw [dz_cmp0 ha hb]
  unfold dz_c
  by_cases h1 : a < b
  · rw [if_pos h1, Int.compare_eq_lt.mpr h1]; rfl
  · rw [if_neg h1]
    by_cases h2 : a = b
    · rw [if_pos h2, h2, Int.compare_eq_eq.mpr rfl]; rfl
    · rw [if_neg h2, Int.compare_eq_gt.mpr (by omega)]; rfl
theorem dz_c_eq (a b : Int) : dz_c a b = 0 ↔ a = b := by
  unfold dz_c
  by_cases h1 : a < b
  · rw [if_pos h1]; exact ⟨fun h => absurd h (by decide), fun h => by omega⟩
  · rw [if_neg h1]
    by_cases h2 : a = b
    · rw [if_pos h2]; exact ⟨fun _ => h2, fun _ => rfl⟩
    · rw [if_neg h2]; exact ⟨fun h => absurd h (by decide), fun h => absurd h h2⟩
theorem dz_c_lt (a b : Int) : dz_c a b < 0 ↔ a < b := by
  unfold dz_c
  by_cases h1 : a < b
  · rw [if_pos h1]; exact ⟨fun _ => h1, fun _ => by decide⟩
  · rw [if_neg h1]
    by_cases h2 : a = b
    · rw [if_pos h2]; exact ⟨fun h => absurd h (by decide), fun h => absurd h h1⟩
    · rw [if_neg h2]; exact ⟨fun h => absurd h (by decide), fun h => absurd h h1⟩
theorem dz_c_gt (a b : Int) : 0 < dz_c a b ↔ b < a := by
  unfold dz_c
  by_cases h1 : a < b
  · rw [if_pos h1]; exact ⟨fun h => absurd h (by decide), fun h => by omega⟩
  · rw [if_neg h1]
    by_cases h2 : a = b
    · rw [if_pos h2]; exact ⟨fun h => absurd h (by decide), fun h => by omega⟩
    · rw [if_neg h2]; exact ⟨fun _ => by omega, fun _ => by decide⟩
theorem dz_c_le (a b : Int) : dz_c a b ≤ 0 ↔ a ≤ b := by
  unfold dz_c
  by_cases h1 : a < b
  · rw [if_pos h1]; exact ⟨fun _ => by omega, fun _ => by decide⟩
  · rw [if_neg h1]
    by_cases h2 : a = b
    · rw [if_pos h2]; exact ⟨fun _ => by omega, fun _ => by decide⟩
    · rw [if_neg h2]; exact ⟨fun h => absurd h (by decide), fun h => by omega⟩
theorem dz_c_ge (a b : Int) : 0 ≤ dz_c a b ↔ b ≤ a := by
  unfold dz_c
  by_cases h1 : a < b
  · rw [if_pos h1]; exact ⟨fun h => absurd h (by decide), fun h => by omega⟩
  · rw [if_neg h1]
    by_cases h2 : a = b
    · rw [if_pos h2]; exact ⟨fun _ => by omega, fun _ => by decide⟩
    · rw [if_neg h2]; exact ⟨fun _ => by omega, fun _ => by decide⟩
theorem dz_0 : FP.dconst0 = dz 0 := by decide +kernel
theorem dz_z : (0 : UInt64) = dz 0 := by decide +kernel
theorem dz_m1 : (13830554455654793216 : UInt64) = dz (-8) := by decide +kernel
theorem dz_top : (4697254411347427328 : UInt64) = dz 8388608 := by decide +kernel
theorem dz_bot : (13920626448202203136 : UInt64) = dz (-8388608) := by decide +kernel
theorem dz_w1 : FP.Core.Whole 1 (.fin false (2 ^ 52) (-52)) := by
  show FP.Core.signed false (2 ^ 52 * 2 ^ (-52 : Int).toNat) = 1 * ((2 ^ (- -52 : Int).toNat : Nat) : Int)
  decide +kernel
/-- times 8, as a whole number -/
theorem dz_sc_mul8 (x : FP.Core.Datum) : FP.Core.exactProduct x (.fin false (2 ^ 52) (-49)) = (match x with | .fin s c q => .fin s (c * 2 ^ 52) (q + -49) | .inf s => .inf s | .nan => .nan) := by
  cases x with
  | nan => rfl
  | inf s => cases s <;> rfl
  | fin s c q => cases s <;> rfl
theorem dz_mul8 {a : Int} (ha : a.natAbs ≤ 2 ^ 53) : FP.Core.DInt a (FP.dmul (dz a) 4620693217682128896) := by
  show FP.Core.Whole a (FP.Core.val64 (FP.Core.dmul (dz a) 4620693217682128896))
  rw [FP.Core.val64_dmul, show FP.Core.val64 4620693217682128896 = .fin false (2 ^ 52) (-49) by decide +kernel, dz_sc_mul8]
  refine FP.Core.whole_round FP.Core.good_b64 FP.Core.wide_b64 (show a.natAbs ≤ 2 ^ 53 from ha) ?_
  have h1 := dz_is_dz ha
  unfold dz_is at h1
  cases e1 : FP.Core.val64 (dz a) with
  | nan => rw [e1] at h1; exact h1.elim
  | inf => rw [e1] at h1; exact h1.elim
  | fin s c q =>
    rw [e1] at h1
    have h2 : FP.Core.Whole a (FP.Core.exactProduct (.fin s c (q + 3)) (.fin false (2 ^ 52) (-52))) := by
      have h3 := FP.Core.whole_product (j := 1) h1 (y := .fin false (2 ^ 52) (-52)) dz_w1
      rw [Int.mul_one] at h3
      exact h3
    have e3 : FP.Core.exactProduct (.fin s c (q + 3)) (.fin false (2 ^ 52) (-52)) = .fin s (c * 2 ^ 52) (q + -49) := by
      show FP.Core.Datum.fin (s != false) (c * 2 ^ 52) (q + 3 + -52) = _
      rw [show q + 3 + -52 = q + -49 by omega]
      cases s <;> rfl
    rw [e3] at h2
    exact h2
/-- an int times 0.125 -/
theorem dz_of_int (x : Int32) : FP.dmul (FP.i2d x) 4593671619917905920 = dz x.toInt := by
  have hx := FP.Core.i2d_int x
  unfold FP.Core.DInt at hx
  refine dz_eq (FP.Core.val64_dmul _ _) ?_ fun s c q h h0 => ?_
  · rw [show FP.Core.val64 4593671619917905920 = .fin false (2 ^ 52) (-55) by decide +kernel]
    cases e1 : FP.Core.val64 (FP.i2d x) with
    | nan => rw [show FP.Core.val64 (FP.Core.i2d x) = _ from e1] at hx; exact hx.elim
    | inf => rw [show FP.Core.val64 (FP.Core.i2d x) = _ from e1] at hx; exact hx.elim
    | fin s c q =>
      rw [show FP.Core.val64 (FP.Core.i2d x) = _ from e1] at hx
      have h3 := FP.Core.whole_product (j := 1) hx (y := .fin false (2 ^ 52) (-52)) dz_w1
      rw [Int.mul_one] at h3
      have e3 : dz_sc (FP.Core.exactProduct (.fin s c q) (.fin false (2 ^ 52) (-55))) = FP.Core.exactProduct (.fin s c q) (.fin false (2 ^ 52) (-52)) := by
        show FP.Core.Datum.fin (s != false) (c * 2 ^ 52) (q + -55 + 3) = FP.Core.Datum.fin (s != false) (c * 2 ^ 52) (q + -52)
        rw [show q + -55 + 3 = q + -52 by omega]
      rw [e3]; exact h3
  · rw [show FP.Core.val64 4593671619917905920 = .fin false (2 ^ 52) (-55) by decide +kernel] at h
    have e0 : x = 0 := by
      have h9 : x.toInt = (0 : Int32).toInt := h0
      exact Int32.toInt_inj.mp h9
    subst e0
    rw [show FP.Core.val64 (FP.i2d 0) = .fin false 0 (-1074) by decide +kernel] at h
    have h8 : FP.Core.Datum.fin (false != false) (0 * 2 ^ 52) (-1074 + -55) = .fin s c q := h
    cases h8; rfl
theorem dz_i2d_num (x : Int32) : vf_n64 (FP.dmul (FP.i2d x) 4593671619917905920) := by
  rw [dz_of_int]
  refine dz_vf ?_
  have h1 := x.toInt_lt
  have h2 := x.le_toInt
  omega
end FPZ
end
section
/-! ===== the reference's world: scalars, rows of numbers, rows of times, each by its field's number ===== -/
/-- -1, or a number -/
def px_o : Nat → Int32
  | 0 => -1
  | n + 1 => nI n
theorem px_o_eq {a b : Nat} (ha : a < 2 ^ 31) (hb : b < 2 ^ 31) : px_o a = px_o b ↔ a = b := by
  cases a with
  | zero =>
    cases b with
    | zero => simp
    | succ b => exact ⟨fun h => absurd (show nI b < 0 by rw [show nI b = -1 from h.symm]; decide) (nI_pos (by omega)), fun h => by omega⟩
  | succ a =>
    cases b with
    | zero => exact ⟨fun h => absurd (show nI a < 0 by rw [show nI a = -1 from h]; decide) (nI_pos (by omega)), fun h => by omega⟩
    | succ b =>
      show nI a = nI b ↔ _
      rw [nI_eq (by omega) (by omega)]; omega
theorem px_o_no {a : Nat} (ha : a < 2 ^ 31) : px_o a = -1 ↔ a = 0 := px_o_eq (b := 0) ha (by omega)
theorem px_o_nI {a b : Nat} (ha : a < 2 ^ 31) (hb : b < 2 ^ 31) : px_o a = nI b ↔ a = b + 1 := by
  rcases Nat.lt_or_ge (b + 1) (2 ^ 31) with h | h
  · exact px_o_eq (b := b + 1) ha h
  · cases a with
    | zero => exact ⟨fun z => absurd (show nI b < 0 by rw [← z]; decide) (nI_pos hb), fun z => by omega⟩
    | succ a =>
      show nI a = nI b ↔ _
      rw [nI_eq (by omega) hb]; omega
abbrev mm_S : Type := (Nat → Nat) × (Nat → Nat → Nat) × (Nat → Nat → Int)
def px_upN {α : Type} (f : Nat → α) (j : Nat) (x : α) : Nat → α := fun i => if i = j then x else f i
def mm_I (s : mm_S) (k x : Nat) : mm_S := (px_upN s.1 k x, s.2)
def mm_A (s : mm_S) (k j x : Nat) : mm_S := (s.1, px_upN s.2.1 k (px_upN (s.2.1 k) j x), s.2.2)
def mm_D (s : mm_S) (k j : Nat) (x : Int) : mm_S := (s.1, s.2.1, px_upN s.2.2 k (px_upN (s.2.2 k) j x))
/-- a field's row: 1 numbers, 2 times, 3 true or false, 4 numbers or -1; and how long -/
def mm_kd : Nat → Nat × Nat
  | 0 => (9, 0)
  | 2 => (4, 60)
  | 3 => (1, 150)
  | 4 => (1, 150)
  | 5 => (2, 150)
  | 7 => (1, 30)
  | 8 => (2, 30)
  | 10 => (1, 30)
  | 11 => (2, 30)
  | 12 => (1, 30)
  | 14 => (4, 10)
  | 15 => (1, 50)
  | 16 => (2, 50)
  | 18 => (4, 26401)
  | 19 => (1, 26401)
  | 20 => (2, 26401)
  | 21 => (1, 660)
  | 22 => (1, 321)
  | 23 => (1, 321)
  | 26 => (3, 60)
  | 27 => (1, 64)
  | 28 => (1, 64)
  | 29 => (1, 60)
  | 30 => (2, 60)
  | _ => (0, 0)
def mm_obj (f : Nat → Nat) : List px_V := [.inl (.int (nI (f 0))), .inl (.int (nI (f 1))), .inr (1, 2), .inr (1, 3), .inr (1, 4), .inr (1, 5), .inl (.int (nI (f 6))), .inr (1, 7), .inr (1, 8), .inl (.int (nI (f 9))), .inr (1, 10), .inr (1, 11), .inr (1, 12), .inl (.int (nI (f 13))), .inr (1, 14), .inr (1, 15), .inr (1, 16), .inl (.int (nI (f 17))), .inr (1, 18), .inr (1, 19), .inr (1, 20), .inr (1, 21), .inr (1, 22), .inr (1, 23), .inl (.int (nI (f 24))), .inl (.int (nI (f 25))), .inr (1, 26), .inr (1, 27), .inr (1, 28), .inr (1, 29), .inr (1, 30)]
def mm_cell (s : mm_S) (k : Nat) : Option px_O := match mm_kd k with
  | (1, n) => some (.inr (.inl (0, n, .inl fun j => nI (s.2.1 k j))))
  | (2, n) => some (.inr (.inl (1, n, .inr (.inr (.inl fun j => dz (s.2.2 k j))))))
  | (3, n) => some (.inr (.inl (2, n, .inl fun j => nI (s.2.1 k j))))
  | (4, n) => some (.inr (.inl (0, n, .inl fun j => px_o (s.2.1 k j))))
  | (9, _) => some (.inl (5, mm_obj s.1))
  | _ => none
def mm_M (s : mm_S) (X : px_M) : px_M := fun r => if r.1 = 1 then mm_cell s r.2 else X r
theorem mm_M1 (s : mm_S) (X : px_M) (k : Nat) : mm_M s X (1, k) = mm_cell s k := if_pos rfl
theorem mm_cell1 {s : mm_S} {k n : Nat} (h : mm_kd k = (1, n)) : mm_cell s k = some (.inr (.inl (0, n, .inl fun j => nI (s.2.1 k j)))) := by simp only [mm_cell, h]
theorem mm_cell2 {s : mm_S} {k n : Nat} (h : mm_kd k = (2, n)) : mm_cell s k = some (.inr (.inl (1, n, .inr (.inr (.inl fun j => dz (s.2.2 k j)))))) := by simp only [mm_cell, h]
theorem mm_cell3 {s : mm_S} {k n : Nat} (h : mm_kd k = (3, n)) : mm_cell s k = some (.inr (.inl (2, n, .inl fun j => nI (s.2.1 k j)))) := by simp only [mm_cell, h]
theorem mm_cell4 {s : mm_S} {k n : Nat} (h : mm_kd k = (4, n)) : mm_cell s k = some (.inr (.inl (0, n, .inl fun j => px_o (s.2.1 k j)))) := by simp only [mm_cell, h]
theorem mm_cell_congr {s s' : mm_S} {k : Nat} (h0 : mm_kd k = (9, 0) → s'.1 = s.1) (h1 : s'.2.1 k = s.2.1 k) (h2 : s'.2.2 k = s.2.2 k) : mm_cell s' k = mm_cell s k := by
  unfold mm_cell
  split
  · rw [h1]
  · rw [h2]
  · rw [h1]
  · rw [h1]
  · rename_i n h9
    rw [h0 (by
      have : n = 0 := by
        unfold mm_kd at h9
        split at h9 <;> first | (cases h9; rfl) | (simp at h9)
      rw [h9, this])]
  · rfl
theorem mm_up {s s' : mm_S} {X : px_M} {k : Nat} {o : px_O} (h : mm_cell s' k = some o) (hn : ∀ j, j ≠ k → mm_cell s' j = mm_cell s j) : px_up (mm_M s X) (1, k) o = mm_M s' X := by
  funext r
  obtain ⟨a, b⟩ := r
  by_cases ha : a = 1
  · subst ha
    by_cases hb : b = k
    · subst hb
      rw [px_up_s, mm_M1, h]
    · rw [px_up_n _ _ (fun z => hb (congrArg Prod.snd z)), mm_M1, mm_M1, hn b hb]
  · rw [px_up_n _ _ (fun z => ha (congrArg Prod.fst z))]
    show (if a = 1 then _ else _) = (if a = 1 then _ else _)
    rw [if_neg ha, if_neg ha]
theorem mm_kd0 {k : Nat} (h : mm_kd k = (9, 0)) : k = 0 := by
  unfold mm_kd at h
  split at h <;> first | rfl | (simp at h)
theorem mm_upA {s : mm_S} {X : px_M} {k n j x : Nat} (h : mm_kd k = (1, n)) : px_up (mm_M s X) (1, k) (.inr (.inl (0, n, .inl (upd (fun j => nI (s.2.1 k j)) j (nI x))))) = mm_M (mm_A s k j x) X := by
  refine mm_up ?_ fun i hi => mm_cell_congr (fun _ => rfl) (if_neg hi) rfl
  rw [mm_cell1 h]
  refine congrArg (fun f => some (Sum.inr (Sum.inl (0, n, Sum.inl f)))) (funext fun i => ?_)
  by_cases e : i = j <;> simp [mm_A, px_upN, upd, e]
theorem mm_upZ {s : mm_S} {X : px_M} {k n j x : Nat} (h : mm_kd k = (3, n)) : px_up (mm_M s X) (1, k) (.inr (.inl (2, n, .inl (upd (fun j => nI (s.2.1 k j)) j (nI x))))) = mm_M (mm_A s k j x) X := by
  refine mm_up ?_ fun i hi => mm_cell_congr (fun _ => rfl) (if_neg hi) rfl
  rw [mm_cell3 h]
  refine congrArg (fun f => some (Sum.inr (Sum.inl (2, n, Sum.inl f)))) (funext fun i => ?_)
  by_cases e : i = j <;> simp [mm_A, px_upN, upd, e]
theorem mm_upO {s : mm_S} {X : px_M} {k n j x : Nat} (h : mm_kd k = (4, n)) : px_up (mm_M s X) (1, k) (.inr (.inl (0, n, .inl (upd (fun j => px_o (s.2.1 k j)) j (px_o x))))) = mm_M (mm_A s k j x) X := by
  refine mm_up ?_ fun i hi => mm_cell_congr (fun _ => rfl) (if_neg hi) rfl
  rw [mm_cell4 h]
  refine congrArg (fun f => some (Sum.inr (Sum.inl (0, n, Sum.inl f)))) (funext fun i => ?_)
  by_cases e : i = j <;> simp [mm_A, px_upN, upd, e]
theorem mm_upD {s : mm_S} {X : px_M} {k n j : Nat} {x : Int} (h : mm_kd k = (2, n)) : px_up (mm_M s X) (1, k) (.inr (.inl (1, n, .inr (.inr (.inl (vf_upd (fun j => dz (s.2.2 k j)) j (dz x))))))) = mm_M (mm_D s k j x) X := by
  refine mm_up ?_ fun i hi => mm_cell_congr (fun _ => rfl) rfl (if_neg hi)
  rw [mm_cell2 h]
  refine congrArg (fun f => some (Sum.inr (Sum.inl (1, n, Sum.inr (Sum.inr (Sum.inl f)))))) (funext fun i => ?_)
  by_cases e : i = j <;> simp [mm_D, px_upN, vf_upd, e]
theorem mm_upI {s : mm_S} {X : px_M} {k x : Nat} (h : (mm_obj s.1).set k (.inl (.int (nI x))) = mm_obj (px_upN s.1 k x)) : px_up (mm_M s X) (1, 0) (.inl (5, (mm_obj s.1).set k (.inl (.int (nI x))))) = mm_M (mm_I s k x) X := by
  rw [h]
  refine mm_up rfl fun i hi => mm_cell_congr (fun h9 => absurd (mm_kd0 h9) hi) rfl rfl
theorem mm_set (f : Nat → Nat) (x : Nat) : ∀ k ∈ [0, 1, 6, 9, 13, 17, 24, 25], (mm_obj f).set k (.inl (.int (nI x))) = mm_obj (px_upN f k x) := by
  intro k hk
  simp only [List.mem_cons, List.not_mem_nil, or_false] at hk
  rcases hk with rfl | rfl | rfl | rfl | rfl | rfl | rfl | rfl <;> rfl
section MMR
variable {d mc ms : Nat} {Γ : px_Y} {Q : px_Q} {pc : Nat} {lv : List (Nat × px_V)} {st : List px_V} {X : px_M} {s : mm_S} {k n : Nat}
theorem mm_get {index kf : Nat} (hd : decode Γ.2.1 pc = .ok (.getfield index, 3)) (hf : px_fl Γ.1.cls index 5 kf) {v : px_V} (hv : (mm_obj s.1)[kf]? = some v) (kk : px_W d mc ms Γ Q (pc + 3) lv (v :: st) (mm_M s X) k n) : px_W d mc ms Γ Q pc lv (.inr (1, 0) :: st) (mm_M s X) k n :=
  px_getf hd hf (show mm_M s X (1, 0) = some (.inl (5, mm_obj s.1)) from rfl) hv kk
theorem mm_put {index kf x : Nat} (hd : decode Γ.2.1 pc = .ok (.putfield index, 3)) (hf : px_fl Γ.1.cls index 5 kf) (hnf : px_nf 5 kf) (hk : kf ∈ [0, 1, 6, 9, 13, 17, 24, 25]) (hn : narrow (px_fty 5 kf) (.int (nI x)) = .int (nI x) ∧ fits (px_fty 5 kf) (.int (nI x)) = true) (kk : px_W d mc ms Γ Q (pc + 3) lv st (mm_M (mm_I s kf x) X) k n) : px_W d mc ms Γ Q pc lv (.inl (.int (nI x)) :: .inr (1, 0) :: st) (mm_M s X) k n := by
  refine px_putf (v := .inl (.int (nI x))) hd hf hnf (show mm_M s X (1, 0) = some (.inl (5, mm_obj s.1)) from rfl) ?_ (fun _ => hn) ?_
  · simp only [List.mem_cons, List.not_mem_nil, or_false] at hk
    rcases hk with rfl | rfl | rfl | rfl | rfl | rfl | rfl | rfl <;> exact Nat.le_of_ble_eq_true rfl
  · rw [mm_upI (mm_set _ _ kf hk)]; exact kk
theorem mm_gets {index kf x : Nat} (hd : decode Γ.2.1 pc = .ok (.getfield index, 3)) (hf : px_fl Γ.1.cls index 5 kf) (hk : kf ∈ [0, 1, 6, 9, 13, 17, 24, 25]) (hx : s.1 kf = x) (kk : px_W d mc ms Γ Q (pc + 3) lv (.inl (.int (nI x)) :: st) (mm_M s X) k n) : px_W d mc ms Γ Q pc lv (.inr (1, 0) :: st) (mm_M s X) k n := by
  subst hx
  refine mm_get hd hf ?_ kk
  simp only [List.mem_cons, List.not_mem_nil, or_false] at hk
  rcases hk with rfl | rfl | rfl | rfl | rfl | rfl | rfl | rfl <;> rfl
theorem mr_In {s : mm_S} {k x k' : Nat} (h : k' ≠ k) : (mm_I s k x).1 k' = s.1 k' := if_neg h
theorem mr_Ie {s : mm_S} {k x : Nat} : (mm_I s k x).1 k = x := if_pos rfl
theorem mr_A1 {s : mm_S} {k j x i : Nat} : (mm_A s k j x).1 i = s.1 i := rfl
theorem mr_D1 {s : mm_S} {k j i : Nat} {x : Int} : (mm_D s k j x).1 i = s.1 i := rfl
theorem mr_I2 {s : mm_S} {k x f i : Nat} : (mm_I s k x).2.1 f i = s.2.1 f i := rfl
theorem mr_D2 {s : mm_S} {k j f i : Nat} {x : Int} : (mm_D s k j x).2.1 f i = s.2.1 f i := rfl
theorem mr_An {s : mm_S} {k j x f i : Nat} (h : f ≠ k) : (mm_A s k j x).2.1 f i = s.2.1 f i := congrFun (if_neg h) i
theorem mr_Ae {s : mm_S} {k j x : Nat} : (mm_A s k j x).2.1 k j = x := by simp [mm_A, px_upN]
theorem mr_Aj {s : mm_S} {k j x i : Nat} (h : i ≠ j) : (mm_A s k j x).2.1 k i = s.2.1 k i := by simp [mm_A, px_upN, h]
theorem mr_I3 {s : mm_S} {k x f i : Nat} : (mm_I s k x).2.2 f i = s.2.2 f i := rfl
theorem mr_A3 {s : mm_S} {k j x f i : Nat} : (mm_A s k j x).2.2 f i = s.2.2 f i := rfl
theorem mr_Dn {s : mm_S} {k j f i : Nat} {x : Int} (h : f ≠ k) : (mm_D s k j x).2.2 f i = s.2.2 f i := congrFun (if_neg h) i
theorem mr_De {s : mm_S} {k j : Nat} {x : Int} : (mm_D s k j x).2.2 k j = x := by simp [mm_D, px_upN]
theorem mr_Dj {s : mm_S} {k j i : Nat} {x : Int} (h : i ≠ j) : (mm_D s k j x).2.2 k i = s.2.2 k i := by simp [mm_D, px_upN, h]
theorem mm_kdn : ∀ k, (mm_kd k).2 ≤ 65536 := by
  intro k
  unfold mm_kd
  split <;> decide
theorem mm_kdl {k a n : Nat} (h : mm_kd k = (a, n)) : n ≤ 65536 := by have := mm_kdn k; rw [h] at this; exact this
theorem mm_ald {f len j x : Nat} {i : Int32} (hd : decode Γ.2.1 pc = .ok (.iaload, 1)) (hkd : mm_kd f = (1, len)) (hi : i = nI j) (hx : s.2.1 f j = x) (hj : j < len) (kk : px_W d mc ms Γ Q (pc + 1) lv (.inl (.int (nI x)) :: st) (mm_M s X) k n) : px_W d mc ms Γ Q pc lv (.inl (.int i) :: .inr (1, f) :: st) (mm_M s X) k n := by
  subst hx
  exact px_ald_i hd ((mm_M1 s X f).trans (mm_cell1 hkd)) hi hj (mm_kdl hkd) kk
theorem mm_ald_o {f len j x : Nat} {i : Int32} (hd : decode Γ.2.1 pc = .ok (.iaload, 1)) (hkd : mm_kd f = (4, len)) (hi : i = nI j) (hx : s.2.1 f j = x) (hj : j < len) (kk : px_W d mc ms Γ Q (pc + 1) lv (.inl (.int (px_o x)) :: st) (mm_M s X) k n) : px_W d mc ms Γ Q pc lv (.inl (.int i) :: .inr (1, f) :: st) (mm_M s X) k n := by
  subst hx
  exact px_ald_i hd ((mm_M1 s X f).trans (mm_cell4 hkd)) hi hj (mm_kdl hkd) kk
theorem mm_ald_z {f len j x : Nat} {i : Int32} (hd : decode Γ.2.1 pc = .ok (.baload, 1)) (hkd : mm_kd f = (3, len)) (hi : i = nI j) (hx : s.2.1 f j = x) (hj : j < len) (kk : px_W d mc ms Γ Q (pc + 1) lv (.inl (.int (nI x)) :: st) (mm_M s X) k n) : px_W d mc ms Γ Q pc lv (.inl (.int i) :: .inr (1, f) :: st) (mm_M s X) k n := by
  subst hx
  exact px_ald_z hd ((mm_M1 s X f).trans (mm_cell3 hkd)) hi hj (mm_kdl hkd) kk
theorem mm_ald_d {f len j : Nat} {i : Int32} {x : Int} (hd : decode Γ.2.1 pc = .ok (.daload, 1)) (hkd : mm_kd f = (2, len)) (hi : i = nI j) (hx : s.2.2 f j = x) (hj : j < len) (kk : px_W d mc ms Γ Q (pc + 1) lv (.inl (.double (dz x)) :: st) (mm_M s X) k n) : px_W d mc ms Γ Q pc lv (.inl (.int i) :: .inr (1, f) :: st) (mm_M s X) k n := by
  subst hx
  exact px_ald_d hd ((mm_M1 s X f).trans (mm_cell2 hkd)) hi hj (mm_kdl hkd) kk
theorem mm_ast {f len j x : Nat} {i v : Int32} (hd : decode Γ.2.1 pc = .ok (.iastore, 1)) (hkd : mm_kd f = (1, len)) (hi : i = nI j) (hv : v = nI x) (hj : j < len) (kk : px_W d mc ms Γ Q (pc + 1) lv st (mm_M (mm_A s f j x) X) k n) : px_W d mc ms Γ Q pc lv (.inl (.int v) :: .inl (.int i) :: .inr (1, f) :: st) (mm_M s X) k n := by
  subst hv
  refine px_ast_i hd ((mm_M1 s X f).trans (mm_cell1 hkd)) hi hj (mm_kdl hkd) ?_
  rw [mm_upA hkd]; exact kk
theorem mm_ast_o {f len j x : Nat} {i v : Int32} (hd : decode Γ.2.1 pc = .ok (.iastore, 1)) (hkd : mm_kd f = (4, len)) (hi : i = nI j) (hv : v = px_o x) (hj : j < len) (kk : px_W d mc ms Γ Q (pc + 1) lv st (mm_M (mm_A s f j x) X) k n) : px_W d mc ms Γ Q pc lv (.inl (.int v) :: .inl (.int i) :: .inr (1, f) :: st) (mm_M s X) k n := by
  subst hv
  refine px_ast_i hd ((mm_M1 s X f).trans (mm_cell4 hkd)) hi hj (mm_kdl hkd) ?_
  rw [mm_upO hkd]; exact kk
theorem mm_ast_z {f len j x : Nat} {i v : Int32} (hd : decode Γ.2.1 pc = .ok (.bastore, 1)) (hkd : mm_kd f = (3, len)) (hi : i = nI j) (hv : v = nI x) (hj : j < len) (hx : x ≤ 1) (kk : px_W d mc ms Γ Q (pc + 1) lv st (mm_M (mm_A s f j x) X) k n) : px_W d mc ms Γ Q pc lv (.inl (.int v) :: .inl (.int i) :: .inr (1, f) :: st) (mm_M s X) k n := by
  subst hv
  refine px_ast_z hd ((mm_M1 s X f).trans (mm_cell3 hkd)) hi hj (mm_kdl hkd) ?_ ?_
  · rcases (show x = 0 ∨ x = 1 by omega) with rfl | rfl <;> decide
  · rw [mm_upZ hkd]; exact kk
theorem mm_ast_d {f len j : Nat} {i : Int32} {v : UInt64} {x : Int} (hd : decode Γ.2.1 pc = .ok (.dastore, 1)) (hkd : mm_kd f = (2, len)) (hi : i = nI j) (hv : v = dz x) (hj : j < len) (kk : px_W d mc ms Γ Q (pc + 1) lv st (mm_M (mm_D s f j x) X) k n) : px_W d mc ms Γ Q pc lv (.inl (.double v) :: .inl (.int i) :: .inr (1, f) :: st) (mm_M s X) k n := by
  subst hv
  refine px_ast_d hd ((mm_M1 s X f).trans (mm_cell2 hkd)) hi hj (mm_kdl hkd) ?_
  rw [mm_upD hkd]; exact kk
/-! numbers as naturals; a condition in its own words -/
theorem pn_iadd {x y z : Int32} (hd : decode Γ.2.1 pc = .ok (.iadd, 1)) (hz : x + y = z) {M : px_M} (kk : px_W d mc ms Γ Q (pc + 1) lv (.inl (.int z) :: st) M k n) : px_W d mc ms Γ Q pc lv (.inl (.int y) :: .inl (.int x) :: st) M k n := by subst hz; exact px_iadd hd kk
theorem pn_isub {x y z : Int32} (hd : decode Γ.2.1 pc = .ok (.isub, 1)) (hz : x - y = z) {M : px_M} (kk : px_W d mc ms Γ Q (pc + 1) lv (.inl (.int z) :: st) M k n) : px_W d mc ms Γ Q pc lv (.inl (.int y) :: .inl (.int x) :: st) M k n := by subst hz; exact px_isub hd kk
theorem pn_imul {x y z : Int32} (hd : decode Γ.2.1 pc = .ok (.imul, 1)) (hz : x * y = z) {M : px_M} (kk : px_W d mc ms Γ Q (pc + 1) lv (.inl (.int z) :: st) M k n) : px_W d mc ms Γ Q pc lv (.inl (.int y) :: .inl (.int x) :: st) M k n := by subst hz; exact px_imul hd kk
theorem pn_dcmp {x y : UInt64} {a b : Int} {op : CmpOp} (hd : decode Γ.2.1 pc = .ok (.dcmp op, 1)) (hx : x = dz a) (hy : y = dz b) (ha : a.natAbs ≤ 2 ^ 53) (hb : b.natAbs ≤ 2 ^ 53) {M : px_M} (kk : px_W d mc ms Γ Q (pc + 1) lv (.inl (.int (dz_c a b)) :: st) M k n) : px_W d mc ms Γ Q pc lv (.inl (.double y) :: .inl (.double x) :: st) M k n := by
  subst hx hy
  refine px_dcmp hd ?_
  rw [dz_cmp op ha hb]; exact kk
theorem pn_dadd {a b : Int} (hd : decode Γ.2.1 pc = .ok (.dadd, 1)) (ha : a.natAbs ≤ 2 ^ 50) (hb : b.natAbs ≤ 2 ^ 50) {z : Int} (hz : a + b = z) {M : px_M} (kk : px_W d mc ms Γ Q (pc + 1) lv (.inl (.double (dz z)) :: st) M k n) : px_W d mc ms Γ Q pc lv (.inl (.double (dz b)) :: .inl (.double (dz a)) :: st) M k n := by
  subst hz
  exact px_dadd hd (dz_add (by omega) (by omega)) (dz_vf (by omega)) kk
theorem pn_dsub {a b : Int} (hd : decode Γ.2.1 pc = .ok (.dsub, 1)) (ha : a.natAbs ≤ 2 ^ 50) (hb : b.natAbs ≤ 2 ^ 50) {z : Int} (hz : a - b = z) {M : px_M} (kk : px_W d mc ms Γ Q (pc + 1) lv (.inl (.double (dz z)) :: st) M k n) : px_W d mc ms Γ Q pc lv (.inl (.double (dz b)) :: .inl (.double (dz a)) :: st) M k n := by
  subst hz
  exact px_dsub hd (dz_sub (by omega) (by omega)) (dz_vf (by omega)) kk
variable {M : px_M} {P : Prop}
theorem pn_icmp_eq {x y : Int32} {off : Int} {tgt : Nat} (hd : decode Γ.2.1 pc = .ok (.if_icmp .eq off, 3)) (ht : (pc : Int) + off = (tgt : Int)) (hc : x = y ↔ P) (kt : P → px_W d mc ms Γ Q tgt lv st M k n) (kf : ¬ P → px_W d mc ms Γ Q (pc + 3) lv st M k n) : px_W d mc ms Γ Q pc lv (.inl (.int y) :: .inl (.int x) :: st) M k n := px_icmp_eq hd ht (fun h => kt (hc.mp h)) (fun h => kf (fun p => h (hc.mpr p)))
theorem pn_icmp_ne {x y : Int32} {off : Int} {tgt : Nat} (hd : decode Γ.2.1 pc = .ok (.if_icmp .ne off, 3)) (ht : (pc : Int) + off = (tgt : Int)) (hc : x = y ↔ P) (kt : ¬ P → px_W d mc ms Γ Q tgt lv st M k n) (kf : P → px_W d mc ms Γ Q (pc + 3) lv st M k n) : px_W d mc ms Γ Q pc lv (.inl (.int y) :: .inl (.int x) :: st) M k n := px_icmp_ne hd ht (fun h => kt (fun p => h (hc.mpr p))) (fun h => kf (hc.mp h))
theorem pn_icmp_lt {x y : Int32} {off : Int} {tgt : Nat} (hd : decode Γ.2.1 pc = .ok (.if_icmp .lt off, 3)) (ht : (pc : Int) + off = (tgt : Int)) (hc : x < y ↔ P) (kt : P → px_W d mc ms Γ Q tgt lv st M k n) (kf : ¬ P → px_W d mc ms Γ Q (pc + 3) lv st M k n) : px_W d mc ms Γ Q pc lv (.inl (.int y) :: .inl (.int x) :: st) M k n := px_icmp_lt hd ht (fun h => kt (hc.mp h)) (fun h => kf (fun p => h (hc.mpr p)))
theorem pn_icmp_ge {x y : Int32} {off : Int} {tgt : Nat} (hd : decode Γ.2.1 pc = .ok (.if_icmp .ge off, 3)) (ht : (pc : Int) + off = (tgt : Int)) (hc : y ≤ x ↔ P) (kt : P → px_W d mc ms Γ Q tgt lv st M k n) (kf : ¬ P → px_W d mc ms Γ Q (pc + 3) lv st M k n) : px_W d mc ms Γ Q pc lv (.inl (.int y) :: .inl (.int x) :: st) M k n := px_icmp_ge hd ht (fun h => kt (hc.mp h)) (fun h => kf (fun p => h (hc.mpr p)))
theorem pn_icmp_gt {x y : Int32} {off : Int} {tgt : Nat} (hd : decode Γ.2.1 pc = .ok (.if_icmp .gt off, 3)) (ht : (pc : Int) + off = (tgt : Int)) (hc : y < x ↔ P) (kt : P → px_W d mc ms Γ Q tgt lv st M k n) (kf : ¬ P → px_W d mc ms Γ Q (pc + 3) lv st M k n) : px_W d mc ms Γ Q pc lv (.inl (.int y) :: .inl (.int x) :: st) M k n := px_icmp_gt hd ht (fun h => kt (hc.mp h)) (fun h => kf (fun p => h (hc.mpr p)))
theorem pn_icmp_le {x y : Int32} {off : Int} {tgt : Nat} (hd : decode Γ.2.1 pc = .ok (.if_icmp .le off, 3)) (ht : (pc : Int) + off = (tgt : Int)) (hc : x ≤ y ↔ P) (kt : P → px_W d mc ms Γ Q tgt lv st M k n) (kf : ¬ P → px_W d mc ms Γ Q (pc + 3) lv st M k n) : px_W d mc ms Γ Q pc lv (.inl (.int y) :: .inl (.int x) :: st) M k n := px_icmp_le hd ht (fun h => kt (hc.mp h)) (fun h => kf (fun p => h (hc.mpr p)))
theorem pn_if_eq {x : Int32} {off : Int} {tgt : Nat} (hd : decode Γ.2.1 pc = .ok (.ifCond .eq off, 3)) (ht : (pc : Int) + off = (tgt : Int)) (hc : x = 0 ↔ P) (kt : P → px_W d mc ms Γ Q tgt lv st M k n) (kf : ¬ P → px_W d mc ms Γ Q (pc + 3) lv st M k n) : px_W d mc ms Γ Q pc lv (.inl (.int x) :: st) M k n := px_if_eq hd ht (fun h => kt (hc.mp h)) (fun h => kf (fun p => h (hc.mpr p)))
theorem pn_if_ne {x : Int32} {off : Int} {tgt : Nat} (hd : decode Γ.2.1 pc = .ok (.ifCond .ne off, 3)) (ht : (pc : Int) + off = (tgt : Int)) (hc : x = 0 ↔ P) (kt : ¬ P → px_W d mc ms Γ Q tgt lv st M k n) (kf : P → px_W d mc ms Γ Q (pc + 3) lv st M k n) : px_W d mc ms Γ Q pc lv (.inl (.int x) :: st) M k n := px_if_ne hd ht (fun h => kt (fun p => h (hc.mpr p))) (fun h => kf (hc.mp h))
theorem pn_if_lt {x : Int32} {off : Int} {tgt : Nat} (hd : decode Γ.2.1 pc = .ok (.ifCond .lt off, 3)) (ht : (pc : Int) + off = (tgt : Int)) (hc : x < 0 ↔ P) (kt : P → px_W d mc ms Γ Q tgt lv st M k n) (kf : ¬ P → px_W d mc ms Γ Q (pc + 3) lv st M k n) : px_W d mc ms Γ Q pc lv (.inl (.int x) :: st) M k n := px_if_lt hd ht (fun h => kt (hc.mp h)) (fun h => kf (fun p => h (hc.mpr p)))
theorem pn_if_ge {x : Int32} {off : Int} {tgt : Nat} (hd : decode Γ.2.1 pc = .ok (.ifCond .ge off, 3)) (ht : (pc : Int) + off = (tgt : Int)) (hc : 0 ≤ x ↔ P) (kt : P → px_W d mc ms Γ Q tgt lv st M k n) (kf : ¬ P → px_W d mc ms Γ Q (pc + 3) lv st M k n) : px_W d mc ms Γ Q pc lv (.inl (.int x) :: st) M k n := px_if_ge hd ht (fun h => kt (hc.mp h)) (fun h => kf (fun p => h (hc.mpr p)))
theorem pn_if_gt {x : Int32} {off : Int} {tgt : Nat} (hd : decode Γ.2.1 pc = .ok (.ifCond .gt off, 3)) (ht : (pc : Int) + off = (tgt : Int)) (hc : 0 < x ↔ P) (kt : P → px_W d mc ms Γ Q tgt lv st M k n) (kf : ¬ P → px_W d mc ms Γ Q (pc + 3) lv st M k n) : px_W d mc ms Γ Q pc lv (.inl (.int x) :: st) M k n := px_if_gt hd ht (fun h => kt (hc.mp h)) (fun h => kf (fun p => h (hc.mpr p)))
theorem pn_if_le {x : Int32} {off : Int} {tgt : Nat} (hd : decode Γ.2.1 pc = .ok (.ifCond .le off, 3)) (ht : (pc : Int) + off = (tgt : Int)) (hc : x ≤ 0 ↔ P) (kt : P → px_W d mc ms Γ Q tgt lv st M k n) (kf : ¬ P → px_W d mc ms Γ Q (pc + 3) lv st M k n) : px_W d mc ms Γ Q pc lv (.inl (.int x) :: st) M k n := px_if_le hd ht (fun h => kt (hc.mp h)) (fun h => kf (fun p => h (hc.mpr p)))
end MMR
/-- 1 or 0 -/
def px_bi (P : Prop) [Decidable P] : Int32 := if P then 1 else 0
theorem px_bi_0 (P : Prop) [Decidable P] : px_bi P = 0 ↔ ¬ P := by
  unfold px_bi
  by_cases h : P
  · rw [if_pos h]; exact ⟨fun z => absurd z (by decide), fun z => absurd h z⟩
  · rw [if_neg h]; exact ⟨fun _ => h, fun _ => rfl⟩
theorem pn_m1 {a : Nat} (ha : a < 2 ^ 31) : nI a = -1 ↔ False := ⟨fun h => absurd (show nI a < 0 by rw [h]; decide) (nI_pos ha), fun h => h.elim⟩
theorem pn_z {a : Nat} (ha : a < 2 ^ 31) : nI a = 0 ↔ a = 0 := by
  have := nI_eq (a := a) (b := 0) ha (by decide)
  rw [nI_0] at this; exact this
theorem pn_ltz {a : Nat} (ha : a < 2 ^ 31) : nI a < 0 ↔ False := ⟨fun h => absurd h (nI_pos ha), fun h => h.elim⟩
theorem pn_gez {a : Nat} (ha : a < 2 ^ 31) : 0 ≤ nI a ↔ True := ⟨fun _ => trivial, fun _ => nI_pos' ha⟩
theorem pn_gtz {a : Nat} (ha : a < 2 ^ 31) : 0 < nI a ↔ 0 < a := by
  have := nI_ltI (a := 0) (b := a) (by decide) ha
  rw [nI_0] at this; exact this
theorem pn_lez {a : Nat} (ha : a < 2 ^ 31) : nI a ≤ 0 ↔ a = 0 := by
  have := nI_leI (a := a) (b := 0) ha (by decide)
  rw [nI_0] at this; rw [this]; omega
theorem pn_i1 (a : Nat) : nI a + Int32.ofInt 1 = nI (a + 1) := nI_1 a
theorem pn_im1 {a : Nat} (h : 0 < a) : nI a + Int32.ofInt (-1) = nI (a - 1) := by
  obtain ⟨b, rfl⟩ : ∃ b, a = b + 1 := ⟨a - 1, by omega⟩
  exact pk_m1 b
section MMR2
variable {d mc ms : Nat} {Γ : px_Y} {Q : px_Q} {pc : Nat} {lv : List (Nat × px_V)} {st : List px_V} {M : px_M} {k n : Nat}
theorem pn_dconst0 (hd : decode Γ.2.1 pc = .ok (.dconst 0, 1)) (kk : px_W d mc ms Γ Q (pc + 1) lv (.inl (.double (dz 0)) :: st) M k n) : px_W d mc ms Γ Q pc lv st M k n := px_dconst0 hd (by rw [dz_0]; exact kk)
theorem pn_ldc2d {index : Nat} {v : UInt64} {z : Int} (hd : decode Γ.2.1 pc = .ok (.ldc2_w index, 3)) (hw : Cond.constantDouble Γ.1.cls index v ∈ px_T) (hz : v = dz z) (kk : px_W d mc ms Γ Q (pc + 3) lv (.inl (.double (dz z)) :: st) M k n) : px_W d mc ms Γ Q pc lv st M k n := px_ldc2d hd hw (by rw [hz]; exact kk)
theorem pn_ldc {index x : Nat} {v : Int32} (hd : decode Γ.2.1 pc = .ok (.ldc index, 2)) (hw : Cond.constant Γ.1.cls index v ∈ px_T) (hz : v = nI x) (kk : px_W d mc ms Γ Q (pc + 2) lv (.inl (.int (nI x)) :: st) M k n) : px_W d mc ms Γ Q pc lv st M k n := px_ldc hd hw (by rw [hz]; exact kk)
end MMR2
theorem px_o_s (a : Nat) : nI a = px_o (a + 1) := rfl
theorem px_o_n : (-1 : Int32) = px_o 0 := rfl
section MMR3
variable {d mc ms : Nat} {Γ : px_Y} {Q : px_Q} {pc : Nat} {lv : List (Nat × px_V)} {st : List px_V} {M : px_M} {k n : Nat}
theorem mm_rcv (s : mm_S) (X : px_M) : px_rcv (mm_M s X) (1, 0) RX5 := Or.inl ⟨5, mm_obj s.1, _, rfl, rfl, rfl⟩
/-- calls that return, what and where is told -/
theorem px_callVr {Γ' : px_Y} {d' mc' ms' idx nA : Nat} {As stk : List px_V} {r : px_R} {v : px_V} {M1 : px_M} (hM : px_Met d' mc' ms' Γ' (.inr r :: As) M (px_rt (some v) M1)) (hd : decode Γ.2.1 pc = .ok (.invokevirtual idx, 3)) (hl : px_lkV Γ.1.cls idx nA Γ') (hr : px_rcv M r Γ'.1.cls) (hs : stk = As.reverse ++ .inr r :: st) (hA : As.length = nA) (hdd : d' + 1 ≤ d) (hk : k + mc' ≤ mc) (hn : n + ms' ≤ ms) (hst : (st.map px_cat).sum ≤ 8)
    (kk : px_W d mc ms Γ Q (pc + 3) lv (v :: st) M1 (k + mc') (n + ms')) : px_W d mc ms Γ Q pc lv stk M k n :=
  px_callV hM hd hl hr hs hA hdd hk hn hst (fun v9 M' h => by
    obtain ⟨h1, h2⟩ := h
    cases h1; subst h2; exact kk) (fun E M' h => absurd h.1 (fun z => by cases z))
theorem px_callVv {Γ' : px_Y} {d' mc' ms' idx nA : Nat} {As stk : List px_V} {r : px_R} {M1 : px_M} (hM : px_Met d' mc' ms' Γ' (.inr r :: As) M (px_rt none M1)) (hd : decode Γ.2.1 pc = .ok (.invokevirtual idx, 3)) (hl : px_lkV Γ.1.cls idx nA Γ') (hr : px_rcv M r Γ'.1.cls) (hs : stk = As.reverse ++ .inr r :: st) (hA : As.length = nA) (hdd : d' + 1 ≤ d) (hk : k + mc' ≤ mc) (hn : n + ms' ≤ ms) (hst : (st.map px_cat).sum ≤ 8)
    (kk : px_W d mc ms Γ Q (pc + 3) lv st M1 (k + mc') (n + ms')) : px_W d mc ms Γ Q pc lv stk M k n :=
  px_callV hM hd hl hr hs hA hdd hk hn hst (fun v9 M' h => by
    obtain ⟨h1, h2⟩ := h
    cases h1; subst h2; exact kk) (fun E M' h => absurd h.1 (fun z => by cases z))
theorem px_callSr {Γ' : px_Y} {d' mc' ms' idx nA : Nat} {As stk : List px_V} {v : px_V} {M1 : px_M} (hM : px_Met d' mc' ms' Γ' As M (px_rt (some v) M1)) (hd : decode Γ.2.1 pc = .ok (.invokestatic idx, 3)) (hl : px_lkS Γ.1.cls idx nA Γ') (hs : stk = As.reverse ++ st) (hA : As.length = nA) (hdd : d' + 1 ≤ d) (hk : k + mc' ≤ mc) (hn : n + ms' ≤ ms) (hst : (st.map px_cat).sum ≤ 8)
    (kk : px_W d mc ms Γ Q (pc + 3) lv (v :: st) M1 (k + mc') (n + ms')) : px_W d mc ms Γ Q pc lv stk M k n :=
  px_callS hM hd hl hs hA hdd hk hn hst (fun v9 M' h => by
    obtain ⟨h1, h2⟩ := h
    cases h1; subst h2; exact kk) (fun E M' h => absurd h.1 (fun z => by cases z))
theorem px_callSv {Γ' : px_Y} {d' mc' ms' idx nA : Nat} {As stk : List px_V} {M1 : px_M} (hM : px_Met d' mc' ms' Γ' As M (px_rt none M1)) (hd : decode Γ.2.1 pc = .ok (.invokestatic idx, 3)) (hl : px_lkS Γ.1.cls idx nA Γ') (hs : stk = As.reverse ++ st) (hA : As.length = nA) (hdd : d' + 1 ≤ d) (hk : k + mc' ≤ mc) (hn : n + ms' ≤ ms) (hst : (st.map px_cat).sum ≤ 8)
    (kk : px_W d mc ms Γ Q (pc + 3) lv st M1 (k + mc') (n + ms')) : px_W d mc ms Γ Q pc lv stk M k n :=
  px_callS hM hd hl hs hA hdd hk hn hst (fun v9 M' h => by
    obtain ⟨h1, h2⟩ := h
    cases h1; subst h2; exact kk) (fun E M' h => absurd h.1 (fun z => by cases z))
end MMR3
/-! a whole row anew -/
def mm_R (s : mm_S) (k : Nat) (f : Nat → Nat) : mm_S := (s.1, px_upN s.2.1 k f, s.2.2)
def mm_T (s : mm_S) (k : Nat) (f : Nat → Int) : mm_S := (s.1, s.2.1, px_upN s.2.2 k f)
theorem mr_R1 (s : mm_S) (k : Nat) (f : Nat → Nat) : (mm_R s k f).1 = s.1 := rfl
theorem mr_Re (s : mm_S) (k : Nat) (f : Nat → Nat) : (mm_R s k f).2.1 k = f := if_pos rfl
theorem mr_Rn (s : mm_S) {k i : Nat} (f : Nat → Nat) (h : i ≠ k) : (mm_R s k f).2.1 i = s.2.1 i := if_neg h
theorem mr_R3 (s : mm_S) (k : Nat) (f : Nat → Nat) : (mm_R s k f).2.2 = s.2.2 := rfl
theorem mr_T1 (s : mm_S) (k : Nat) (f : Nat → Int) : (mm_T s k f).1 = s.1 := rfl
theorem mr_Te (s : mm_S) (k : Nat) (f : Nat → Int) : (mm_T s k f).2.2 k = f := if_pos rfl
theorem mr_Tn (s : mm_S) {k i : Nat} (f : Nat → Int) (h : i ≠ k) : (mm_T s k f).2.2 i = s.2.2 i := if_neg h
theorem mr_T2 (s : mm_S) (k : Nat) (f : Nat → Int) : (mm_T s k f).2.1 = s.2.1 := rfl
theorem mr_RA (s : mm_S) (k : Nat) (f : Nat → Nat) (j x : Nat) : mm_A (mm_R s k f) k j x = mm_R s k (px_upN f j x) := by
  unfold mm_A
  rw [mr_Re, mr_R1, mr_R3]
  refine Prod.ext rfl (Prod.ext (funext fun i => ?_) rfl)
  show px_upN (px_upN s.2.1 k f) k (px_upN f j x) i = px_upN s.2.1 k (px_upN f j x) i
  unfold px_upN
  split <;> rfl
theorem mr_TD (s : mm_S) (k : Nat) (f : Nat → Int) (j : Nat) (x : Int) : mm_D (mm_T s k f) k j x = mm_T s k (px_upN f j x) := by
  unfold mm_D
  rw [mr_Te, mr_T1, mr_T2]
  refine Prod.ext rfl (Prod.ext rfl (funext fun i => ?_))
  show px_upN (px_upN s.2.2 k f) k (px_upN f j x) i = px_upN s.2.2 k (px_upN f j x) i
  unfold px_upN
  split <;> rfl
theorem mr_R0 (s : mm_S) (k : Nat) : mm_R s k (s.2.1 k) = s := by
  refine Prod.ext rfl (Prod.ext (funext fun i => ?_) rfl)
  show px_upN s.2.1 k _ i = _
  unfold px_upN
  split
  · rename_i h; rw [h]
  · rfl
theorem mr_T0 (s : mm_S) (k : Nat) : mm_T s k (s.2.2 k) = s := by
  refine Prod.ext rfl (Prod.ext rfl (funext fun i => ?_))
  show px_upN s.2.2 k _ i = _
  unfold px_upN
  split
  · rename_i h; rw [h]
  · rfl
end
section
/-! ===== the reference's small methods ===== -/
set_option maxRecDepth 100000 in
set_option maxHeartbeats 4000000 in
/-- met: from 'before', past what is NONE or this pin -/
def mm_met (t : Nat → Nat) (p : Nat) : Nat → Nat → Nat
  | 0, k => k
  | f + 1, k => if k < 10 ∧ (t k = 0 ∨ t k = p + 1) then mm_met t p f (k + 1) else k
set_option maxRecDepth 100000 in
set_option maxHeartbeats 4000000 in
theorem me_thrown (s : mm_S) (X : px_M) : px_Met 0 0 0 mX5_thrown [.inr (1, 0)] (mm_M s X) (px_rt (some (.inl (.int (nI (s.1 0))))) (mm_M s X)) := by
  refine px_ofW (by decide) W_mX5_thrown (Nat.le_of_ble_eq_true rfl) ?_
  refine px_aload_n dX5_thrown_0 rfl trivial ?_
  refine mm_gets dX5_thrown_1 F_RX5_81 (by decide) (by (try simp only [mr_In, mr_Ie, mr_A1, mr_D1, mr_R1, mr_T1, ne_eq, Nat.reduceEqDiff, not_false_eq_true]); rfl) ?_
  refine px_iret dX5_thrown_4 rfl ?_ (by omega) (by omega)
  exact ⟨rfl, rfl⟩
set_option maxRecDepth 100000 in
set_option maxHeartbeats 4000000 in
theorem me_met (s : mm_S) (X : px_M) (p b : Nat) (hp : p < 60) (hb : b ≤ 10) (hT : ∀ j, j < 10 → s.2.1 14 j ≤ 60) : px_Met 0 0 0 mX5_met [.inr (1, 0), .inl (.int (nI p)), .inl (.int (nI b))] (mm_M s X) (px_rt (some (.inl (.int (nI (mm_met (s.2.1 14) p 11 b))))) (mm_M s X)) := by
  refine px_ofW (by decide) W_mX5_met (Nat.le_of_ble_eq_true rfl) ?_
  have loop : ∀ (f k : Nat), k ≤ 10 → 10 < k + f → px_W 0 0 0 mX5_met (px_rt (some (.inl (.int (nI (mm_met (s.2.1 14) p f k))))) (mm_M s X)) 2 [(0, .inr (1, 0)), (1, .inl (.int (nI p))), (3, .inl (.int (nI k)))] [] (mm_M s X) 0 0 := by
    intro f
    induction f with
    | zero => intro k h1 h2; omega
    | succ f ih =>
      intro k h1 h2
      refine px_iload_n dX5_met_2 rfl ?_
      refine px_bipush (v := nI 10) dX5_met_3 (by decide) ?_
      refine pn_icmp_ge (tgt := 34) dX5_met_5 (by decide) (nI_leI (by omega) (by omega)) (fun h => ?_) (fun h => ?_)
      · refine px_iload_n dX5_met_34 rfl ?_
        refine px_iret dX5_met_35 rfl ?_ (by omega) (by omega)
        refine ⟨?_, rfl⟩
        rw [mm_met, if_neg (by omega)]
      · have hk := hT k (by omega)
        refine px_aload_n dX5_met_8 rfl trivial ?_
        refine mm_get dX5_met_9 F_RX5_38 rfl ?_
        refine px_iload_n dX5_met_12 rfl ?_
        refine mm_ald_o dX5_met_13 rfl (by first | rfl | assumption) (by (try simp only [mr_I2, mr_An, mr_Ae, mr_D2, mr_Rn, mr_Re, mr_T2, ne_eq, Nat.reduceEqDiff, not_false_eq_true]); rfl) (by first | assumption | omega) ?_
        refine px_iconst (v := -1) dX5_met_14 (by decide) ?_
        refine pn_icmp_eq (tgt := 28) dX5_met_15 (by decide) (px_o_no (by omega)) (fun h3 => ?_) (fun h3 => ?_)
        · refine px_iinc dX5_met_28 rfl (by first | exact pn_i1 _ | exact pn_im1 (by omega)) (by decide) ?_
          refine px_goto (tgt := 2) dX5_met_31 (by decide) ?_
          rw [show mm_met (s.2.1 14) p (f + 1) k = mm_met (s.2.1 14) p f (k + 1) by rw [mm_met, if_pos ⟨by omega, Or.inl h3⟩]]
          exact px_sub (ih (k + 1) (by omega) (by omega)) rfl
        · refine px_aload_n dX5_met_18 rfl trivial ?_
          refine mm_get dX5_met_19 F_RX5_38 rfl ?_
          refine px_iload_n dX5_met_22 rfl ?_
          refine mm_ald_o dX5_met_23 rfl (by first | rfl | assumption) (by (try simp only [mr_I2, mr_An, mr_Ae, mr_D2, mr_Rn, mr_Re, mr_T2, ne_eq, Nat.reduceEqDiff, not_false_eq_true]); rfl) (by first | assumption | omega) ?_
          refine px_iload_n dX5_met_24 rfl ?_
          refine pn_icmp_ne (tgt := 34) dX5_met_25 (by decide) (px_o_nI (by omega) (by omega)) (fun h4 => ?_) (fun h4 => ?_)
          · refine px_iload_n dX5_met_34 rfl ?_
            refine px_iret dX5_met_35 rfl ?_ (by omega) (by omega)
            refine ⟨?_, rfl⟩
            rw [mm_met, if_neg (fun z => z.2.elim h3 h4)]
          · refine px_iinc dX5_met_28 rfl (by first | exact pn_i1 _ | exact pn_im1 (by omega)) (by decide) ?_
            refine px_goto (tgt := 2) dX5_met_31 (by decide) ?_
            rw [show mm_met (s.2.1 14) p (f + 1) k = mm_met (s.2.1 14) p f (k + 1) by rw [mm_met, if_pos ⟨by omega, Or.inr h4⟩]]
            exact px_sub (ih (k + 1) (by omega) (by omega)) rfl
  refine px_iload_n dX5_met_0 rfl ?_
  refine px_istore_n dX5_met_1 (by decide) ?_
  exact px_sub (loop 11 b hb (by omega)) rfl
end
section
/-! ===== the reference's methods without loops ===== -/
/-- an int that is one of 0 .. n-1 -/
abbrev px_ix (x : Int32) (n : Nat) : Prop := 0 ≤ x.toInt ∧ x.toInt < n

theorem px_ix_of {x : Int32} {n : Nat} (h : px_ix x n) : ∃ j, j < n ∧ x = nI j := by
  refine ⟨x.toInt.toNat, by have := h.1; have := h.2; omega, ?_⟩
  have h1 := x.toInt_lt
  rw [← Int32.toInt_inj, nI_toInt (by have := h.1; omega)]
  have := h.1; omega
theorem px_ix_nI {j n : Nat} (hj : j < 2 ^ 31) : px_ix (nI j) n ↔ j < n := by
  unfold px_ix
  rw [nI_toInt hj]; omega
theorem px_lt0 (x : Int32) : x < 0 ↔ x.toInt < 0 := Int32.lt_iff_toInt_lt
theorem px_leN (x : Int32) {n : Nat} (hn : n < 2 ^ 31) : nI n ≤ x ↔ (n : Int) ≤ x.toInt := by rw [Int32.le_iff_toInt_le, nI_toInt hn]
theorem px_ltN (x : Int32) {n : Nat} (hn : n < 2 ^ 31) : x < nI n ↔ x.toInt < (n : Int) := by rw [Int32.lt_iff_toInt_lt, nI_toInt hn]
set_option maxRecDepth 100000 in
set_option maxHeartbeats 4000000 in
theorem me_isPin (s : mm_S) (X : px_M) (x : Int32) (hp : s.1 1 ≤ 60) : px_Met 0 0 0 mX5_isPin [.inr (1, 0), .inl (.int x)] (mm_M s X) (px_rt (some (.inl (.int (px_bi (px_ix x (s.1 1)))))) (mm_M s X)) := by
  refine px_ofW (by decide) W_mX5_isPin (Nat.le_of_ble_eq_true rfl) ?_
  refine px_iload_n dX5_isPin_0 rfl ?_
  refine pn_if_lt (tgt := 16) dX5_isPin_1 (by decide) (px_lt0 _) (fun h => ?_) (fun h => ?_)
  · refine px_iconst (v := nI 0) dX5_isPin_16 (by decide) ?_
    refine px_zret dX5_isPin_17 rfl (by decide) ⟨?_, rfl⟩ (by omega) (by omega)
    rw [show px_bi (px_ix x (s.1 1)) = nI 0 from if_neg fun z => by have := z.1; omega]
  · refine px_iload_n dX5_isPin_4 rfl ?_
    refine px_aload_n dX5_isPin_5 rfl trivial ?_
    refine mm_gets dX5_isPin_6 F_RX5_85 (by decide) (by (try simp only [mr_In, mr_Ie, mr_A1, mr_D1, mr_R1, mr_T1, ne_eq, Nat.reduceEqDiff, not_false_eq_true]); rfl) ?_
    refine pn_icmp_ge (tgt := 16) dX5_isPin_9 (by decide) (px_leN _ (by omega)) (fun h2 => ?_) (fun h2 => ?_)
    · refine px_iconst (v := nI 0) dX5_isPin_16 (by decide) ?_
      refine px_zret dX5_isPin_17 rfl (by decide) ⟨?_, rfl⟩ (by omega) (by omega)
      rw [show px_bi (px_ix x (s.1 1)) = nI 0 from if_neg fun z => by have := z.2; omega]
    · refine px_iconst (v := nI 1) dX5_isPin_12 (by decide) ?_
      refine px_goto (tgt := 17) dX5_isPin_13 (by decide) ?_
      refine px_zret dX5_isPin_17 rfl (by decide) ⟨?_, rfl⟩ (by omega) (by omega)
      rw [show px_bi (px_ix x (s.1 1)) = nI 1 from if_pos ⟨by omega, by omega⟩]
theorem dz_int64 {d : Int} (hd : d.natAbs ≤ 2 ^ 50) : FP.d2l (FP.dmul (dz d) 4620693217682128896) = Int64.ofInt d := by
  have h1 := dz_mul8 (a := d) (by omega)
  have e : (Int64.ofInt d).toInt = d := Int64.toInt_ofInt_of_le (by omega) (by omega)
  rw [← e] at h1
  have := FP.Core.d2l_int (a := Int64.ofInt d) (b := FP.Core.dmul (dz d) 4620693217682128896) (by rw [e] at h1 ⊢; exact h1)
  exact this
theorem dz_whole {d : Int} (hd : d.natAbs ≤ 2 ^ 50) : FP.dcmp (FP.dmul (dz d) 4620693217682128896) (FP.l2d (FP.d2l (FP.dmul (dz d) 4620693217682128896))) = some .eq := by
  rw [dz_int64 hd]
  have e : (Int64.ofInt d).toInt = d := Int64.toInt_ofInt_of_le (by omega) (by omega)
  have h2 := FP.Core.l2d_int (a := Int64.ofInt d) (by rw [e]; omega)
  rw [e] at h2
  have h3 := FP.Core.dcmp_int (dz_mul8 (a := d) (by omega)) h2
  rw [show compare d d = Ordering.eq from Int.compare_eq_eq.mpr rfl] at h3
  exact h3
theorem dz_mul8_vf {d : Int} (hd : d.natAbs ≤ 2 ^ 50) : vf_n64 (FP.dmul (dz d) 4620693217682128896) := by
  refine dz_num fun e => ?_
  have h1 := dz_mul8 (a := d) (by omega)
  unfold FP.Core.DInt at h1
  rw [show FP.Core.val64 (FP.dmul (dz d) 4620693217682128896) = _ from e] at h1
  exact h1.elim
set_option maxRecDepth 100000 in
set_option maxHeartbeats 4000000 in
theorem me_isTime (M : px_M) (d b : Int) (hd : d.natAbs ≤ 2 ^ 40) (hb : b.natAbs ≤ 2 ^ 40) : px_Met 0 0 0 mX5_isTime [.inl (.double (dz d)), .inl (.double (dz b))] M (px_rt (some (.inl (.int (px_bi (b ≤ d ∧ d ≤ 8388608))))) M) := by
  refine px_ofW (by decide) W_mX5_isTime (Nat.le_of_ble_eq_true rfl) ?_
  refine px_dload_n dX5_isTime_0 rfl ?_
  refine px_ldc2d dX5_isTime_1 D_RX5_88 ?_
  refine px_dmul dX5_isTime_4 rfl (dz_mul8_vf (by omega)) ?_
  refine px_dstore dX5_isTime_5 (by decide) ?_
  refine px_dload_n dX5_isTime_7 rfl ?_
  refine px_dload_n dX5_isTime_8 rfl ?_
  refine pn_dcmp dX5_isTime_9 rfl rfl (by omega) (by omega) ?_
  refine pn_if_lt (tgt := 35) dX5_isTime_10 (by decide) (dz_c_lt _ _) (fun h => ?_) (fun h => ?_)
  · refine px_iconst (v := nI 0) dX5_isTime_35 (by decide) ?_
    refine px_zret dX5_isTime_36 rfl (by decide) ⟨?_, rfl⟩ (by omega) (by omega)
    rw [show px_bi (b ≤ d ∧ d ≤ 8388608) = nI 0 from if_neg fun z => by have := z.1; omega]
  · refine px_dload_n dX5_isTime_13 rfl ?_
    refine pn_ldc2d dX5_isTime_14 D_RX5_90 dz_top ?_
    refine pn_dcmp dX5_isTime_17 rfl rfl (by omega) (by omega) ?_
    refine pn_if_gt (tgt := 35) dX5_isTime_18 (by decide) (dz_c_gt _ _) (fun h2 => ?_) (fun h2 => ?_)
    · refine px_iconst (v := nI 0) dX5_isTime_35 (by decide) ?_
      refine px_zret dX5_isTime_36 rfl (by decide) ⟨?_, rfl⟩ (by omega) (by omega)
      rw [show px_bi (b ≤ d ∧ d ≤ 8388608) = nI 0 from if_neg fun z => by have := z.2; omega]
    · refine px_dload dX5_isTime_21 rfl ?_
      refine px_dload dX5_isTime_23 rfl ?_
      refine px_d2l dX5_isTime_25 ?_
      refine px_l2d dX5_isTime_26 ?_
      refine px_dcmp dX5_isTime_27 ?_
      rw [dz_whole (by omega)]
      refine px_if_ne (tgt := 35) dX5_isTime_28 (by decide) (fun h => absurd rfl h) (fun _ => ?_)
      refine px_iconst (v := nI 1) dX5_isTime_31 (by decide) ?_
      refine px_goto (tgt := 36) dX5_isTime_32 (by decide) ?_
      refine px_zret dX5_isTime_36 rfl (by decide) ⟨?_, rfl⟩ (by omega) (by omega)
      rw [show px_bi (b ≤ d ∧ d ≤ 8388608) = nI 1 from if_pos ⟨by omega, by omega⟩]
end
section
/-! ===== the reference's net: what holds of it all along; what a call of it answers, and where it leads ===== -/
/-- the same but for the code and the scratch rows -/
def mm_nq (s s' : mm_S) : Prop := (∀ k, k ≠ 0 → s'.1 k = s.1 k) ∧ ∀ k, k < 26 → s'.2.1 k = s.2.1 k ∧ s'.2.2 k = s.2.2 k
theorem mm_nq.rf (s : mm_S) : mm_nq s s := ⟨fun _ _ => rfl, fun _ _ => ⟨rfl, rfl⟩⟩
theorem mm_nq.tr {a b c : mm_S} (h : mm_nq a b) (g : mm_nq b c) : mm_nq a c := ⟨fun k hk => (g.1 k hk).trans (h.1 k hk), fun k hk => ⟨(g.2 k hk).1.trans (h.2 k hk).1, (g.2 k hk).2.trans (h.2 k hk).2⟩⟩
theorem mm_nq.I0 {s s' : mm_S} (h : mm_nq s s') (x : Nat) : mm_nq s (mm_I s' 0 x) := ⟨fun k hk => (if_neg hk).trans (h.1 k hk), h.2⟩
theorem mm_nq.AS {s s' : mm_S} (h : mm_nq s s') {k : Nat} (hk : 26 ≤ k) (j x : Nat) : mm_nq s (mm_A s' k j x) := ⟨h.1, fun i hi => ⟨(if_neg (by omega)).trans (h.2 i hi).1, (h.2 i hi).2⟩⟩
theorem mm_nq.DS {s s' : mm_S} (h : mm_nq s s') {k : Nat} (hk : 26 ≤ k) (j : Nat) (x : Int) : mm_nq s (mm_D s' k j x) := ⟨h.1, fun i hi => ⟨(h.2 i hi).1, (if_neg (by omega)).trans (h.2 i hi).2⟩⟩
theorem mm_nq.I {s s' : mm_S} (h : mm_nq s s') (k x : Nat) : mm_nq (mm_I s k x) (mm_I s' k x) := ⟨fun i hi => by
  show px_upN s'.1 k x i = px_upN s.1 k x i
  unfold px_upN
  split
  · rfl
  · exact h.1 i hi, h.2⟩
theorem mm_nq.A {s s' : mm_S} (h : mm_nq s s') {k : Nat} (hk : k < 26) (j x : Nat) : mm_nq (mm_A s k j x) (mm_A s' k j x) := ⟨h.1, fun i hi => ⟨by
  show px_upN s'.2.1 k (px_upN (s'.2.1 k) j x) i = px_upN s.2.1 k (px_upN (s.2.1 k) j x) i
  rw [(h.2 k hk).1]
  unfold px_upN
  split
  · rfl
  · exact (h.2 i hi).1, (h.2 i hi).2⟩⟩
theorem mm_nq.D {s s' : mm_S} (h : mm_nq s s') {k : Nat} (hk : k < 26) (j : Nat) (x : Int) : mm_nq (mm_D s k j x) (mm_D s' k j x) := ⟨h.1, fun i hi => ⟨(h.2 i hi).1, by
  show px_upN s'.2.2 k (px_upN (s'.2.2 k) j x) i = px_upN s.2.2 k (px_upN (s.2.2 k) j x) i
  rw [(h.2 k hk).2]
  unfold px_upN
  split
  · rfl
  · exact (h.2 i hi).2⟩⟩
def mm_ok (s : mm_S) : Prop := (s.1 1 ≤ 60 ∧ s.1 6 ≤ 150 ∧ s.1 9 ≤ 30 ∧ s.1 13 ≤ 30 ∧ s.1 17 ≤ 50 ∧ s.1 25 ≤ 1 ∧ s.1 24 ≤ 320) ∧
  (∀ a, a < s.1 6 → s.2.1 3 a < s.1 1 ∧ s.2.1 4 a < s.1 1 ∧ 0 ≤ s.2.2 5 a ∧ s.2.2 5 a ≤ 8388608) ∧
  (∀ i, i < s.1 9 → s.2.1 7 i < s.1 1 ∧ -8388608 ≤ s.2.2 8 i ∧ s.2.2 8 i ≤ 8388608) ∧
  (∀ i, i < s.1 13 → s.2.1 10 i < s.1 1 ∧ s.2.1 12 i < 8 ∧ -8388608 ≤ s.2.2 11 i ∧ s.2.2 11 i ≤ 8388608) ∧
  (∀ j, j < 10 → s.2.1 14 j ≤ s.1 1) ∧ (∀ p, p < s.1 1 → s.2.1 2 p ≤ 8) ∧
  (∀ i, i < s.1 17 → s.2.1 15 i < s.1 6 ∧ 0 ≤ s.2.2 16 i ∧ s.2.2 16 i ≤ 8388608) ∧
  ∃ rk : Nat → Nat, ∀ a, a < s.1 6 → rk (s.2.1 3 a) < rk (s.2.1 4 a)
theorem mm_ok.nq {s s' : mm_S} (h : mm_ok s) (q : mm_nq s s') : mm_ok s' := by
  have e1 := q.1 1 (by decide)
  have e6 := q.1 6 (by decide)
  have e9 := q.1 9 (by decide)
  have e13 := q.1 13 (by decide)
  have e17 := q.1 17 (by decide)
  have e25 := q.1 25 (by decide)
  have e24 := q.1 24 (by decide)
  obtain ⟨a3, -⟩ := q.2 3 (by decide)
  obtain ⟨a4, -⟩ := q.2 4 (by decide)
  obtain ⟨-, d5⟩ := q.2 5 (by decide)
  obtain ⟨a7, -⟩ := q.2 7 (by decide)
  obtain ⟨-, d8⟩ := q.2 8 (by decide)
  obtain ⟨a10, -⟩ := q.2 10 (by decide)
  obtain ⟨-, d11⟩ := q.2 11 (by decide)
  obtain ⟨a12, -⟩ := q.2 12 (by decide)
  obtain ⟨a14, -⟩ := q.2 14 (by decide)
  obtain ⟨a2, -⟩ := q.2 2 (by decide)
  obtain ⟨a15, -⟩ := q.2 15 (by decide)
  obtain ⟨-, d16⟩ := q.2 16 (by decide)
  unfold mm_ok
  rw [e1, e6, e9, e13, e17, e25, e24, a3, a4, d5, a7, d8, a10, d11, a12, a14, a2, a15, d16]
  exact h
/-- a call's end: code c, and if that is 0 the answer v; the net is s1 -/
def mq (X : px_M) (c : Nat) (v : Int32) (s1 : mm_S) : px_Q := fun o M' => ∃ (w : Int32) (s' : mm_S), o = .inl (some (.inl (.int w))) ∧ M' = mm_M s' X ∧ s'.1 0 = c ∧ mm_nq s1 s' ∧ (c = 0 → w = v)
def mqd (X : px_M) (c : Nat) (v : UInt64) (s1 : mm_S) : px_Q := fun o M' => ∃ (w : UInt64) (s' : mm_S), o = .inl (some (.inl (.double w))) ∧ M' = mm_M s' X ∧ s'.1 0 = c ∧ mm_nq s1 s' ∧ (c = 0 → w = v)
def kc_pin (s : mm_S) : Nat := if s.1 1 = 60 then 1 else 0
def nx_pin (s : mm_S) : mm_S := if kc_pin s = 0 then mm_I (mm_I (mm_A s 2 (s.1 1) 0) 1 (s.1 1 + 1)) 25 0 else s
set_option maxRecDepth 100000 in
set_option maxHeartbeats 4000000 in
theorem me_pin (s : mm_S) (X : px_M) (ok : mm_ok s) : px_Met 0 0 0 mX5_pin [.inr (1, 0)] (mm_M s X) (mq X (kc_pin s) (nI (s.1 1)) (nx_pin s)) := by
  have hp := ok.1.1
  refine px_ofW (by decide) W_mX5_pin (Nat.le_of_ble_eq_true rfl) ?_
  refine px_aload_n dX5_pin_0 rfl trivial ?_
  refine px_aload_n dX5_pin_1 rfl trivial ?_
  refine mm_gets dX5_pin_2 F_RX5_85 (by decide) (by (try simp only [mr_In, mr_Ie, mr_A1, mr_D1, mr_R1, mr_T1, ne_eq, Nat.reduceEqDiff, not_false_eq_true]); rfl) ?_
  refine px_bipush (v := nI 60) dX5_pin_5 (by decide) ?_
  refine pn_icmp_ne (tgt := 14) dX5_pin_7 (by decide) (nI_eq (by omega) (by omega)) (fun h => ?_) (fun h => ?_)
  · refine px_iconst (v := nI 0) dX5_pin_14 (by decide) ?_
    have hc : kc_pin s = 0 := if_neg h
    have tail : ∀ t : mm_S, t.1 0 = 0 → t.1 1 = s.1 1 → mm_nq s t → px_W 0 0 0 mX5_pin (mq X (kc_pin s) (nI (s.1 1)) (nx_pin s)) 18 [(0, .inr (1, 0))] [] (mm_M t X) 0 0 := by
      intro t t0 t1 tn
      refine px_aload_n dX5_pin_18 rfl trivial ?_
      refine mm_gets dX5_pin_19 F_RX5_81 (by decide) (by (try simp only [mr_In, mr_Ie, mr_A1, mr_D1, mr_R1, mr_T1, ne_eq, Nat.reduceEqDiff, not_false_eq_true]); rfl) ?_
      refine pn_if_le (tgt := 27) dX5_pin_22 (by decide) (pn_lez (by omega)) (fun h2 => ?_) (fun h2 => ?_)
      · refine px_aload_n dX5_pin_27 rfl trivial ?_
        refine mm_get dX5_pin_28 F_RX5_7 rfl ?_
        refine px_aload_n dX5_pin_31 rfl trivial ?_
        refine mm_gets dX5_pin_32 F_RX5_85 (by decide) (by (try simp only [mr_In, mr_Ie, mr_A1, mr_D1, mr_R1, mr_T1, ne_eq, Nat.reduceEqDiff, not_false_eq_true]); rfl) ?_
        refine px_iconst (v := -1) dX5_pin_35 (by decide) ?_
        refine mm_ast_o dX5_pin_36 rfl (by first | rfl | assumption) (by first | exact px_o_n | exact px_o_s _ | rfl | assumption) (by first | assumption | omega) ?_
        refine px_aload_n dX5_pin_37 rfl trivial ?_
        refine px_dup dX5_pin_38 rfl ?_
        refine mm_gets dX5_pin_39 F_RX5_85 (by decide) (by (try simp only [mr_In, mr_Ie, mr_A1, mr_D1, mr_R1, mr_T1, ne_eq, Nat.reduceEqDiff, not_false_eq_true]); rfl) ?_
        refine px_iconst (v := nI 1) dX5_pin_42 (by decide) ?_
        refine pn_iadd dX5_pin_43 (by first | exact nI_add _ _ | rfl) ?_
        refine mm_put dX5_pin_44 F_RX5_85 nf_5_1 (by decide) (by first | exact ⟨rfl, rfl⟩ | decide) ?_
        refine px_aload_n dX5_pin_47 rfl trivial ?_
        refine px_iconst (v := nI 0) dX5_pin_48 (by decide) ?_
        refine mm_put dX5_pin_49 F_RX5_92 nf_5_25 (by decide) (by first | exact ⟨rfl, rfl⟩ | decide) ?_
        refine px_aload_n dX5_pin_52 rfl trivial ?_
        refine mm_gets dX5_pin_53 F_RX5_85 (by decide) (by (try simp only [mr_In, mr_Ie, mr_A1, mr_D1, mr_R1, mr_T1, ne_eq, Nat.reduceEqDiff, not_false_eq_true]); rfl) ?_
        refine px_iconst (v := nI 1) dX5_pin_56 (by decide) ?_
        refine pn_isub dX5_pin_57 (by first | exact pk_sub (by omega) | rfl) ?_
        refine px_iret dX5_pin_58 rfl ?_ (by omega) (by omega)
        refine ⟨_, _, rfl, rfl, ?_, ?_, fun _ => ?_⟩
        · rw [hc]; exact t0
        · unfold nx_pin
          rw [if_pos hc, ← t1]
          exact mm_nq.I (mm_nq.I (mm_nq.A tn (by decide) _ _) _ _) _ _
        · rw [t1, Nat.add_sub_cancel]
      · omega
    refine mm_put dX5_pin_15 F_RX5_81 nf_5_0 (by decide) (by first | exact ⟨rfl, rfl⟩ | decide) ?_
    exact px_sub (tail (mm_I s 0 0) rfl rfl ((mm_nq.rf s).I0 0)) rfl
  · refine px_iconst (v := nI 1) dX5_pin_10 (by decide) ?_
    refine px_goto (tgt := 15) dX5_pin_11 (by decide) ?_
    have hc : kc_pin s = 1 := if_pos h
    refine mm_put dX5_pin_15 F_RX5_81 nf_5_0 (by decide) (by first | exact ⟨rfl, rfl⟩ | decide) ?_
    refine px_aload_n dX5_pin_18 rfl trivial ?_
    refine mm_gets dX5_pin_19 F_RX5_81 (by decide) (by (try simp only [mr_In, mr_Ie, mr_A1, mr_D1, mr_R1, mr_T1, ne_eq, Nat.reduceEqDiff, not_false_eq_true]); rfl) ?_
    refine pn_if_le (tgt := 27) dX5_pin_22 (by decide) (pn_lez (by omega)) (fun h2 => ?_) (fun h2 => ?_)
    · exact absurd h2 (by show ¬ (1 = 0); decide)
    · refine px_iconst (v := nI 0) dX5_pin_25 (by decide) ?_
      refine px_iret dX5_pin_26 rfl ?_ (by omega) (by omega)
      exact ⟨_, _, rfl, rfl, hc.symm ▸ rfl, by unfold nx_pin; rw [if_neg (by omega)]; exact (mm_nq.rf s).I0 1, fun z => by omega⟩
end
section
/-! ===== the reference's net calls: ends, starts, orders, groups, blocks, delays ===== -/
def px_tn (x : Int32) : Nat := x.toInt.toNat
theorem px_ix_tn {x : Int32} {n : Nat} (h : px_ix x n) : x = nI (px_tn x) ∧ px_tn x < n := by
  obtain ⟨h1, h2⟩ := h
  have e : ((px_tn x : Nat) : Int) = x.toInt := Int.toNat_of_nonneg h1
  exact ⟨(Int32.ofInt_toInt x).symm.trans ((congrArg Int32.ofInt e.symm).trans (by first | rfl | exact Int32.ofInt_eq_ofNat ..)), by omega⟩
theorem nI_tn {p : Nat} (h : p < 2 ^ 31) : px_tn (nI p) = p := by
  unfold px_tn
  rw [nI_toInt h]; rfl
def kc_end (s : mm_S) (x : Int32) (d : Int) : Nat := if ¬ px_ix x (s.1 1) then 1 else if s.1 13 = 30 then 2 else if -8388608 ≤ d ∧ d ≤ 8388608 then 0 else 3
def nx_end (s : mm_S) (x : Int32) (d : Int) : mm_S := if kc_end s x d = 0 then mm_I (mm_I (mm_A (mm_D (mm_A s 10 (s.1 13) (px_tn x)) 11 (s.1 13) d) 12 (s.1 13) 0) 13 (s.1 13 + 1)) 25 0 else s
set_option maxRecDepth 100000 in
set_option maxHeartbeats 4000000 in
theorem me_end (s : mm_S) (X : px_M) (ok : mm_ok s) (x : Int32) (d : Int) (hd : d.natAbs ≤ 2 ^ 32) : px_Met 1 0 0 mX5_end [.inr (1, 0), .inl (.int x), .inl (.double (dz d))] (mm_M s X) (mq X (kc_end s x d) (nI (s.1 13)) (nx_end s x d)) := by
  have hp := ok.1.1
  have h13 := ok.1.2.2.2.1
  refine px_ofW (by decide) W_mX5_end (Nat.le_of_ble_eq_true rfl) ?_
  have tail : ∀ c, c < 4 → kc_end s x d = c → px_W 1 0 0 mX5_end (mq X (kc_end s x d) (nI (s.1 13)) (nx_end s x d)) 41 [(0, .inr (1, 0)), (1, .inl (.int x)), (2, .inl (.double (dz d)))] [.inl (.int (nI c)), .inr (1, 0)] (mm_M s X) 0 0 := by
    intro c c4 hc
    refine mm_put dX5_end_41 F_RX5_81 nf_5_0 (by decide) (by first | exact ⟨rfl, rfl⟩ | decide) ?_
    refine px_aload_n dX5_end_44 rfl trivial ?_
    refine mm_gets dX5_end_45 F_RX5_81 (by decide) (by (try simp only [mr_In, mr_Ie, mr_A1, mr_D1, mr_R1, mr_T1, ne_eq, Nat.reduceEqDiff, not_false_eq_true]); rfl) ?_
    refine pn_if_le (tgt := 53) dX5_end_48 (by decide) (pn_lez (by omega)) (fun h => ?_) (fun h => ?_)
    · refine px_aload_n dX5_end_53 rfl trivial ?_
      refine mm_get dX5_end_54 F_RX5_29 rfl ?_
      refine px_aload_n dX5_end_57 rfl trivial ?_
      refine mm_gets dX5_end_58 F_RX5_111 (by decide) (by (try simp only [mr_In, mr_Ie, mr_A1, mr_D1, mr_R1, mr_T1, ne_eq, Nat.reduceEqDiff, not_false_eq_true]); rfl) ?_
      have c0 : kc_end s x d = 0 := by omega
      have hx : px_ix x (s.1 1) ∧ s.1 13 < 30 := by
        unfold kc_end at c0
        by_cases h1 : px_ix x (s.1 1)
        · rw [if_neg (fun z => z h1)] at c0
          by_cases h2 : s.1 13 = 30
          · rw [if_pos h2] at c0; omega
          · exact ⟨h1, by omega⟩
        · rw [if_pos h1] at c0; omega
      obtain ⟨e1, e2⟩ := px_ix_tn hx.1
      have e3 := hx.2
      refine px_iload_n dX5_end_61 rfl ?_
      refine mm_ast dX5_end_62 rfl (by first | rfl | assumption) (by first | rfl | assumption) (by first | assumption | omega) ?_
      refine px_aload_n dX5_end_63 rfl trivial ?_
      refine mm_get dX5_end_64 F_RX5_32 rfl ?_
      refine px_aload_n dX5_end_67 rfl trivial ?_
      refine mm_gets dX5_end_68 F_RX5_111 (by decide) (by (try simp only [mr_In, mr_Ie, mr_A1, mr_D1, mr_R1, mr_T1, ne_eq, Nat.reduceEqDiff, not_false_eq_true]); rfl) ?_
      refine px_dload_n dX5_end_71 rfl ?_
      refine pn_dconst0 dX5_end_72 ?_
      refine pn_dadd dX5_end_73 (by omega) (by omega) (by first | exact Int.add_zero _ | rfl) ?_
      refine mm_ast_d dX5_end_74 rfl (by first | rfl | assumption) (by first | rfl | assumption) (by first | assumption | omega) ?_
      refine px_aload_n dX5_end_75 rfl trivial ?_
      refine mm_get dX5_end_76 F_RX5_35 rfl ?_
      refine px_aload_n dX5_end_79 rfl trivial ?_
      refine mm_gets dX5_end_80 F_RX5_111 (by decide) (by (try simp only [mr_In, mr_Ie, mr_A1, mr_D1, mr_R1, mr_T1, ne_eq, Nat.reduceEqDiff, not_false_eq_true]); rfl) ?_
      refine px_iconst (v := nI 0) dX5_end_83 (by decide) ?_
      refine mm_ast dX5_end_84 rfl (by first | rfl | assumption) (by first | rfl | assumption) (by first | assumption | omega) ?_
      refine px_aload_n dX5_end_85 rfl trivial ?_
      refine px_dup dX5_end_86 rfl ?_
      refine mm_gets dX5_end_87 F_RX5_111 (by decide) (by (try simp only [mr_In, mr_Ie, mr_A1, mr_D1, mr_R1, mr_T1, ne_eq, Nat.reduceEqDiff, not_false_eq_true]); rfl) ?_
      refine px_iconst (v := nI 1) dX5_end_90 (by decide) ?_
      refine pn_iadd dX5_end_91 (by first | exact nI_add _ _ | rfl) ?_
      refine mm_put dX5_end_92 F_RX5_111 nf_5_13 (by decide) (by first | exact ⟨rfl, rfl⟩ | decide) ?_
      refine px_aload_n dX5_end_95 rfl trivial ?_
      refine px_iconst (v := nI 0) dX5_end_96 (by decide) ?_
      refine mm_put dX5_end_97 F_RX5_92 nf_5_25 (by decide) (by first | exact ⟨rfl, rfl⟩ | decide) ?_
      refine px_aload_n dX5_end_100 rfl trivial ?_
      refine mm_gets dX5_end_101 F_RX5_111 (by decide) (by (try simp only [mr_In, mr_Ie, mr_A1, mr_D1, mr_R1, mr_T1, ne_eq, Nat.reduceEqDiff, not_false_eq_true]); rfl) ?_
      refine px_iconst (v := nI 1) dX5_end_104 (by decide) ?_
      refine pn_isub dX5_end_105 (by first | exact pk_sub (by omega) | rfl) ?_
      refine px_iret dX5_end_106 rfl ?_ (by omega) (by omega)
      refine ⟨_, _, rfl, rfl, ?_, ?_, fun _ => ?_⟩
      · rw [c0]; exact (show c = 0 by omega)
      · unfold nx_end
        rw [if_pos c0]
        refine mm_nq.I (mm_nq.I (mm_nq.A (mm_nq.D (mm_nq.A ((mm_nq.rf s).I0 c) (by decide) _ _) (by decide) _ _) (by decide) _ _) _ _) _ _
      · rfl
    · refine px_iconst (v := nI 0) dX5_end_51 (by decide) ?_
      refine px_iret dX5_end_52 rfl ?_ (by omega) (by omega)
      exact ⟨_, _, rfl, rfl, hc.symm ▸ rfl, by unfold nx_end; rw [if_neg (by omega)]; exact (mm_nq.rf s).I0 c, fun z => by omega⟩
  refine px_aload_n dX5_end_0 rfl trivial ?_
  refine px_aload_n dX5_end_1 rfl trivial ?_
  refine px_iload_n dX5_end_2 rfl ?_
  refine px_callVr ((me_isPin s X x hp)) dX5_end_3 L_RX5_99 (mm_rcv _ _) rfl rfl (by decide) (by omega) (by omega) (Nat.le_of_ble_eq_true rfl) ?_
  refine pn_if_ne (tgt := 13) dX5_end_6 (by decide) (px_bi_0 _) (fun h => ?_) (fun h => ?_)
  · refine px_aload_n dX5_end_13 rfl trivial ?_
    refine mm_gets dX5_end_14 F_RX5_111 (by decide) (by (try simp only [mr_In, mr_Ie, mr_A1, mr_D1, mr_R1, mr_T1, ne_eq, Nat.reduceEqDiff, not_false_eq_true]); rfl) ?_
    refine px_bipush (v := nI 30) dX5_end_17 (by decide) ?_
    refine pn_icmp_ne (tgt := 26) dX5_end_19 (by decide) (nI_eq (by omega) (by omega)) (fun h2 => ?_) (fun h2 => ?_)
    · refine px_dload_n dX5_end_26 rfl ?_
      refine pn_ldc2d dX5_end_27 D_RX5_114 dz_bot ?_
      refine px_callSr ((me_isTime _ d (-8388608) (by omega) (by omega))) dX5_end_30 L_RX5_103 rfl rfl (by decide) (by omega) (by omega) (Nat.le_of_ble_eq_true rfl) ?_
      refine pn_if_eq (tgt := 40) dX5_end_33 (by decide) (px_bi_0 _) (fun h3 => ?_) (fun h3 => ?_)
      · refine px_iconst (v := nI 3) dX5_end_40 (by decide) ?_
        refine px_sub (tail 3 (by decide) ?_) rfl
        unfold kc_end
        rw [if_neg (fun z => h z), if_neg h2, if_neg h3]
      · refine px_iconst (v := nI 0) dX5_end_36 (by decide) ?_
        refine px_goto (tgt := 41) dX5_end_37 (by decide) ?_
        refine px_sub (tail 0 (by decide) ?_) rfl
        unfold kc_end
        rw [if_neg (fun z => h z), if_neg h2, if_pos (Decidable.of_not_not h3)]
    · refine px_iconst (v := nI 2) dX5_end_22 (by decide) ?_
      refine px_goto (tgt := 41) dX5_end_23 (by decide) ?_
      refine px_sub (tail 2 (by decide) ?_) rfl
      unfold kc_end
      rw [if_neg (fun z => h z), if_pos h2]
  · refine px_iconst (v := nI 1) dX5_end_9 (by decide) ?_
    refine px_goto (tgt := 41) dX5_end_10 (by decide) ?_
    exact px_sub (tail 1 (by decide) (if_pos h)) rfl
end
section
/-! ===== starts, orders, groups, blocks ===== -/
theorem px_eqn {a n : Nat} {x : Int32} (ha : a < 2 ^ 31) (h : px_ix x n) : nI a = x ↔ a = px_tn x := by
  obtain ⟨h1, h2⟩ := px_ix_tn h
  have h3 : px_tn x < 2 ^ 31 := by
    have := x.toInt_lt
    unfold px_tn
    omega
  rw [← nI_eq ha h3, ← h1]
def px_oc (x : Int32) : Nat := if x = -1 then 0 else px_tn x + 1
theorem px_oc_m : px_oc (-1) = 0 := if_pos rfl
theorem px_oc_o {x : Int32} {n : Nat} (h : x ≠ -1 → px_ix x n) : x = px_o (px_oc x) ∧ px_oc x ≤ n := by
  unfold px_oc
  by_cases e : x = -1
  · rw [if_pos e]; exact ⟨e, Nat.zero_le _⟩
  · rw [if_neg e]; exact px_ix_tn (h e)
theorem px_eqo {a n : Nat} {x : Int32} (hn : n < 2 ^ 31) (ha : a < 2 ^ 31) (h : x ≠ -1 → px_ix x n) : px_o a = x ↔ a = px_oc x := by
  obtain ⟨h1, h2⟩ := px_oc_o h
  rw [← px_o_eq ha (show px_oc x < 2 ^ 31 by omega), ← h1]
def kc_start (s : mm_S) (x : Int32) (d : Int) : Nat := if ¬ px_ix x (s.1 1) then 1 else if s.1 9 = 30 then 2 else if -8388608 ≤ d ∧ d ≤ 8388608 then 0 else 3
def nx_start (s : mm_S) (x : Int32) (d : Int) : mm_S := if kc_start s x d = 0 then mm_I (mm_I (mm_D (mm_A s 7 (s.1 9) (px_tn x)) 8 (s.1 9) d) 9 (s.1 9 + 1)) 25 0 else s
set_option maxRecDepth 100000 in
set_option maxHeartbeats 4000000 in
theorem me_start (s : mm_S) (X : px_M) (ok : mm_ok s) (x : Int32) (d : Int) (hd : d.natAbs ≤ 2 ^ 32) : px_Met 1 0 0 mX5_start [.inr (1, 0), .inl (.int x), .inl (.double (dz d))] (mm_M s X) (mq X (kc_start s x d) (nI (s.1 9)) (nx_start s x d)) := by
  have hp := ok.1.1
  have h13 := ok.1.2.2.1
  refine px_ofW (by decide) W_mX5_start (Nat.le_of_ble_eq_true rfl) ?_
  have tail : ∀ c, c < 4 → kc_start s x d = c → px_W 1 0 0 mX5_start (mq X (kc_start s x d) (nI (s.1 9)) (nx_start s x d)) 41 [(0, .inr (1, 0)), (1, .inl (.int x)), (2, .inl (.double (dz d)))] [.inl (.int (nI c)), .inr (1, 0)] (mm_M s X) 0 0 := by
    intro c c4 hc
    refine mm_put dX5_start_41 F_RX5_81 nf_5_0 (by decide) (by first | exact ⟨rfl, rfl⟩ | decide) ?_
    refine px_aload_n dX5_start_44 rfl trivial ?_
    refine mm_gets dX5_start_45 F_RX5_81 (by decide) (by (try simp only [mr_In, mr_Ie, mr_A1, mr_D1, mr_R1, mr_T1, ne_eq, Nat.reduceEqDiff, not_false_eq_true]); rfl) ?_
    refine pn_if_le (tgt := 53) dX5_start_48 (by decide) (pn_lez (by omega)) (fun h => ?_) (fun h => ?_)
    · refine px_aload_n dX5_start_53 rfl trivial ?_
      refine mm_get dX5_start_54 F_RX5_23 rfl ?_
      refine px_aload_n dX5_start_57 rfl trivial ?_
      refine mm_gets dX5_start_58 F_RX5_116 (by decide) (by (try simp only [mr_In, mr_Ie, mr_A1, mr_D1, mr_R1, mr_T1, ne_eq, Nat.reduceEqDiff, not_false_eq_true]); rfl) ?_
      have c0 : kc_start s x d = 0 := by omega
      have hx : px_ix x (s.1 1) ∧ s.1 9 < 30 := by
        unfold kc_start at c0
        by_cases h1 : px_ix x (s.1 1)
        · rw [if_neg (fun z => z h1)] at c0
          by_cases h2 : s.1 9 = 30
          · rw [if_pos h2] at c0; omega
          · exact ⟨h1, by omega⟩
        · rw [if_pos h1] at c0; omega
      obtain ⟨e1, e2⟩ := px_ix_tn hx.1
      have e3 := hx.2
      refine px_iload_n dX5_start_61 rfl ?_
      refine mm_ast dX5_start_62 rfl (by first | rfl | assumption) (by first | rfl | assumption) (by first | assumption | omega) ?_
      refine px_aload_n dX5_start_63 rfl trivial ?_
      refine mm_get dX5_start_64 F_RX5_26 rfl ?_
      refine px_aload_n dX5_start_67 rfl trivial ?_
      refine mm_gets dX5_start_68 F_RX5_116 (by decide) (by (try simp only [mr_In, mr_Ie, mr_A1, mr_D1, mr_R1, mr_T1, ne_eq, Nat.reduceEqDiff, not_false_eq_true]); rfl) ?_
      refine px_dload_n dX5_start_71 rfl ?_
      refine pn_dconst0 dX5_start_72 ?_
      refine pn_dadd dX5_start_73 (by omega) (by omega) (by first | exact Int.add_zero _ | rfl) ?_
      refine mm_ast_d dX5_start_74 rfl (by first | rfl | assumption) (by first | rfl | assumption) (by first | assumption | omega) ?_
      refine px_aload_n dX5_start_75 rfl trivial ?_
      refine px_dup dX5_start_76 rfl ?_
      refine mm_gets dX5_start_77 F_RX5_116 (by decide) (by (try simp only [mr_In, mr_Ie, mr_A1, mr_D1, mr_R1, mr_T1, ne_eq, Nat.reduceEqDiff, not_false_eq_true]); rfl) ?_
      refine px_iconst (v := nI 1) dX5_start_80 (by decide) ?_
      refine pn_iadd dX5_start_81 (by first | exact nI_add _ _ | rfl) ?_
      refine mm_put dX5_start_82 F_RX5_116 nf_5_9 (by decide) (by first | exact ⟨rfl, rfl⟩ | decide) ?_
      refine px_aload_n dX5_start_85 rfl trivial ?_
      refine px_iconst (v := nI 0) dX5_start_86 (by decide) ?_
      refine mm_put dX5_start_87 F_RX5_92 nf_5_25 (by decide) (by first | exact ⟨rfl, rfl⟩ | decide) ?_
      refine px_aload_n dX5_start_90 rfl trivial ?_
      refine mm_gets dX5_start_91 F_RX5_116 (by decide) (by (try simp only [mr_In, mr_Ie, mr_A1, mr_D1, mr_R1, mr_T1, ne_eq, Nat.reduceEqDiff, not_false_eq_true]); rfl) ?_
      refine px_iconst (v := nI 1) dX5_start_94 (by decide) ?_
      refine pn_isub dX5_start_95 (by first | exact pk_sub (by omega) | rfl) ?_
      refine px_iret dX5_start_96 rfl ?_ (by omega) (by omega)
      refine ⟨_, _, rfl, rfl, ?_, ?_, fun _ => ?_⟩
      · rw [c0]; exact (show c = 0 by omega)
      · unfold nx_start
        rw [if_pos c0]
        refine mm_nq.I (mm_nq.I (mm_nq.D (mm_nq.A ((mm_nq.rf s).I0 c) (by decide) _ _) (by decide) _ _) _ _) _ _
      · rfl
    · refine px_iconst (v := nI 0) dX5_start_51 (by decide) ?_
      refine px_iret dX5_start_52 rfl ?_ (by omega) (by omega)
      exact ⟨_, _, rfl, rfl, hc.symm ▸ rfl, by unfold nx_start; rw [if_neg (by omega)]; exact (mm_nq.rf s).I0 c, fun z => by omega⟩
  refine px_aload_n dX5_start_0 rfl trivial ?_
  refine px_aload_n dX5_start_1 rfl trivial ?_
  refine px_iload_n dX5_start_2 rfl ?_
  refine px_callVr ((me_isPin s X x hp)) dX5_start_3 L_RX5_99 (mm_rcv _ _) rfl rfl (by decide) (by omega) (by omega) (Nat.le_of_ble_eq_true rfl) ?_
  refine pn_if_ne (tgt := 13) dX5_start_6 (by decide) (px_bi_0 _) (fun h => ?_) (fun h => ?_)
  · refine px_aload_n dX5_start_13 rfl trivial ?_
    refine mm_gets dX5_start_14 F_RX5_116 (by decide) (by (try simp only [mr_In, mr_Ie, mr_A1, mr_D1, mr_R1, mr_T1, ne_eq, Nat.reduceEqDiff, not_false_eq_true]); rfl) ?_
    refine px_bipush (v := nI 30) dX5_start_17 (by decide) ?_
    refine pn_icmp_ne (tgt := 26) dX5_start_19 (by decide) (nI_eq (by omega) (by omega)) (fun h2 => ?_) (fun h2 => ?_)
    · refine px_dload_n dX5_start_26 rfl ?_
      refine pn_ldc2d dX5_start_27 D_RX5_114 dz_bot ?_
      refine px_callSr ((me_isTime _ d (-8388608) (by omega) (by omega))) dX5_start_30 L_RX5_103 rfl rfl (by decide) (by omega) (by omega) (Nat.le_of_ble_eq_true rfl) ?_
      refine pn_if_eq (tgt := 40) dX5_start_33 (by decide) (px_bi_0 _) (fun h3 => ?_) (fun h3 => ?_)
      · refine px_iconst (v := nI 3) dX5_start_40 (by decide) ?_
        refine px_sub (tail 3 (by decide) ?_) rfl
        unfold kc_start
        rw [if_neg (fun z => h z), if_neg h2, if_neg h3]
      · refine px_iconst (v := nI 0) dX5_start_36 (by decide) ?_
        refine px_goto (tgt := 41) dX5_start_37 (by decide) ?_
        refine px_sub (tail 0 (by decide) ?_) rfl
        unfold kc_start
        rw [if_neg (fun z => h z), if_neg h2, if_pos (Decidable.of_not_not h3)]
    · refine px_iconst (v := nI 2) dX5_start_22 (by decide) ?_
      refine px_goto (tgt := 41) dX5_start_23 (by decide) ?_
      refine px_sub (tail 2 (by decide) ?_) rfl
      unfold kc_start
      rw [if_neg (fun z => h z), if_pos h2]
  · refine px_iconst (v := nI 1) dX5_start_9 (by decide) ?_
    refine px_goto (tgt := 41) dX5_start_10 (by decide) ?_
    exact px_sub (tail 1 (by decide) (if_pos h)) rfl
def kc_through (s : mm_S) (x o : Int32) : Nat := if x ≠ -1 ∧ ¬ px_ix x (s.1 1) then 1 else if ¬ px_ix o 10 then 2 else 0
def va_through (s : mm_S) (x o : Int32) : Nat := if s.2.1 14 (px_tn o) = px_oc x then 0 else 1
def nx_through (s : mm_S) (x o : Int32) : mm_S := if kc_through s x o = 0 ∧ s.2.1 14 (px_tn o) ≠ px_oc x then mm_I (mm_A s 14 (px_tn o) (px_oc x)) 25 0 else s
set_option maxRecDepth 100000 in
set_option maxHeartbeats 4000000 in
theorem me_through (s : mm_S) (X : px_M) (ok : mm_ok s) (x o : Int32) : px_Met 1 0 0 mX5_through [.inr (1, 0), .inl (.int x), .inl (.int o)] (mm_M s X) (mq X (kc_through s x o) (nI (va_through s x o)) (nx_through s x o)) := by
  have hp := ok.1.1
  refine px_ofW (by decide) W_mX5_through (Nat.le_of_ble_eq_true rfl) ?_
  have tail : ∀ c, c < 4 → kc_through s x o = c → px_W 1 0 0 mX5_through (mq X (kc_through s x o) (nI (va_through s x o)) (nx_through s x o)) 33 [(0, .inr (1, 0)), (1, .inl (.int x)), (2, .inl (.int o))] [.inl (.int (nI c)), .inr (1, 0)] (mm_M s X) 0 0 := by
    intro c c4 hc
    refine mm_put dX5_through_33 F_RX5_81 nf_5_0 (by decide) (by first | exact ⟨rfl, rfl⟩ | decide) ?_
    refine px_aload_n dX5_through_36 rfl trivial ?_
    refine mm_gets dX5_through_37 F_RX5_81 (by decide) (by (try simp only [mr_In, mr_Ie, mr_A1, mr_D1, mr_R1, mr_T1, ne_eq, Nat.reduceEqDiff, not_false_eq_true]); rfl) ?_
    refine pn_if_gt (tgt := 53) dX5_through_40 (by decide) (pn_gtz (by omega)) (fun h => ?_) (fun h => ?_)
    · refine px_iconst (v := nI 0) dX5_through_53 (by decide) ?_
      refine px_zret dX5_through_54 rfl (by decide) ⟨_, _, rfl, rfl, hc.symm ▸ rfl, ?_, fun z => by omega⟩ (by omega) (by omega)
      unfold nx_through; rw [if_neg (by omega)]; exact (mm_nq.rf s).I0 c
    · have c0 : kc_through s x o = 0 := by omega
      have hx : (x ≠ -1 → px_ix x (s.1 1)) ∧ px_ix o 10 := by
        unfold kc_through at c0
        by_cases h1 : x ≠ -1 ∧ ¬ px_ix x (s.1 1)
        · rw [if_pos h1] at c0; omega
        · rw [if_neg h1] at c0
          by_cases h2 : px_ix o 10
          · exact ⟨fun h3 => Decidable.of_not_not fun h4 => h1 ⟨h3, h4⟩, h2⟩
          · rw [if_pos h2] at c0; omega
      obtain ⟨e1, e2⟩ := px_ix_tn hx.2
      obtain ⟨e3, e4⟩ := px_oc_o hx.1
      have e5 := ok.2.2.2.2.1 (px_tn o) e2
      refine px_aload_n dX5_through_43 rfl trivial ?_
      refine mm_get dX5_through_44 F_RX5_38 rfl ?_
      refine px_iload_n dX5_through_47 rfl ?_
      refine mm_ald_o dX5_through_48 rfl (by first | rfl | assumption) (by (try simp only [mr_I2, mr_An, mr_Ae, mr_D2, mr_Rn, mr_Re, mr_T2, ne_eq, Nat.reduceEqDiff, not_false_eq_true]); rfl) (by first | assumption | omega) ?_
      refine px_iload_n dX5_through_49 rfl ?_
      refine pn_icmp_ne (tgt := 55) dX5_through_50 (by decide) (px_eqo (n:=s.1 1) (by omega) (by show s.2.1 14 _ < _; omega) hx.1) (fun h2 => ?_) (fun h2 => ?_)
      · refine px_aload_n dX5_through_55 rfl trivial ?_
        refine mm_get dX5_through_56 F_RX5_38 rfl ?_
        refine px_iload_n dX5_through_59 rfl ?_
        refine px_iload_n dX5_through_60 rfl ?_
        refine mm_ast_o dX5_through_61 rfl (by first | rfl | assumption) (by first | exact px_o_n | exact px_o_s _ | rfl | assumption) (by first | assumption | omega) ?_
        refine px_aload_n dX5_through_62 rfl trivial ?_
        refine px_iconst (v := nI 0) dX5_through_63 (by decide) ?_
        refine mm_put dX5_through_64 F_RX5_92 nf_5_25 (by decide) (by first | exact ⟨rfl, rfl⟩ | decide) ?_
        refine px_iconst (v := nI 1) dX5_through_67 (by decide) ?_
        refine px_zret dX5_through_68 rfl (by decide) ⟨_, _, rfl, rfl, ?_, ?_, fun _ => ?_⟩ (by omega) (by omega)
        · rw [c0]; exact (show c = 0 by omega)
        · unfold nx_through
          rw [if_pos ⟨c0, h2⟩]
          exact mm_nq.I (mm_nq.A ((mm_nq.rf s).I0 c) (by decide) _ _) _ _
        · unfold va_through
          rw [if_neg h2]
      · refine px_iconst (v := nI 0) dX5_through_53 (by decide) ?_
        refine px_zret dX5_through_54 rfl (by decide) ⟨_, _, rfl, rfl, hc.symm ▸ rfl, ?_, fun _ => ?_⟩ (by omega) (by omega)
        · unfold nx_through; rw [if_neg (fun z => z.2 h2)]; exact (mm_nq.rf s).I0 c
        · unfold va_through; rw [if_pos h2]
  have t2 : ¬ (x ≠ -1 ∧ ¬ px_ix x (s.1 1)) → px_W 1 0 0 mX5_through (mq X (kc_through s x o) (nI (va_through s x o)) (nx_through s x o)) 18 [(0, .inr (1, 0)), (1, .inl (.int x)), (2, .inl (.int o))] [.inr (1, 0)] (mm_M s X) 0 0 := by
    intro hx
    refine px_iload_n dX5_through_18 rfl ?_
    refine pn_if_lt (tgt := 28) dX5_through_19 (by decide) (px_lt0 _) (fun h => ?_) (fun h => ?_)
    · refine px_iconst (v := nI 2) dX5_through_28 (by decide) ?_
      refine px_goto (tgt := 33) dX5_through_29 (by decide) ?_
      exact px_sub (tail 2 (by decide) (by unfold kc_through; rw [if_neg hx, if_pos (fun z => by have := z.1; omega)])) rfl
    · refine px_iload_n dX5_through_22 rfl ?_
      refine px_bipush (v := nI 10) dX5_through_23 (by decide) ?_
      refine pn_icmp_lt (tgt := 32) dX5_through_25 (by decide) (px_ltN _ (by decide)) (fun h2 => ?_) (fun h2 => ?_)
      · refine px_iconst (v := nI 0) dX5_through_32 (by decide) ?_
        exact px_sub (tail 0 (by decide) (by unfold kc_through; rw [if_neg hx, if_neg (fun z => z ⟨by omega, by omega⟩)])) rfl
      · refine px_iconst (v := nI 2) dX5_through_28 (by decide) ?_
        refine px_goto (tgt := 33) dX5_through_29 (by decide) ?_
        exact px_sub (tail 2 (by decide) (by unfold kc_through; rw [if_neg hx, if_pos (fun z => by have := z.2; omega)])) rfl
  refine px_aload_n dX5_through_0 rfl trivial ?_
  refine px_iload_n dX5_through_1 rfl ?_
  refine px_iconst (v := -1) dX5_through_2 (by decide) ?_
  refine pn_icmp_eq (tgt := 18) dX5_through_3 (by decide) (Iff.rfl) (fun h => ?_) (fun h => ?_)
  · exact px_sub (t2 (fun z => z.1 h)) rfl
  · refine px_aload_n dX5_through_6 rfl trivial ?_
    refine px_iload_n dX5_through_7 rfl ?_
    refine px_callVr ((me_isPin s X x hp)) dX5_through_8 L_RX5_99 (mm_rcv _ _) rfl rfl (by decide) (by omega) (by omega) (Nat.le_of_ble_eq_true rfl) ?_
    refine pn_if_ne (tgt := 18) dX5_through_11 (by decide) (px_bi_0 _) (fun h2 => ?_) (fun h2 => ?_)
    · exact px_sub (t2 (fun z => h2 z.2)) rfl
    · refine px_iconst (v := nI 1) dX5_through_14 (by decide) ?_
      refine px_goto (tgt := 33) dX5_through_15 (by decide) ?_
      exact px_sub (tail 1 (by decide) (if_pos ⟨h, h2⟩)) rfl
end
section
/-! ===== groups, blocks, delays ===== -/
def px_cnt (f : Nat → Nat) (g : Nat) : Nat → Nat
  | 0 => 0
  | k + 1 => px_cnt f g k + (if f k = g then 1 else 0)
theorem px_cnt_le (f : Nat → Nat) (g : Nat) : ∀ k, px_cnt f g k ≤ k := by
  intro k
  induction k with
  | zero => exact Nat.le_refl _
  | succ k ih =>
    show px_cnt f g k + _ ≤ _
    split <;> omega
def kc_group (s : mm_S) (x g : Int32) : Nat := if ¬ px_ix x (s.1 13) then 1 else if ¬ px_ix g 8 then 2 else 0
def nx_group (s : mm_S) (x g : Int32) : mm_S := if kc_group s x g = 0 then mm_A (mm_I s 25 (if s.1 25 ≠ 0 ∧ s.2.1 12 (px_tn x) = px_tn g then 1 else 0)) 12 (px_tn x) (px_tn g) else s
def va_group (s : mm_S) (x g : Int32) : Nat := px_cnt (px_upN (s.2.1 12) (px_tn x) (px_tn g)) (px_tn g) (s.1 13)
theorem mr_A0 (s : mm_S) (k j x : Nat) : (mm_A s k j x).2.1 k = px_upN (s.2.1 k) j x := if_pos rfl
theorem kc_group0 {s : mm_S} {x g : Int32} (c0 : kc_group s x g = 0) : px_ix x (s.1 13) ∧ px_ix g 8 := by
  unfold kc_group at c0
  by_cases h1 : px_ix x (s.1 13)
  · rw [if_neg (fun z => z h1)] at c0
    by_cases h2 : px_ix g 8
    · exact ⟨h1, h2⟩
    · rw [if_pos h2] at c0; omega
  · rw [if_pos h1] at c0; omega
set_option maxRecDepth 100000 in
set_option maxHeartbeats 4000000 in
theorem me_group_l (X : px_M) (x g : Int32) (hg : px_ix g 8) (Q : px_Q) (t : mm_S) (G : Nat → Nat) (N : Nat) (hN : N ≤ 30) (t13 : t.1 13 = N) (t12 : t.2.1 12 = G) (hG : ∀ k, k < N → G k < 8) (hQ : Q (.inl (some (.inl (.int (nI (px_cnt G (px_tn g) N)))))) (mm_M t X)) : px_W 0 0 0 mX5_group Q 77 [(0, .inr (1, 0)), (1, .inl (.int x)), (2, .inl (.int g))] [] (mm_M t X) 0 0 := by
  have loop : ∀ (f k : Nat), k ≤ N → N < k + f → px_W 0 0 0 mX5_group Q 82 [(0, .inr (1, 0)), (2, .inl (.int g)), (3, .inl (.int (nI (px_cnt G (px_tn g) k)))), (4, .inl (.int (nI k)))] [] (mm_M t X) 0 0 := by
    intro f
    induction f with
    | zero => intro k h1 h2; omega
    | succ f ih =>
      intro k h1 h2
      have hc := px_cnt_le G (px_tn g) k
      have ec : px_cnt G (px_tn g) (k + 1) = px_cnt G (px_tn g) k + (if G k = px_tn g then 1 else 0) := rfl
      refine px_iload dX5_group_82 rfl ?_
      refine px_aload_n dX5_group_84 rfl trivial ?_
      refine mm_gets dX5_group_85 F_RX5_111 (by decide) (by (try simp only [mr_In, mr_Ie, mr_A1, mr_D1, mr_R1, mr_T1, ne_eq, Nat.reduceEqDiff, not_false_eq_true]); rfl) ?_
      refine pn_icmp_ge (tgt := 116) dX5_group_88 (by decide) (nI_leI (by omega) (by omega)) (fun h3 => ?_) (fun h3 => ?_)
      · refine px_iload_n dX5_group_116 rfl ?_
        refine px_iret dX5_group_117 rfl ?_ (by omega) (by omega)
        rw [show N = k by omega] at hQ
        exact hQ
      · have hg8 : t.2.1 12 k < 8 := by rw [t12]; exact hG k (by omega)
        refine px_iload_n dX5_group_91 rfl ?_
        refine px_aload_n dX5_group_92 rfl trivial ?_
        refine mm_get dX5_group_93 F_RX5_35 rfl ?_
        refine px_iload dX5_group_96 rfl ?_
        refine mm_ald dX5_group_98 rfl (by first | rfl | assumption) (by (try simp only [mr_I2, mr_An, mr_Ae, mr_D2, mr_Rn, mr_Re, mr_T2, ne_eq, Nat.reduceEqDiff, not_false_eq_true]); rfl) (by first | assumption | omega) ?_
        refine px_iload_n dX5_group_99 rfl ?_
        refine pn_icmp_ne (tgt := 107) dX5_group_100 (by decide) (px_eqn (n:=8) (by omega) hg) (fun h4 => ?_) (fun h4 => ?_)
        · refine px_iconst (v := nI 0) dX5_group_107 (by decide) ?_
          refine pn_iadd dX5_group_108 (by first | exact nI_add _ _ | rfl) ?_
          refine px_istore_n dX5_group_109 (by decide) ?_
          refine px_iinc dX5_group_110 rfl (by first | exact pn_i1 _ | exact pn_im1 (by omega)) (by decide) ?_
          refine px_goto (tgt := 82) dX5_group_113 (by decide) ?_
          rw [t12] at h4
          rw [if_neg h4] at ec
          rw [← ec]
          exact px_sub (ih (k + 1) (by omega) (by omega)) rfl
        · refine px_iconst (v := nI 1) dX5_group_103 (by decide) ?_
          refine px_goto (tgt := 108) dX5_group_104 (by decide) ?_
          refine pn_iadd dX5_group_108 (by first | exact nI_add _ _ | rfl) ?_
          refine px_istore_n dX5_group_109 (by decide) ?_
          refine px_iinc dX5_group_110 rfl (by first | exact pn_i1 _ | exact pn_im1 (by omega)) (by decide) ?_
          refine px_goto (tgt := 82) dX5_group_113 (by decide) ?_
          rw [t12] at h4
          rw [if_pos h4] at ec
          rw [← ec]
          exact px_sub (ih (k + 1) (by omega) (by omega)) rfl
  refine px_iconst (v := nI 0) dX5_group_77 (by decide) ?_
  refine px_istore_n dX5_group_78 (by decide) ?_
  refine px_iconst (v := nI 0) dX5_group_79 (by decide) ?_
  refine px_istore dX5_group_80 (by decide) ?_
  exact px_sub (loop (N + 1) 0 (by omega) (by omega)) rfl
set_option maxRecDepth 100000 in
set_option maxHeartbeats 4000000 in
theorem me_group (s : mm_S) (X : px_M) (ok : mm_ok s) (x g : Int32) : px_Met 0 0 0 mX5_group [.inr (1, 0), .inl (.int x), .inl (.int g)] (mm_M s X) (mq X (kc_group s x g) (nI (va_group s x g)) (nx_group s x g)) := by
  have h13 := ok.1.2.2.2.1
  have h25 := ok.1.2.2.2.2.2.1
  refine px_ofW (by decide) W_mX5_group (Nat.le_of_ble_eq_true rfl) ?_
  have tail : ∀ c, c < 4 → kc_group s x g = c → px_W 0 0 0 mX5_group (mq X (kc_group s x g) (nI (va_group s x g)) (nx_group s x g)) 32 [(0, .inr (1, 0)), (1, .inl (.int x)), (2, .inl (.int g))] [.inl (.int (nI c)), .inr (1, 0)] (mm_M s X) 0 0 := by
    intro c c4 hc
    refine mm_put dX5_group_32 F_RX5_81 nf_5_0 (by decide) (by first | exact ⟨rfl, rfl⟩ | decide) ?_
    refine px_aload_n dX5_group_35 rfl trivial ?_
    refine mm_gets dX5_group_36 F_RX5_81 (by decide) (by (try simp only [mr_In, mr_Ie, mr_A1, mr_D1, mr_R1, mr_T1, ne_eq, Nat.reduceEqDiff, not_false_eq_true]); rfl) ?_
    refine pn_if_le (tgt := 44) dX5_group_39 (by decide) (pn_lez (by omega)) (fun h => ?_) (fun h => ?_)
    · have c0 : kc_group s x g = 0 := by omega
      obtain ⟨hx, hg⟩ := kc_group0 c0
      obtain ⟨e1, e2⟩ := px_ix_tn hx
      obtain ⟨e3, e4⟩ := px_ix_tn hg
      have hgx := (ok.2.2.2.1 (px_tn x) e2).2.1
      have fin : ∀ y, y = (if s.1 25 ≠ 0 ∧ s.2.1 12 (px_tn x) = px_tn g then 1 else 0) → px_W 0 0 0 mX5_group (mq X (kc_group s x g) (nI (va_group s x g)) (nx_group s x g)) 67 [(0, .inr (1, 0)), (1, .inl (.int x)), (2, .inl (.int g))] [.inl (.int (nI y)), .inr (1, 0)] (mm_M (mm_I s 0 c) X) 0 0 := by
        intro y hy
        have y1 : y = 0 ∨ y = 1 := by rw [hy]; split <;> omega
        have hb : narrow (px_fty 5 25) (.int (nI y)) = .int (nI y) ∧ fits (px_fty 5 25) (.int (nI y)) = true := by
          rcases y1 with rfl | rfl <;> exact ⟨rfl, rfl⟩
        refine mm_put dX5_group_67 F_RX5_92 nf_5_25 (by decide) hb ?_
        refine px_aload_n dX5_group_70 rfl trivial ?_
        refine mm_get dX5_group_71 F_RX5_35 rfl ?_
        refine px_iload_n dX5_group_74 rfl ?_
        refine px_iload_n dX5_group_75 rfl ?_
        refine mm_ast dX5_group_76 rfl (by first | rfl | assumption) (by first | rfl | assumption) (by first | assumption | omega) ?_
        refine px_sub (me_group_l X x g hg _ _ (px_upN (s.2.1 12) (px_tn x) (px_tn g)) (s.1 13) h13 rfl ?_ ?_ ?_) rfl
        · exact mr_A0 _ _ _ _
        · intro k hk
          unfold px_upN
          split
          · exact e4
          · exact (ok.2.2.2.1 k hk).2.1
        · refine ⟨_, _, rfl, rfl, ?_, ?_, fun _ => rfl⟩
          · rw [c0]; exact (show c = 0 by omega)
          · unfold nx_group
            rw [if_pos c0, ← hy]
            exact mm_nq.A (mm_nq.I ((mm_nq.rf s).I0 c) _ _) (by decide) _ _
      refine px_aload_n dX5_group_44 rfl trivial ?_
      refine px_aload_n dX5_group_45 rfl trivial ?_
      refine mm_gets dX5_group_46 F_RX5_92 (by decide) (by (try simp only [mr_In, mr_Ie, mr_A1, mr_D1, mr_R1, mr_T1, ne_eq, Nat.reduceEqDiff, not_false_eq_true]); rfl) ?_
      refine pn_if_eq (tgt := 66) dX5_group_49 (by decide) (pn_z (by omega)) (fun h2 => ?_) (fun h2 => ?_)
      · refine px_iconst (v := nI 0) dX5_group_66 (by decide) ?_
        exact px_sub (fin 0 (by rw [if_neg (fun z => z.1 h2)])) rfl
      · refine px_aload_n dX5_group_52 rfl trivial ?_
        refine mm_get dX5_group_53 F_RX5_35 rfl ?_
        refine px_iload_n dX5_group_56 rfl ?_
        refine mm_ald dX5_group_57 rfl (by first | rfl | assumption) (by (try simp only [mr_I2, mr_An, mr_Ae, mr_D2, mr_Rn, mr_Re, mr_T2, ne_eq, Nat.reduceEqDiff, not_false_eq_true]); rfl) (by first | assumption | omega) ?_
        refine px_iload_n dX5_group_58 rfl ?_
        refine pn_icmp_ne (tgt := 66) dX5_group_59 (by decide) (px_eqn (n:=8) (by show s.2.1 12 _ < _; omega) hg) (fun h3 => ?_) (fun h3 => ?_)
        · refine px_iconst (v := nI 0) dX5_group_66 (by decide) ?_
          exact px_sub (fin 0 (by rw [if_neg (fun z => h3 z.2)])) rfl
        · refine px_iconst (v := nI 1) dX5_group_62 (by decide) ?_
          refine px_goto (tgt := 67) dX5_group_63 (by decide) ?_
          exact px_sub (fin 1 (by rw [if_pos ⟨h2, h3⟩])) rfl
    · refine px_iconst (v := nI 0) dX5_group_42 (by decide) ?_
      refine px_iret dX5_group_43 rfl ?_ (by omega) (by omega)
      exact ⟨_, _, rfl, rfl, hc.symm ▸ rfl, by unfold nx_group; rw [if_neg (by omega)]; exact (mm_nq.rf s).I0 c, fun z => by omega⟩
  have t2 : px_ix x (s.1 13) → px_W 0 0 0 mX5_group (mq X (kc_group s x g) (nI (va_group s x g)) (nx_group s x g)) 17 [(0, .inr (1, 0)), (1, .inl (.int x)), (2, .inl (.int g))] [.inr (1, 0)] (mm_M s X) 0 0 := by
    intro hx
    refine px_iload_n dX5_group_17 rfl ?_
    refine pn_if_lt (tgt := 27) dX5_group_18 (by decide) (px_lt0 _) (fun h => ?_) (fun h => ?_)
    · refine px_iconst (v := nI 2) dX5_group_27 (by decide) ?_
      refine px_goto (tgt := 32) dX5_group_28 (by decide) ?_
      exact px_sub (tail 2 (by decide) (by unfold kc_group; rw [if_neg (fun z => z hx), if_pos (fun z => by have := z.1; omega)])) rfl
    · refine px_iload_n dX5_group_21 rfl ?_
      refine px_bipush (v := nI 8) dX5_group_22 (by decide) ?_
      refine pn_icmp_lt (tgt := 31) dX5_group_24 (by decide) (px_ltN _ (by decide)) (fun h2 => ?_) (fun h2 => ?_)
      · refine px_iconst (v := nI 0) dX5_group_31 (by decide) ?_
        exact px_sub (tail 0 (by decide) (by unfold kc_group; rw [if_neg (fun z => z hx), if_neg (fun z => z ⟨by omega, by omega⟩)])) rfl
      · refine px_iconst (v := nI 2) dX5_group_27 (by decide) ?_
        refine px_goto (tgt := 32) dX5_group_28 (by decide) ?_
        exact px_sub (tail 2 (by decide) (by unfold kc_group; rw [if_neg (fun z => z hx), if_pos (fun z => by have := z.2; omega)])) rfl
  refine px_aload_n dX5_group_0 rfl trivial ?_
  refine px_iload_n dX5_group_1 rfl ?_
  refine pn_if_lt (tgt := 13) dX5_group_2 (by decide) (px_lt0 _) (fun h => ?_) (fun h => ?_)
  · refine px_iconst (v := nI 1) dX5_group_13 (by decide) ?_
    refine px_goto (tgt := 32) dX5_group_14 (by decide) ?_
    exact px_sub (tail 1 (by decide) (if_pos (fun z => by have := z.1; omega))) rfl
  · refine px_iload_n dX5_group_5 rfl ?_
    refine px_aload_n dX5_group_6 rfl trivial ?_
    refine mm_gets dX5_group_7 F_RX5_111 (by decide) (by (try simp only [mr_In, mr_Ie, mr_A1, mr_D1, mr_R1, mr_T1, ne_eq, Nat.reduceEqDiff, not_false_eq_true]); rfl) ?_
    refine pn_icmp_lt (tgt := 17) dX5_group_10 (by decide) (px_ltN _ (by omega)) (fun h2 => ?_) (fun h2 => ?_)
    · exact px_sub (t2 ⟨by omega, by omega⟩) rfl
    · refine px_iconst (v := nI 1) dX5_group_13 (by decide) ?_
      refine px_goto (tgt := 32) dX5_group_14 (by decide) ?_
      exact px_sub (tail 1 (by decide) (if_pos (fun z => by have := z.2; omega))) rfl
def kc_into (s : mm_S) (x b : Int32) : Nat := if ¬ px_ix x (s.1 1) then 1 else if b ≠ -1 ∧ ¬ px_ix b 8 then 1 else 0
def va_into (s : mm_S) (x b : Int32) : Nat := if s.2.1 2 (px_tn x) = px_oc b then 0 else 1
def nx_into (s : mm_S) (x b : Int32) : mm_S := if kc_into s x b = 0 ∧ s.2.1 2 (px_tn x) ≠ px_oc b then mm_A s 2 (px_tn x) (px_oc b) else s
theorem kc_into0 {s : mm_S} {x b : Int32} (c0 : kc_into s x b = 0) : px_ix x (s.1 1) ∧ (b ≠ -1 → px_ix b 8) := by
  unfold kc_into at c0
  by_cases h1 : px_ix x (s.1 1)
  · rw [if_neg (fun z => z h1)] at c0
    by_cases h2 : b ≠ -1 ∧ ¬ px_ix b 8
    · rw [if_pos h2] at c0; omega
    · exact ⟨h1, fun h3 => Decidable.of_not_not fun h4 => h2 ⟨h3, h4⟩⟩
  · rw [if_pos h1] at c0; omega
theorem px_ltm (b : Int32) : b < -1 ↔ b.toInt < -1 := Int32.lt_iff_toInt_lt
theorem px_m1_of {b : Int32} (h : b.toInt = -1) : b = -1 := Int32.toInt_inj.mp h
set_option maxRecDepth 100000 in
set_option maxHeartbeats 4000000 in
theorem me_into (s : mm_S) (X : px_M) (ok : mm_ok s) (x b : Int32) : px_Met 1 0 0 mX5_into [.inr (1, 0), .inl (.int x), .inl (.int b)] (mm_M s X) (mq X (kc_into s x b) (nI (va_into s x b)) (nx_into s x b)) := by
  have hp := ok.1.1
  refine px_ofW (by decide) W_mX5_into (Nat.le_of_ble_eq_true rfl) ?_
  have tail : ∀ c, c < 4 → kc_into s x b = c → px_W 1 0 0 mX5_into (mq X (kc_into s x b) (nI (va_into s x b)) (nx_into s x b)) 25 [(0, .inr (1, 0)), (1, .inl (.int x)), (2, .inl (.int b))] [.inl (.int (nI c)), .inr (1, 0)] (mm_M s X) 0 0 := by
    intro c c4 hc
    refine mm_put dX5_into_25 F_RX5_81 nf_5_0 (by decide) (by first | exact ⟨rfl, rfl⟩ | decide) ?_
    refine px_aload_n dX5_into_28 rfl trivial ?_
    refine mm_gets dX5_into_29 F_RX5_81 (by decide) (by (try simp only [mr_In, mr_Ie, mr_A1, mr_D1, mr_R1, mr_T1, ne_eq, Nat.reduceEqDiff, not_false_eq_true]); rfl) ?_
    refine pn_if_gt (tgt := 45) dX5_into_32 (by decide) (pn_gtz (by omega)) (fun h => ?_) (fun h => ?_)
    · refine px_iconst (v := nI 0) dX5_into_45 (by decide) ?_
      refine px_zret dX5_into_46 rfl (by decide) ⟨_, _, rfl, rfl, hc.symm ▸ rfl, ?_, fun z => by omega⟩ (by omega) (by omega)
      unfold nx_into; rw [if_neg (by omega)]; exact (mm_nq.rf s).I0 c
    · have c0 : kc_into s x b = 0 := by omega
      obtain ⟨hx, hb⟩ := kc_into0 c0
      obtain ⟨e1, e2⟩ := px_ix_tn hx
      obtain ⟨e3, e4⟩ := px_oc_o hb
      have e5 := ok.2.2.2.2.2.1 (px_tn x) e2
      refine px_aload_n dX5_into_35 rfl trivial ?_
      refine mm_get dX5_into_36 F_RX5_7 rfl ?_
      refine px_iload_n dX5_into_39 rfl ?_
      refine mm_ald_o dX5_into_40 rfl (by first | rfl | assumption) (by (try simp only [mr_I2, mr_An, mr_Ae, mr_D2, mr_Rn, mr_Re, mr_T2, ne_eq, Nat.reduceEqDiff, not_false_eq_true]); rfl) (by first | assumption | omega) ?_
      refine px_iload_n dX5_into_41 rfl ?_
      refine pn_icmp_ne (tgt := 47) dX5_into_42 (by decide) (px_eqo (n:=8) (by omega) (by show s.2.1 2 _ < _; omega) hb) (fun h2 => ?_) (fun h2 => ?_)
      · refine px_aload_n dX5_into_47 rfl trivial ?_
        refine mm_get dX5_into_48 F_RX5_7 rfl ?_
        refine px_iload_n dX5_into_51 rfl ?_
        refine px_iload_n dX5_into_52 rfl ?_
        refine mm_ast_o dX5_into_53 rfl (by first | rfl | assumption) (by first | exact px_o_n | exact px_o_s _ | rfl | assumption) (by first | assumption | omega) ?_
        refine px_iconst (v := nI 1) dX5_into_54 (by decide) ?_
        refine px_zret dX5_into_55 rfl (by decide) ⟨_, _, rfl, rfl, ?_, ?_, fun _ => ?_⟩ (by omega) (by omega)
        · rw [c0]; exact (show c = 0 by omega)
        · unfold nx_into
          rw [if_pos ⟨c0, h2⟩]
          exact mm_nq.A ((mm_nq.rf s).I0 c) (by decide) _ _
        · unfold va_into
          rw [if_neg h2]
      · refine px_iconst (v := nI 0) dX5_into_45 (by decide) ?_
        refine px_zret dX5_into_46 rfl (by decide) ⟨_, _, rfl, rfl, hc.symm ▸ rfl, ?_, fun _ => ?_⟩ (by omega) (by omega)
        · unfold nx_into; rw [if_neg (fun z => z.2 h2)]; exact (mm_nq.rf s).I0 c
        · unfold va_into; rw [if_pos h2]
  refine px_aload_n dX5_into_0 rfl trivial ?_
  refine px_aload_n dX5_into_1 rfl trivial ?_
  refine px_iload_n dX5_into_2 rfl ?_
  refine px_callVr ((me_isPin s X x hp)) dX5_into_3 L_RX5_99 (mm_rcv _ _) rfl rfl (by decide) (by omega) (by omega) (Nat.le_of_ble_eq_true rfl) ?_
  refine pn_if_eq (tgt := 20) dX5_into_6 (by decide) (px_bi_0 _) (fun h => ?_) (fun h => ?_)
  · refine px_iconst (v := nI 1) dX5_into_20 (by decide) ?_
    refine px_goto (tgt := 25) dX5_into_21 (by decide) ?_
    exact px_sub (tail 1 (by decide) (if_pos h)) rfl
  · have hx : px_ix x (s.1 1) := Decidable.of_not_not h
    refine px_iload_n dX5_into_9 rfl ?_
    refine px_iconst (v := -1) dX5_into_10 (by decide) ?_
    refine pn_icmp_lt (tgt := 20) dX5_into_11 (by decide) (px_ltm _) (fun h2 => ?_) (fun h2 => ?_)
    · refine px_iconst (v := nI 1) dX5_into_20 (by decide) ?_
      refine px_goto (tgt := 25) dX5_into_21 (by decide) ?_
      refine px_sub (tail 1 (by decide) ?_) rfl
      unfold kc_into
      rw [if_neg h, if_pos ⟨fun e => by rw [e] at h2; exact absurd h2 (by decide), fun z => by have := z.1; omega⟩]
    · refine px_iload_n dX5_into_14 rfl ?_
      refine px_bipush (v := nI 8) dX5_into_15 (by decide) ?_
      refine pn_icmp_lt (tgt := 24) dX5_into_17 (by decide) (px_ltN _ (by decide)) (fun h3 => ?_) (fun h3 => ?_)
      · refine px_iconst (v := nI 0) dX5_into_24 (by decide) ?_
        refine px_sub (tail 0 (by decide) ?_) rfl
        unfold kc_into
        rw [if_neg h, if_neg (fun z => z.2 ⟨by
          by_cases g : 0 ≤ b.toInt
          · exact g
          · exact absurd (px_m1_of (show b.toInt = -1 by omega)) z.1, by omega⟩)]
      · refine px_iconst (v := nI 1) dX5_into_20 (by decide) ?_
        refine px_goto (tgt := 25) dX5_into_21 (by decide) ?_
        refine px_sub (tail 1 (by decide) ?_) rfl
        unfold kc_into
        rw [if_neg h, if_pos ⟨fun e => by rw [e] at h3; exact h3 (by decide), fun z => by have := z.2; omega⟩]
end
section
/-! ===== delays that change ===== -/
def kc_whatIf (s : mm_S) (x : Int32) (d : Int) : Nat := if ¬ px_ix x (s.1 6) then 1 else if s.1 17 = 50 then 2 else if 0 ≤ d ∧ d ≤ 8388608 then 0 else 3
def va_whatIf (s : mm_S) (x : Int32) (d : Int) : Nat := if s.2.2 5 (px_tn x) = d then 0 else 1
def nx_whatIf (s : mm_S) (x : Int32) (d : Int) : mm_S := if kc_whatIf s x d = 0 ∧ s.2.2 5 (px_tn x) ≠ d then mm_I (mm_D (mm_I (mm_D (mm_A s 15 (s.1 17) (px_tn x)) 16 (s.1 17) (s.2.2 5 (px_tn x))) 17 (s.1 17 + 1)) 5 (px_tn x) d) 25 0 else s
theorem kc_whatIf0 {s : mm_S} {x : Int32} {d : Int} (c0 : kc_whatIf s x d = 0) : px_ix x (s.1 6) ∧ s.1 17 ≠ 50 ∧ 0 ≤ d ∧ d ≤ 8388608 := by
  unfold kc_whatIf at c0
  by_cases h1 : px_ix x (s.1 6)
  · rw [if_neg (fun z => z h1)] at c0
    by_cases h2 : s.1 17 = 50
    · rw [if_pos h2] at c0; omega
    · rw [if_neg h2] at c0
      by_cases h3 : 0 ≤ d ∧ d ≤ 8388608
      · exact ⟨h1, h2, h3⟩
      · rw [if_neg h3] at c0; omega
  · rw [if_pos h1] at c0; omega
set_option maxRecDepth 100000 in
set_option maxHeartbeats 4000000 in
theorem me_whatIf (s : mm_S) (X : px_M) (ok : mm_ok s) (x : Int32) (d : Int) (hd : d.natAbs ≤ 2 ^ 32) : px_Met 1 0 0 mX5_whatIf [.inr (1, 0), .inl (.int x), .inl (.double (dz d))] (mm_M s X) (mq X (kc_whatIf s x d) (nI (va_whatIf s x d)) (nx_whatIf s x d)) := by
  have h6 := ok.1.2.1
  have h17 := ok.1.2.2.2.2.1
  refine px_ofW (by decide) W_mX5_whatIf (Nat.le_of_ble_eq_true rfl) ?_
  have tail : ∀ c, c < 4 → kc_whatIf s x d = c → px_W 1 0 0 mX5_whatIf (mq X (kc_whatIf s x d) (nI (va_whatIf s x d)) (nx_whatIf s x d)) 43 [(0, .inr (1, 0)), (1, .inl (.int x)), (2, .inl (.double (dz d)))] [.inl (.int (nI c)), .inr (1, 0)] (mm_M s X) 0 0 := by
    intro c c4 hc
    refine mm_put dX5_whatIf_43 F_RX5_81 nf_5_0 (by decide) (by first | exact ⟨rfl, rfl⟩ | decide) ?_
    refine px_aload_n dX5_whatIf_46 rfl trivial ?_
    refine mm_gets dX5_whatIf_47 F_RX5_81 (by decide) (by (try simp only [mr_In, mr_Ie, mr_A1, mr_D1, mr_R1, mr_T1, ne_eq, Nat.reduceEqDiff, not_false_eq_true]); rfl) ?_
    refine pn_if_gt (tgt := 64) dX5_whatIf_50 (by decide) (pn_gtz (by omega)) (fun h => ?_) (fun h => ?_)
    · refine px_iconst (v := nI 0) dX5_whatIf_64 (by decide) ?_
      refine px_zret dX5_whatIf_65 rfl (by decide) ⟨_, _, rfl, rfl, hc.symm ▸ rfl, ?_, fun z => by omega⟩ (by omega) (by omega)
      unfold nx_whatIf; rw [if_neg (by omega)]; exact (mm_nq.rf s).I0 c
    · have c0 : kc_whatIf s x d = 0 := by omega
      obtain ⟨hx, hn, hd0, hd1⟩ := kc_whatIf0 c0
      obtain ⟨e1, e2⟩ := px_ix_tn hx
      have e5 := (ok.2.1 (px_tn x) e2).2.2
      have e6 := e5.1
      have e7 := e5.2
      refine px_aload_n dX5_whatIf_53 rfl trivial ?_
      refine mm_get dX5_whatIf_54 F_RX5_19 rfl ?_
      refine px_iload_n dX5_whatIf_57 rfl ?_
      refine mm_ald_d dX5_whatIf_58 rfl (by first | rfl | assumption) (by (try simp only [mr_I3, mr_A3, mr_Dn, mr_De, mr_R3, mr_Tn, mr_Te, ne_eq, Nat.reduceEqDiff, not_false_eq_true]); rfl) (by first | assumption | omega) ?_
      refine px_dload_n dX5_whatIf_59 rfl ?_
      refine pn_dcmp dX5_whatIf_60 rfl rfl (by omega) (by omega) ?_
      refine pn_if_ne (tgt := 66) dX5_whatIf_61 (by decide) (dz_c_eq _ _) (fun h2 => ?_) (fun h2 => ?_)
      · refine px_aload_n dX5_whatIf_66 rfl trivial ?_
        refine mm_get dX5_whatIf_67 F_RX5_41 rfl ?_
        refine px_aload_n dX5_whatIf_70 rfl trivial ?_
        refine mm_gets dX5_whatIf_71 F_RX5_173 (by decide) (by (try simp only [mr_In, mr_Ie, mr_A1, mr_D1, mr_R1, mr_T1, ne_eq, Nat.reduceEqDiff, not_false_eq_true]); rfl) ?_
        refine px_iload_n dX5_whatIf_74 rfl ?_
        refine mm_ast dX5_whatIf_75 rfl (by first | rfl | assumption) (by first | rfl | assumption) (by first | assumption | omega) ?_
        refine px_aload_n dX5_whatIf_76 rfl trivial ?_
        refine mm_get dX5_whatIf_77 F_RX5_44 rfl ?_
        refine px_aload_n dX5_whatIf_80 rfl trivial ?_
        refine mm_gets dX5_whatIf_81 F_RX5_173 (by decide) (by (try simp only [mr_In, mr_Ie, mr_A1, mr_D1, mr_R1, mr_T1, ne_eq, Nat.reduceEqDiff, not_false_eq_true]); rfl) ?_
        refine px_aload_n dX5_whatIf_84 rfl trivial ?_
        refine mm_get dX5_whatIf_85 F_RX5_19 rfl ?_
        refine px_iload_n dX5_whatIf_88 rfl ?_
        refine mm_ald_d dX5_whatIf_89 rfl (by first | rfl | assumption) (by (try simp only [mr_I3, mr_A3, mr_Dn, mr_De, mr_R3, mr_Tn, mr_Te, ne_eq, Nat.reduceEqDiff, not_false_eq_true]); rfl) (by first | assumption | omega) ?_
        refine mm_ast_d dX5_whatIf_90 rfl (by first | rfl | assumption) (by first | rfl | assumption) (by first | assumption | omega) ?_
        refine px_aload_n dX5_whatIf_91 rfl trivial ?_
        refine px_dup dX5_whatIf_92 rfl ?_
        refine mm_gets dX5_whatIf_93 F_RX5_173 (by decide) (by (try simp only [mr_In, mr_Ie, mr_A1, mr_D1, mr_R1, mr_T1, ne_eq, Nat.reduceEqDiff, not_false_eq_true]); rfl) ?_
        refine px_iconst (v := nI 1) dX5_whatIf_96 (by decide) ?_
        refine pn_iadd dX5_whatIf_97 (by first | exact nI_add _ _ | rfl) ?_
        refine mm_put dX5_whatIf_98 F_RX5_173 nf_5_17 (by decide) (by first | exact ⟨rfl, rfl⟩ | decide) ?_
        refine px_aload_n dX5_whatIf_101 rfl trivial ?_
        refine mm_get dX5_whatIf_102 F_RX5_19 rfl ?_
        refine px_iload_n dX5_whatIf_105 rfl ?_
        refine px_dload_n dX5_whatIf_106 rfl ?_
        refine pn_dconst0 dX5_whatIf_107 ?_
        refine pn_dadd dX5_whatIf_108 (by omega) (by omega) (by first | exact Int.add_zero _ | rfl) ?_
        refine mm_ast_d dX5_whatIf_109 rfl (by first | rfl | assumption) (by first | rfl | assumption) (by first | assumption | omega) ?_
        refine px_aload_n dX5_whatIf_110 rfl trivial ?_
        refine px_iconst (v := nI 0) dX5_whatIf_111 (by decide) ?_
        refine mm_put dX5_whatIf_112 F_RX5_92 nf_5_25 (by decide) (by first | exact ⟨rfl, rfl⟩ | decide) ?_
        refine px_iconst (v := nI 1) dX5_whatIf_115 (by decide) ?_
        refine px_zret dX5_whatIf_116 rfl (by decide) ⟨_, _, rfl, rfl, ?_, ?_, fun _ => ?_⟩ (by omega) (by omega)
        · rw [c0]; exact (show c = 0 by omega)
        · unfold nx_whatIf
          rw [if_pos ⟨c0, h2⟩]
          exact mm_nq.I (mm_nq.D (mm_nq.I (mm_nq.D (mm_nq.A ((mm_nq.rf s).I0 c) (by decide) _ _) (by decide) _ _) _ _) (by decide) _ _) _ _
        · unfold va_whatIf
          rw [if_neg h2]
      · refine px_iconst (v := nI 0) dX5_whatIf_64 (by decide) ?_
        refine px_zret dX5_whatIf_65 rfl (by decide) ⟨_, _, rfl, rfl, hc.symm ▸ rfl, ?_, fun _ => ?_⟩ (by omega) (by omega)
        · unfold nx_whatIf; rw [if_neg (fun z => z.2 h2)]; exact (mm_nq.rf s).I0 c
        · unfold va_whatIf; rw [if_pos h2]
  have t2 : px_ix x (s.1 6) → px_W 1 0 0 mX5_whatIf (mq X (kc_whatIf s x d) (nI (va_whatIf s x d)) (nx_whatIf s x d)) 17 [(0, .inr (1, 0)), (1, .inl (.int x)), (2, .inl (.double (dz d)))] [.inr (1, 0)] (mm_M s X) 0 0 := by
    intro hx
    refine px_aload_n dX5_whatIf_17 rfl trivial ?_
    refine mm_gets dX5_whatIf_18 F_RX5_173 (by decide) (by (try simp only [mr_In, mr_Ie, mr_A1, mr_D1, mr_R1, mr_T1, ne_eq, Nat.reduceEqDiff, not_false_eq_true]); rfl) ?_
    refine px_bipush (v := nI 50) dX5_whatIf_21 (by decide) ?_
    refine pn_icmp_ne (tgt := 30) dX5_whatIf_23 (by decide) (nI_eq (by omega) (by omega)) (fun h2 => ?_) (fun h2 => ?_)
    · refine px_dload_n dX5_whatIf_30 rfl ?_
      refine pn_dconst0 dX5_whatIf_31 ?_
      refine px_callSr ((me_isTime _ d 0 (by omega) (by omega))) dX5_whatIf_32 L_RX5_103 rfl rfl (by decide) (by omega) (by omega) (Nat.le_of_ble_eq_true rfl) ?_
      refine pn_if_eq (tgt := 42) dX5_whatIf_35 (by decide) (px_bi_0 _) (fun h3 => ?_) (fun h3 => ?_)
      · refine px_iconst (v := nI 3) dX5_whatIf_42 (by decide) ?_
        refine px_sub (tail 3 (by decide) ?_) rfl
        unfold kc_whatIf
        rw [if_neg (fun z => z hx), if_neg h2, if_neg h3]
      · refine px_iconst (v := nI 0) dX5_whatIf_38 (by decide) ?_
        refine px_goto (tgt := 43) dX5_whatIf_39 (by decide) ?_
        refine px_sub (tail 0 (by decide) ?_) rfl
        unfold kc_whatIf
        rw [if_neg (fun z => z hx), if_neg h2, if_pos (Decidable.of_not_not h3)]
    · refine px_iconst (v := nI 2) dX5_whatIf_26 (by decide) ?_
      refine px_goto (tgt := 43) dX5_whatIf_27 (by decide) ?_
      refine px_sub (tail 2 (by decide) ?_) rfl
      unfold kc_whatIf
      rw [if_neg (fun z => z hx), if_pos h2]
  refine px_aload_n dX5_whatIf_0 rfl trivial ?_
  refine px_iload_n dX5_whatIf_1 rfl ?_
  refine pn_if_lt (tgt := 13) dX5_whatIf_2 (by decide) (px_lt0 _) (fun h => ?_) (fun h => ?_)
  · refine px_iconst (v := nI 1) dX5_whatIf_13 (by decide) ?_
    refine px_goto (tgt := 43) dX5_whatIf_14 (by decide) ?_
    exact px_sub (tail 1 (by decide) (if_pos (fun z => by have := z.1; omega))) rfl
  · refine px_iload_n dX5_whatIf_5 rfl ?_
    refine px_aload_n dX5_whatIf_6 rfl trivial ?_
    refine mm_gets dX5_whatIf_7 F_RX5_96 (by decide) (by (try simp only [mr_In, mr_Ie, mr_A1, mr_D1, mr_R1, mr_T1, ne_eq, Nat.reduceEqDiff, not_false_eq_true]); rfl) ?_
    refine pn_icmp_lt (tgt := 17) dX5_whatIf_10 (by decide) (px_ltN _ (by omega)) (fun h2 => ?_) (fun h2 => ?_)
    · exact px_sub (t2 ⟨by omega, by omega⟩) rfl
    · refine px_iconst (v := nI 1) dX5_whatIf_13 (by decide) ?_
      refine px_goto (tgt := 43) dX5_whatIf_14 (by decide) ?_
      exact px_sub (tail 1 (by decide) (if_pos (fun z => by have := z.2; omega))) rfl
def va_back (s : mm_S) : Nat := if s.1 17 = 0 then 0 else 1
def nx_back (s : mm_S) : mm_S := if s.1 17 = 0 then s else mm_I (mm_D (mm_I s 17 (s.1 17 - 1)) 5 (s.2.1 15 (s.1 17 - 1)) (s.2.2 16 (s.1 17 - 1))) 25 0
set_option maxRecDepth 100000 in
set_option maxHeartbeats 4000000 in
theorem me_back (s : mm_S) (X : px_M) (ok : mm_ok s) : px_Met 0 0 0 mX5_back [.inr (1, 0)] (mm_M s X) (mq X 0 (nI (va_back s)) (nx_back s)) := by
  have h6 := ok.1.2.1
  have h17 := ok.1.2.2.2.2.1
  refine px_ofW (by decide) W_mX5_back (Nat.le_of_ble_eq_true rfl) ?_
  refine px_aload_n dX5_back_0 rfl trivial ?_
  refine px_iconst (v := nI 0) dX5_back_1 (by decide) ?_
  refine mm_put dX5_back_2 F_RX5_81 nf_5_0 (by decide) (by first | exact ⟨rfl, rfl⟩ | decide) ?_
  refine px_aload_n dX5_back_5 rfl trivial ?_
  refine mm_gets dX5_back_6 F_RX5_173 (by decide) (by (try simp only [mr_In, mr_Ie, mr_A1, mr_D1, mr_R1, mr_T1, ne_eq, Nat.reduceEqDiff, not_false_eq_true]); rfl) ?_
  refine pn_if_ne (tgt := 14) dX5_back_9 (by decide) (pn_z (by omega)) (fun h => ?_) (fun h => ?_)
  · have h0 := (ok.2.2.2.2.2.2.1 (s.1 17 - 1) (by omega)).1
    refine px_aload_n dX5_back_14 rfl trivial ?_
    refine px_dup dX5_back_15 rfl ?_
    refine mm_gets dX5_back_16 F_RX5_173 (by decide) (by (try simp only [mr_In, mr_Ie, mr_A1, mr_D1, mr_R1, mr_T1, ne_eq, Nat.reduceEqDiff, not_false_eq_true]); rfl) ?_
    refine px_iconst (v := nI 1) dX5_back_19 (by decide) ?_
    refine pn_isub dX5_back_20 (by first | exact pk_sub (by omega) | rfl) ?_
    refine mm_put dX5_back_21 F_RX5_173 nf_5_17 (by decide) (by first | exact ⟨rfl, rfl⟩ | decide) ?_
    refine px_aload_n dX5_back_24 rfl trivial ?_
    refine mm_get dX5_back_25 F_RX5_19 rfl ?_
    refine px_aload_n dX5_back_28 rfl trivial ?_
    refine mm_get dX5_back_29 F_RX5_41 rfl ?_
    refine px_aload_n dX5_back_32 rfl trivial ?_
    refine mm_gets dX5_back_33 F_RX5_173 (by decide) (by (try simp only [mr_In, mr_Ie, mr_A1, mr_D1, mr_R1, mr_T1, ne_eq, Nat.reduceEqDiff, not_false_eq_true]); rfl) ?_
    refine mm_ald dX5_back_36 rfl (by first | rfl | assumption) (by (try simp only [mr_I2, mr_An, mr_Ae, mr_D2, mr_Rn, mr_Re, mr_T2, ne_eq, Nat.reduceEqDiff, not_false_eq_true]); rfl) (by first | assumption | omega) ?_
    refine px_aload_n dX5_back_37 rfl trivial ?_
    refine mm_get dX5_back_38 F_RX5_44 rfl ?_
    refine px_aload_n dX5_back_41 rfl trivial ?_
    refine mm_gets dX5_back_42 F_RX5_173 (by decide) (by (try simp only [mr_In, mr_Ie, mr_A1, mr_D1, mr_R1, mr_T1, ne_eq, Nat.reduceEqDiff, not_false_eq_true]); rfl) ?_
    refine mm_ald_d dX5_back_45 rfl (by first | rfl | assumption) (by (try simp only [mr_I3, mr_A3, mr_Dn, mr_De, mr_R3, mr_Tn, mr_Te, ne_eq, Nat.reduceEqDiff, not_false_eq_true]); rfl) (by first | assumption | omega) ?_
    refine mm_ast_d dX5_back_46 rfl (by first | rfl | assumption) (by first | rfl | assumption) (by first | assumption | omega) ?_
    refine px_aload_n dX5_back_47 rfl trivial ?_
    refine px_iconst (v := nI 0) dX5_back_48 (by decide) ?_
    refine mm_put dX5_back_49 F_RX5_92 nf_5_25 (by decide) (by first | exact ⟨rfl, rfl⟩ | decide) ?_
    refine px_iconst (v := nI 1) dX5_back_52 (by decide) ?_
    refine px_zret dX5_back_53 rfl (by decide) ⟨_, _, rfl, rfl, rfl, ?_, fun _ => ?_⟩ (by omega) (by omega)
    · unfold nx_back; rw [if_neg h]
      exact mm_nq.I (mm_nq.D (mm_nq.I ((mm_nq.rf s).I0 0) _ _) (by decide) _ _) _ _
    · unfold va_back; rw [if_neg h]
  · refine px_iconst (v := nI 0) dX5_back_12 (by decide) ?_
    refine px_zret dX5_back_13 rfl (by decide) ⟨_, _, rfl, rfl, rfl, ?_, fun _ => ?_⟩ (by omega) (by omega)
    · unfold nx_back; rw [if_pos h]; exact (mm_nq.rf s).I0 0
    · unfold va_back; rw [if_pos h]
def kc_fault (s : mm_S) (x : Int32) : Nat := if s.1 25 = 0 then 1 else if ¬ px_ix x (s.1 24) then 2 else 0
set_option maxRecDepth 100000 in
set_option maxHeartbeats 4000000 in
theorem me_faultOf (s : mm_S) (X : px_M) (ok : mm_ok s) (x : Int32) : px_Met 0 0 0 mX5_faultOf [.inr (1, 0), .inl (.int x)] (mm_M s X) (px_rt (some (.inl (.int (nI (kc_fault s x))))) (mm_M s X)) := by
  have h25 := ok.1.2.2.2.2.2.1
  have h24 := ok.1.2.2.2.2.2.2
  refine px_ofW (by decide) W_mX5_faultOf (Nat.le_of_ble_eq_true rfl) ?_
  refine px_aload_n dX5_faultOf_0 rfl trivial ?_
  refine mm_gets dX5_faultOf_1 F_RX5_92 (by decide) (by (try simp only [mr_In, mr_Ie, mr_A1, mr_D1, mr_R1, mr_T1, ne_eq, Nat.reduceEqDiff, not_false_eq_true]); rfl) ?_
  refine pn_if_ne (tgt := 11) dX5_faultOf_4 (by decide) (pn_z (by omega)) (fun h => ?_) (fun h => ?_)
  · refine px_iload_n dX5_faultOf_11 rfl ?_
    refine pn_if_lt (tgt := 23) dX5_faultOf_12 (by decide) (px_lt0 _) (fun h2 => ?_) (fun h2 => ?_)
    · refine px_iconst (v := nI 2) dX5_faultOf_23 (by decide) ?_
      refine px_goto (tgt := 28) dX5_faultOf_24 (by decide) ?_
      refine px_iret dX5_faultOf_28 rfl ?_ (by omega) (by omega)
      exact ⟨by unfold kc_fault; rw [if_neg h, if_pos (fun z => by have := z.1; omega)], rfl⟩
    · refine px_iload_n dX5_faultOf_15 rfl ?_
      refine px_aload_n dX5_faultOf_16 rfl trivial ?_
      refine mm_gets dX5_faultOf_17 F_RX5_145 (by decide) (by (try simp only [mr_In, mr_Ie, mr_A1, mr_D1, mr_R1, mr_T1, ne_eq, Nat.reduceEqDiff, not_false_eq_true]); rfl) ?_
      refine pn_icmp_lt (tgt := 27) dX5_faultOf_20 (by decide) (px_ltN _ (by omega)) (fun h3 => ?_) (fun h3 => ?_)
      · refine px_iconst (v := nI 0) dX5_faultOf_27 (by decide) ?_
        refine px_iret dX5_faultOf_28 rfl ?_ (by omega) (by omega)
        exact ⟨by unfold kc_fault; rw [if_neg h, if_neg (fun z => z ⟨by omega, by omega⟩)], rfl⟩
      · refine px_iconst (v := nI 2) dX5_faultOf_23 (by decide) ?_
        refine px_goto (tgt := 28) dX5_faultOf_24 (by decide) ?_
        refine px_iret dX5_faultOf_28 rfl ?_ (by omega) (by omega)
        exact ⟨by unfold kc_fault; rw [if_neg h, if_pos (fun z => by have := z.2; omega)], rfl⟩
  · refine px_iconst (v := nI 1) dX5_faultOf_7 (by decide) ?_
    refine px_goto (tgt := 28) dX5_faultOf_8 (by decide) ?_
    refine px_iret dX5_faultOf_28 rfl ?_ (by omega) (by omega)
    exact ⟨by unfold kc_fault; rw [if_pos h], rfl⟩
end
section
/-! ===== walks of arcs, all or inside a block; what spread marks ===== -/
def mm_in (s : mm_S) (b a : Nat) : Prop := b = 0 ∨ s.2.1 2 (s.2.1 3 a) = b ∧ s.2.1 2 (s.2.1 4 a) = b
def mm_wk (s : mm_S) (b : Nat) : Nat → List Nat → Nat → Prop
  | p, [], q => p = q
  | p, a :: as, q => a < s.1 6 ∧ mm_in s b a ∧ s.2.1 3 a = p ∧ mm_wk s b (s.2.1 4 a) as q
def mm_rch (s : mm_S) (b p q : Nat) : Prop := ∃ as, mm_wk s b p as q
theorem mm_wk_ap {s : mm_S} {b : Nat} : ∀ {as bs : List Nat} {p q r : Nat}, mm_wk s b p as q → mm_wk s b q bs r → mm_wk s b p (as ++ bs) r := by
  intro as
  induction as with
  | nil => intro bs p q r h g; cases h; exact g
  | cons a as ih => intro bs p q r h g; exact ⟨h.1, h.2.1, h.2.2.1, ih h.2.2.2 g⟩
theorem mm_rch.ext {s : mm_S} {b p a : Nat} (h : mm_rch s b p (s.2.1 3 a)) (ha : a < s.1 6) (hi : mm_in s b a) : mm_rch s b p (s.2.1 4 a) := by
  obtain ⟨as, h⟩ := h
  exact ⟨as ++ [a], mm_wk_ap h ⟨ha, hi, rfl, rfl⟩⟩
theorem mm_closed {s : mm_S} {b : Nat} {P : Nat → Prop} (hc : ∀ a, a < s.1 6 → mm_in s b a → P (s.2.1 3 a) → P (s.2.1 4 a)) : ∀ {as : List Nat} {p q : Nat}, P p → mm_wk s b p as q → P q := by
  intro as
  induction as with
  | nil => intro p q h g; cases g; exact h
  | cons a as ih => intro p q h g; exact ih (hc a g.1 g.2.1 (g.2.2.1 ▸ h)) g.2.2.2
theorem px_cnt_same {f f' : Nat → Nat} {g : Nat} : ∀ {k : Nat}, (∀ i, i < k → f i = f' i) → px_cnt f g k = px_cnt f' g k := by
  intro k
  induction k with
  | zero => intro _; rfl
  | succ k ih =>
    intro h
    show px_cnt f g k + _ = px_cnt f' g k + _
    rw [ih fun i hi => h i (by omega), h k (by omega)]
theorem px_cnt_up {f : Nat → Nat} {q : Nat} (hq : f q = 0) : ∀ {k : Nat}, q < k → px_cnt (px_upN f q 1) 0 k + 1 = px_cnt f 0 k := by
  intro k
  induction k with
  | zero => intro h; omega
  | succ k ih =>
    intro h
    show px_cnt (px_upN f q 1) 0 k + (if px_upN f q 1 k = 0 then 1 else 0) + 1 = px_cnt f 0 k + (if f k = 0 then 1 else 0)
    by_cases e : k = q
    · subst e
      rw [if_neg (show ¬ px_upN f k 1 k = 0 by unfold px_upN; rw [if_pos rfl]; decide), if_pos hq, px_cnt_same (f := px_upN f k 1) (f' := f) (fun i hi => if_neg (show ¬ i = k by omega))]
    · rw [show px_upN f q 1 k = f k from if_neg e]
      have := ih (by omega)
      omega
def mm_spr (s : mm_S) (X : px_M) (p b : Nat) : px_Q := fun o M' => o = .inl none ∧ ∃ f : Nat → Nat, M' = mm_M (mm_R s 26 f) X ∧ ∀ q, q < 60 → f q ≤ 1 ∧ (f q = 1 ↔ mm_rch s b p q)
set_option maxRecDepth 100000 in
set_option maxHeartbeats 4000000 in
theorem me_spread_l (s : mm_S) (X : px_M) (ok : mm_ok s) (p b : Nat) (hp : p < 60) (hb : b ≤ 60) : ∀ (N : Nat) (f : Nat → Nat), px_cnt f 0 60 < N → f p = 1 → (∀ q, q < 60 → f q ≤ 1 ∧ (f q = 1 → mm_rch s b p q)) →
    px_W 0 0 0 mX5_spread (mm_spr s X p b) 36 [(0, .inr (1, 0)), (2, .inl (.int (px_o b)))] [] (mm_M (mm_R s 26 f) X) 0 0 := by
  have h6 := ok.1.2.1
  have h1 := ok.1.1
  intro N
  induction N with
  | zero => intro f h; omega
  | succ N ihN =>
    intro f hN fp hf
    have loop : ∀ (u a y : Nat) (f' : Nat → Nat), a ≤ s.1 6 → s.1 6 < a + u → f' p = 1 → (∀ q, q < 60 → f' q ≤ 1 ∧ (f' q = 1 → mm_rch s b p q)) →
        ((y = 0 ∧ px_cnt f' 0 60 = px_cnt f 0 60 ∧ ∀ a', a' < a → mm_in s b a' → f' (s.2.1 3 a') = 1 → f' (s.2.1 4 a') = 1) ∨ (y = 1 ∧ px_cnt f' 0 60 < px_cnt f 0 60)) →
        px_W 0 0 0 mX5_spread (mm_spr s X p b) 41 [(0, .inr (1, 0)), (2, .inl (.int (px_o b))), (3, .inl (.int (nI y))), (4, .inl (.int (nI a)))] [] (mm_M (mm_R s 26 f') X) 0 0 := by
      intro u
      induction u with
      | zero => intro a y f' g1 g2; omega
      | succ u ihu =>
        intro a y f' g1 g2 fp' hf' hy
        refine px_iload dX5_spread_41 rfl ?_
        refine px_aload_n dX5_spread_43 rfl trivial ?_
        refine mm_gets dX5_spread_44 F_RX5_96 (by decide) (by (try simp only [mr_In, mr_Ie, mr_A1, mr_D1, mr_R1, mr_T1, ne_eq, Nat.reduceEqDiff, not_false_eq_true]); rfl) ?_
        refine pn_icmp_ge (tgt := 150) dX5_spread_47 (by decide) (nI_leI (by omega) (by omega)) (fun g3 => ?_) (fun g3 => ?_)
        · have y1 : y ≤ 1 := by rcases hy with ⟨z, -⟩ | ⟨z, -⟩ <;> omega
          refine px_goto (tgt := 32) dX5_spread_150 (by decide) ?_
          refine px_iload_n dX5_spread_32 rfl ?_
          refine pn_if_eq (tgt := 153) dX5_spread_33 (by decide) (pn_z (by omega)) (fun g4 => ?_) (fun g4 => ?_)
          · refine px_vret dX5_spread_153 rfl ⟨rfl, f', rfl, fun q hq => ⟨(hf' q hq).1, (hf' q hq).2, ?_⟩⟩ (by omega) (by omega)
            rcases hy with ⟨-, -, hc⟩ | ⟨hy, -⟩
            · rintro ⟨as, hw⟩
              exact mm_closed (P := fun q => f' q = 1) (fun a' ha hi h => hc a' (by have : s.1 6 ≤ a := g3; omega) hi h) fp' hw
            · omega
          · refine px_sub (ihN f' ?_ fp' hf') rfl
            rcases hy with ⟨hy, -⟩ | ⟨-, hy⟩
            · exact absurd hy g4
            · omega
        · have g3' : a < s.1 6 := by have : ¬ s.1 6 ≤ a := g3; omega
          obtain ⟨b1, b2, -, -⟩ := ok.2.1 a g3'
          have go : ∀ y' f'', f'' p = 1 → (∀ q, q < 60 → f'' q ≤ 1 ∧ (f'' q = 1 → mm_rch s b p q)) → ((y' = 0 ∧ px_cnt f'' 0 60 = px_cnt f 0 60 ∧ ∀ a', a' < a + 1 → mm_in s b a' → f'' (s.2.1 3 a') = 1 → f'' (s.2.1 4 a') = 1) ∨ (y' = 1 ∧ px_cnt f'' 0 60 < px_cnt f 0 60)) → ∀ z, px_W 0 0 0 mX5_spread (mm_spr s X p b) 144 [(0, .inr (1, 0)), (2, .inl (.int (px_o b))), (3, .inl (.int (nI y'))), (4, .inl (.int (nI a))), (5, z)] [] (mm_M (mm_R s 26 f'') X) 0 0 := by
            intro y' f'' k1 k2 k3 z
            refine px_iinc dX5_spread_144 rfl (by first | exact pn_i1 _ | exact pn_im1 (by omega)) (by decide) ?_
            refine px_goto (tgt := 41) dX5_spread_147 (by decide) ?_
            exact px_sub (ihu (a + 1) y' f'' (by omega) (by omega) k1 k2 k3) rfl
          have skip : ¬ (mm_in s b a ∧ f' (s.2.1 3 a) = 1 ∧ f' (s.2.1 4 a) = 0) → ((y = 0 ∧ px_cnt f' 0 60 = px_cnt f 0 60 ∧ ∀ a', a' < a + 1 → mm_in s b a' → f' (s.2.1 3 a') = 1 → f' (s.2.1 4 a') = 1) ∨ (y = 1 ∧ px_cnt f' 0 60 < px_cnt f 0 60)) := by
            intro k
            rcases hy with ⟨hy, hn, hc⟩ | hy
            · refine Or.inl ⟨hy, hn, fun a' ha hi h => ?_⟩
              by_cases e : a' = a
              · subst e
                have := (hf' (s.2.1 4 a') (by omega)).1
                have k' : ¬ f' (s.2.1 4 a') = 0 := fun z => k ⟨hi, h, z⟩
                omega
              · exact hc a' (by omega) hi h
            · exact Or.inr hy
          have body : ∀ w, w ≤ 1 → (w = 1 ↔ mm_in s b a) → px_W 0 0 0 mX5_spread (mm_spr s X p b) 92 [(0, .inr (1, 0)), (2, .inl (.int (px_o b))), (3, .inl (.int (nI y))), (4, .inl (.int (nI a)))] [.inl (.int (nI w))] (mm_M (mm_R s 26 f') X) 0 0 := by
            intro w w1 hw
            refine px_istore dX5_spread_92 (by decide) ?_
            refine px_iload dX5_spread_94 rfl ?_
            refine pn_if_eq (tgt := 144) dX5_spread_96 (by decide) (pn_z (by omega)) (fun k1 => ?_) (fun k1 => ?_)
            · exact px_sub (go y f' fp' hf' (skip (fun z => by have := hw.mpr z.1; omega)) _) rfl
            · have hi : mm_in s b a := hw.mp (by omega)
              have k5 := (hf' (s.2.1 3 a) (by omega)).1
              have k6 := (hf' (s.2.1 4 a) (by omega)).1
              refine px_aload_n dX5_spread_99 rfl trivial ?_
              refine mm_get dX5_spread_100 F_RX5_65 rfl ?_
              refine px_aload_n dX5_spread_103 rfl trivial ?_
              refine mm_get dX5_spread_104 F_RX5_13 rfl ?_
              refine px_iload dX5_spread_107 rfl ?_
              refine mm_ald dX5_spread_109 rfl (by first | rfl | assumption) (by (try simp only [mr_I2, mr_An, mr_Ae, mr_D2, mr_Rn, mr_Re, mr_T2, ne_eq, Nat.reduceEqDiff, not_false_eq_true]); rfl) (by first | assumption | omega) ?_
              refine mm_ald_z dX5_spread_110 rfl (by first | rfl | assumption) (by (try simp only [mr_I2, mr_An, mr_Ae, mr_D2, mr_Rn, mr_Re, mr_T2, ne_eq, Nat.reduceEqDiff, not_false_eq_true]); rfl) (by first | assumption | omega) ?_
              refine pn_if_eq (tgt := 144) dX5_spread_111 (by decide) (pn_z (by omega)) (fun k2 => ?_) (fun k2 => ?_)
              · exact px_sub (go y f' fp' hf' (skip (fun z => by omega)) _) rfl
              · refine px_aload_n dX5_spread_114 rfl trivial ?_
                refine mm_get dX5_spread_115 F_RX5_65 rfl ?_
                refine px_aload_n dX5_spread_118 rfl trivial ?_
                refine mm_get dX5_spread_119 F_RX5_16 rfl ?_
                refine px_iload dX5_spread_122 rfl ?_
                refine mm_ald dX5_spread_124 rfl (by first | rfl | assumption) (by (try simp only [mr_I2, mr_An, mr_Ae, mr_D2, mr_Rn, mr_Re, mr_T2, ne_eq, Nat.reduceEqDiff, not_false_eq_true]); rfl) (by first | assumption | omega) ?_
                refine mm_ald_z dX5_spread_125 rfl (by first | rfl | assumption) (by (try simp only [mr_I2, mr_An, mr_Ae, mr_D2, mr_Rn, mr_Re, mr_T2, ne_eq, Nat.reduceEqDiff, not_false_eq_true]); rfl) (by first | assumption | omega) ?_
                refine pn_if_ne (tgt := 144) dX5_spread_126 (by decide) (pn_z (by omega)) (fun k3 => ?_) (fun k3 => ?_)
                · exact px_sub (go y f' fp' hf' (skip (fun z => k3 z.2.2)) _) rfl
                · have k2' : f' (s.2.1 3 a) = 1 := by omega
                  refine px_aload_n dX5_spread_129 rfl trivial ?_
                  refine mm_get dX5_spread_130 F_RX5_65 rfl ?_
                  refine px_aload_n dX5_spread_133 rfl trivial ?_
                  refine mm_get dX5_spread_134 F_RX5_16 rfl ?_
                  refine px_iload dX5_spread_137 rfl ?_
                  refine mm_ald dX5_spread_139 rfl (by first | rfl | assumption) (by (try simp only [mr_I2, mr_An, mr_Ae, mr_D2, mr_Rn, mr_Re, mr_T2, ne_eq, Nat.reduceEqDiff, not_false_eq_true]); rfl) (by first | assumption | omega) ?_
                  refine px_iconst (v := nI 1) dX5_spread_140 (by decide) ?_
                  refine mm_ast_z dX5_spread_141 rfl (by first | rfl | assumption) (by first | rfl | assumption) (by first | assumption | omega) (by omega) ?_
                  refine px_iconst (v := nI 1) dX5_spread_142 (by decide) ?_
                  refine px_istore_n dX5_spread_143 (by decide) ?_
                  rw [mr_RA]
                  refine px_sub (go 1 (px_upN f' (s.2.1 4 a) 1) ?_ ?_ (Or.inr ⟨rfl, ?_⟩) _) rfl
                  · unfold px_upN; split
                    · rfl
                    · exact fp'
                  · intro q hq
                    unfold px_upN
                    by_cases e : q = s.2.1 4 a
                    · rw [if_pos e]
                      exact ⟨Nat.le_refl _, fun _ => e ▸ ((hf' _ (by omega)).2 k2').ext g3' hi⟩
                    · rw [if_neg e]; exact hf' q hq
                  · have := px_cnt_up (f := f') (q := s.2.1 4 a) k3 (k := 60) (by omega)
                    rcases hy with ⟨-, hy, -⟩ | ⟨-, hy⟩ <;> omega
          have b3 := ok.2.2.2.2.2.1 (s.2.1 3 a) b1
          have b4 := ok.2.2.2.2.2.1 (s.2.1 4 a) b2
          refine px_iload_n dX5_spread_50 rfl ?_
          refine px_iconst (v := -1) dX5_spread_51 (by decide) ?_
          refine pn_icmp_eq (tgt := 87) dX5_spread_52 (by decide) (px_o_no (by omega)) (fun k1 => ?_) (fun k1 => ?_)
          · refine px_iconst (v := nI 1) dX5_spread_87 (by decide) ?_
            refine px_goto (tgt := 92) dX5_spread_88 (by decide) ?_
            exact px_sub (body 1 (by decide) ⟨fun _ => Or.inl k1, fun _ => rfl⟩) rfl
          · refine px_aload_n dX5_spread_55 rfl trivial ?_
            refine mm_get dX5_spread_56 F_RX5_7 rfl ?_
            refine px_aload_n dX5_spread_59 rfl trivial ?_
            refine mm_get dX5_spread_60 F_RX5_13 rfl ?_
            refine px_iload dX5_spread_63 rfl ?_
            refine mm_ald dX5_spread_65 rfl (by first | rfl | assumption) (by (try simp only [mr_I2, mr_An, mr_Ae, mr_D2, mr_Rn, mr_Re, mr_T2, ne_eq, Nat.reduceEqDiff, not_false_eq_true]); rfl) (by first | assumption | omega) ?_
            refine mm_ald_o dX5_spread_66 rfl (by first | rfl | assumption) (by (try simp only [mr_I2, mr_An, mr_Ae, mr_D2, mr_Rn, mr_Re, mr_T2, ne_eq, Nat.reduceEqDiff, not_false_eq_true]); rfl) (by first | assumption | omega) ?_
            refine px_iload_n dX5_spread_67 rfl ?_
            refine pn_icmp_ne (tgt := 91) dX5_spread_68 (by decide) (px_o_eq (by omega) (by omega)) (fun k2 => ?_) (fun k2 => ?_)
            · refine px_iconst (v := nI 0) dX5_spread_91 (by decide) ?_
              exact px_sub (body 0 (by decide) ⟨fun z => by omega, fun z => (z.elim k1 (fun z => k2 z.1)).elim⟩) rfl
            · refine px_aload_n dX5_spread_71 rfl trivial ?_
              refine mm_get dX5_spread_72 F_RX5_7 rfl ?_
              refine px_aload_n dX5_spread_75 rfl trivial ?_
              refine mm_get dX5_spread_76 F_RX5_16 rfl ?_
              refine px_iload dX5_spread_79 rfl ?_
              refine mm_ald dX5_spread_81 rfl (by first | rfl | assumption) (by (try simp only [mr_I2, mr_An, mr_Ae, mr_D2, mr_Rn, mr_Re, mr_T2, ne_eq, Nat.reduceEqDiff, not_false_eq_true]); rfl) (by first | assumption | omega) ?_
              refine mm_ald_o dX5_spread_82 rfl (by first | rfl | assumption) (by (try simp only [mr_I2, mr_An, mr_Ae, mr_D2, mr_Rn, mr_Re, mr_T2, ne_eq, Nat.reduceEqDiff, not_false_eq_true]); rfl) (by first | assumption | omega) ?_
              refine px_iload_n dX5_spread_83 rfl ?_
              refine pn_icmp_ne (tgt := 91) dX5_spread_84 (by decide) (px_o_eq (by omega) (by omega)) (fun k3 => ?_) (fun k3 => ?_)
              · refine px_iconst (v := nI 0) dX5_spread_91 (by decide) ?_
                exact px_sub (body 0 (by decide) ⟨fun z => by omega, fun z => (z.elim k1 (fun z => k3 z.2)).elim⟩) rfl
              · refine px_iconst (v := nI 1) dX5_spread_87 (by decide) ?_
                refine px_goto (tgt := 92) dX5_spread_88 (by decide) ?_
                exact px_sub (body 1 (by decide) ⟨fun _ => Or.inr ⟨k2, k3⟩, fun _ => rfl⟩) rfl
    refine px_iconst (v := nI 0) dX5_spread_36 (by decide) ?_
    refine px_istore_n dX5_spread_37 (by decide) ?_
    refine px_iconst (v := nI 0) dX5_spread_38 (by decide) ?_
    refine px_istore dX5_spread_39 (by decide) ?_
    exact px_sub (loop (s.1 6 + 1) 0 0 f (by omega) (by omega) fp hf (Or.inl ⟨rfl, rfl, fun a' ha => by omega⟩)) rfl
end
section
/-! ===== spread whole; edges of blocks; what is reduced ===== -/
set_option maxRecDepth 100000 in
set_option maxHeartbeats 4000000 in
theorem me_spread (s : mm_S) (X : px_M) (ok : mm_ok s) (p b : Nat) (hp : p < 60) (hb : b ≤ 60) : px_Met 0 0 0 mX5_spread [.inr (1, 0), .inl (.int (nI p)), .inl (.int (px_o b))] (mm_M s X) (mm_spr s X p b) := by
  refine px_ofW (by decide) W_mX5_spread (Nat.le_of_ble_eq_true rfl) ?_
  have loop : ∀ (u j : Nat) (f : Nat → Nat), j ≤ 60 → 60 < j + u → (∀ q, q < j → f q = if q = p then 1 else 0) → px_W 0 0 0 mX5_spread (mm_spr s X p b) 2 [(0, .inr (1, 0)), (1, .inl (.int (nI p))), (2, .inl (.int (px_o b))), (3, .inl (.int (nI j)))] [] (mm_M (mm_R s 26 f) X) 0 0 := by
    intro u
    induction u with
    | zero => intro j f h1 h2; omega
    | succ u ih =>
      intro j f h1 h2 hf
      refine px_iload_n dX5_spread_2 rfl ?_
      refine px_bipush (v := nI 60) dX5_spread_3 (by decide) ?_
      refine pn_icmp_ge (tgt := 30) dX5_spread_5 (by decide) (nI_leI (by omega) (by omega)) (fun h3 => ?_) (fun h3 => ?_)
      · refine px_iconst (v := nI 1) dX5_spread_30 (by decide) ?_
        refine px_istore_n dX5_spread_31 (by decide) ?_
        refine px_iload_n dX5_spread_32 rfl ?_
        refine pn_if_eq (tgt := 153) dX5_spread_33 (by decide) (pn_z (by omega)) (fun h4 => ?_) (fun h4 => ?_)
        · omega
        · refine px_sub (me_spread_l s X ok p b hp hb 61 f ?_ ?_ ?_) rfl
          · have := px_cnt_le f 0 60; omega
          · rw [hf p (by omega), if_pos rfl]
          · intro q hq
            rw [hf q (by omega)]
            by_cases e : q = p
            · rw [if_pos e]; exact ⟨Nat.le_refl _, fun _ => ⟨[], e.symm⟩⟩
            · rw [if_neg e]; exact ⟨Nat.zero_le _, fun z => by omega⟩
      · have st : ∀ x, px_W 0 0 0 mX5_spread (mm_spr s X p b) 24 [(0, .inr (1, 0)), (1, .inl (.int (nI p))), (2, .inl (.int (px_o b))), (3, .inl (.int (nI j)))] [] (mm_M (mm_R s 26 (px_upN f j x)) X) 0 0 ∨ ¬ x = (if j = p then 1 else 0) := by
          intro x
          by_cases e : x = (if j = p then 1 else 0)
          · refine Or.inl ?_
            refine px_iinc dX5_spread_24 rfl (by first | exact pn_i1 _ | exact pn_im1 (by omega)) (by decide) ?_
            refine px_goto (tgt := 2) dX5_spread_27 (by decide) ?_
            refine px_sub (ih (j + 1) (px_upN f j x) (by omega) (by omega) fun q hq => ?_) rfl
            unfold px_upN
            by_cases e' : q = j
            · rw [if_pos e', e, e']
            · rw [if_neg e']; exact hf q (by omega)
          · exact Or.inr e
        refine px_aload_n dX5_spread_8 rfl trivial ?_
        refine mm_get dX5_spread_9 F_RX5_65 rfl ?_
        refine px_iload_n dX5_spread_12 rfl ?_
        refine px_iload_n dX5_spread_13 rfl ?_
        refine px_iload_n dX5_spread_14 rfl ?_
        refine pn_icmp_ne (tgt := 22) dX5_spread_15 (by decide) (nI_eq (by omega) (by omega)) (fun h4 => ?_) (fun h4 => ?_)
        · refine px_iconst (v := nI 0) dX5_spread_22 (by decide) ?_
          refine mm_ast_z dX5_spread_23 rfl (by first | rfl | assumption) (by first | rfl | assumption) (by first | assumption | omega) (by omega) ?_
          rw [mr_RA]
          exact px_sub ((st 0).resolve_right (fun z => z (if_neg h4).symm)) rfl
        · refine px_iconst (v := nI 1) dX5_spread_18 (by decide) ?_
          refine px_goto (tgt := 23) dX5_spread_19 (by decide) ?_
          refine mm_ast_z dX5_spread_23 rfl (by first | rfl | assumption) (by first | rfl | assumption) (by first | assumption | omega) (by omega) ?_
          rw [mr_RA]
          exact px_sub ((st 1).resolve_right (fun z => z (if_pos h4).symm)) rfl
  refine px_iconst (v := nI 0) dX5_spread_0 (by decide) ?_
  refine px_istore_n dX5_spread_1 (by decide) ?_
  have := loop 61 0 (s.2.1 26) (by omega) (by omega) (fun q h => by omega)
  rw [mr_R0] at this
  exact px_sub this rfl
noncomputable def px_ch (P : Prop) : Nat := @ite Nat P (Classical.propDecidable P) 1 0
theorem px_ch_1 {P : Prop} (h : P) : px_ch P = 1 := @if_pos P (Classical.propDecidable P) h Nat 1 0
theorem px_ch_0 {P : Prop} (h : ¬ P) : px_ch P = 0 := @if_neg P (Classical.propDecidable P) h Nat 1 0
theorem px_ch_le (P : Prop) : px_ch P ≤ 1 := by
  rcases Classical.em P with h | h
  · rw [px_ch_1 h]; exact Nat.le_refl _
  · rw [px_ch_0 h]; exact Nat.zero_le _
theorem px_ch_i (P : Prop) : px_ch P = 1 ↔ P := by
  rcases Classical.em P with h | h
  · rw [px_ch_1 h]; exact ⟨fun _ => h, fun _ => rfl⟩
  · rw [px_ch_0 h]; exact ⟨fun z => by omega, fun z => (h z).elim⟩
theorem px_ch_of {P : Prop} {w : Nat} (h1 : w ≤ 1) (h : w = 1 ↔ P) : w = px_ch P := by
  rcases Classical.em P with g | g
  · rw [px_ch_1 g, h.mpr g]
  · rw [px_ch_0 g]
    have : ¬ w = 1 := fun z => g (h.mp z)
    omega
theorem px_ch_z (P : Prop) : nI (px_ch P) = 0 ↔ ¬ P := by
  have := px_ch_le P
  rw [pn_z (by omega)]
  exact ⟨fun z h => by have := px_ch_1 h; omega, fun h => px_ch_0 h⟩
/-- a pin is an edge of its block: of its inputs, or of its outputs -/
def mm_inp (s : mm_S) (p : Nat) : Prop := (∃ k, k < s.1 9 ∧ s.2.1 7 k = p) ∨ ∃ a, a < s.1 6 ∧ s.2.1 4 a = p ∧ s.2.1 2 (s.2.1 3 a) ≠ s.2.1 2 p
def mm_out (s : mm_S) (p : Nat) : Prop := (∃ k, k < s.1 13 ∧ s.2.1 10 k = p) ∨ ∃ a, a < s.1 6 ∧ s.2.1 3 a = p ∧ s.2.1 2 (s.2.1 4 a) ≠ s.2.1 2 p
set_option maxRecDepth 100000 in
set_option maxHeartbeats 4000000 in
theorem me_isEdge1 (s : mm_S) (X : px_M) (ok : mm_ok s) (p : Nat) (hp : p < s.1 1) : px_Met 0 0 0 mX5_isEdge [.inr (1, 0), .inl (.int (nI p)), .inl (.int (nI 1))] (mm_M s X) (px_rt (some (.inl (.int (nI (px_ch (mm_inp s p)))))) (mm_M s X)) := by
  have h1 := ok.1.1
  have h6 := ok.1.2.1
  have h9 := ok.1.2.2.1
  have h13 := ok.1.2.2.2.1
  have bp := ok.2.2.2.2.2.1 p hp
  refine px_ofW (by decide) W_mX5_isEdge (Nat.le_of_ble_eq_true rfl) ?_
  have loop2 : ∀ (u a w : Nat), a ≤ s.1 6 → s.1 6 < a + u → w ≤ 1 → (w = 1 ↔ (∃ k, k < s.1 9 ∧ s.2.1 7 k = p) ∨ ∃ a', a' < a ∧ s.2.1 4 a' = p ∧ s.2.1 2 (s.2.1 3 a') ≠ s.2.1 2 p) → px_W 0 0 0 mX5_isEdge (px_rt (some (.inl (.int (nI (px_ch (mm_inp s p)))))) (mm_M s X)) 69 [(0, .inr (1, 0)), (1, .inl (.int (nI p))), (2, .inl (.int (nI 1))), (3, .inl (.int (nI w))), (4, .inl (.int (nI a)))] [] (mm_M s X) 0 0 := by
    intro u
    induction u with
    | zero => intro a w g1 g2; omega
    | succ u ih =>
      intro a w g1 g2 w1 hw
      refine px_iload dX5_isEdge_69 rfl ?_
      refine px_aload_n dX5_isEdge_71 rfl trivial ?_
      refine mm_gets dX5_isEdge_72 F_RX5_96 (by decide) (by (try simp only [mr_In, mr_Ie, mr_A1, mr_D1, mr_R1, mr_T1, ne_eq, Nat.reduceEqDiff, not_false_eq_true]); rfl) ?_
      refine pn_icmp_ge (tgt := 166) dX5_isEdge_75 (by decide) (nI_leI (by omega) (by omega)) (fun g3 => ?_) (fun g3 => ?_)
      · refine px_iload_n dX5_isEdge_166 rfl ?_
        refine px_zret dX5_isEdge_167 rfl (by rcases (show w = 0 ∨ w = 1 by omega) with rfl | rfl <;> rfl) ⟨?_, rfl⟩ (by omega) (by omega)
        rw [px_ch_of w1 (show w = 1 ↔ mm_inp s p from hw.trans (by rw [show a = s.1 6 by omega]; exact Iff.rfl))]
      · obtain ⟨b1, b2, -, -⟩ := ok.2.1 a (by omega)
        have b3 := ok.2.2.2.2.2.1 (s.2.1 3 a) b1
        have b4 := ok.2.2.2.2.2.1 (s.2.1 4 a) b2
        have go : ∀ w', w' ≤ 1 → (w' = 1 ↔ w = 1 ∨ (s.2.1 4 a = p ∧ s.2.1 2 (s.2.1 3 a) ≠ s.2.1 2 p)) → px_W 0 0 0 mX5_isEdge (px_rt (some (.inl (.int (nI (px_ch (mm_inp s p)))))) (mm_M s X)) 159 [(0, .inr (1, 0)), (1, .inl (.int (nI p))), (2, .inl (.int (nI 1))), (4, .inl (.int (nI a)))] [.inl (.int (nI w'))] (mm_M s X) 0 0 := by
          intro w' w1' hw'
          refine px_istore_n dX5_isEdge_159 (by decide) ?_
          refine px_iinc dX5_isEdge_160 rfl (by first | exact pn_i1 _ | exact pn_im1 (by omega)) (by decide) ?_
          refine px_goto (tgt := 69) dX5_isEdge_163 (by decide) ?_
          refine px_sub (ih (a + 1) w' (by omega) (by omega) w1' ?_) rfl
          rw [hw', hw]
          constructor
          · rintro ((h | ⟨a', h, h'⟩) | h)
            · exact Or.inl h
            · exact Or.inr ⟨a', by omega, h'⟩
            · exact Or.inr ⟨a, by omega, h⟩
          · rintro (h | ⟨a', h, h'⟩)
            · exact Or.inl (Or.inl h)
            · by_cases e : a' = a
              · exact Or.inr (e ▸ h')
              · exact Or.inl (Or.inr ⟨a', by omega, h'⟩)
        have yes : (w = 1 ∨ (s.2.1 4 a = p ∧ s.2.1 2 (s.2.1 3 a) ≠ s.2.1 2 p)) → px_W 0 0 0 mX5_isEdge (px_rt (some (.inl (.int (nI (px_ch (mm_inp s p)))))) (mm_M s X)) 154 [(0, .inr (1, 0)), (1, .inl (.int (nI p))), (2, .inl (.int (nI 1))), (4, .inl (.int (nI a)))] [] (mm_M s X) 0 0 := by
          intro h
          refine px_iconst (v := nI 1) dX5_isEdge_154 (by decide) ?_
          refine px_goto (tgt := 159) dX5_isEdge_155 (by decide) ?_
          exact px_sub (go 1 (by decide) ⟨fun _ => h, fun _ => rfl⟩) rfl
        have no : ¬ (w = 1 ∨ (s.2.1 4 a = p ∧ s.2.1 2 (s.2.1 3 a) ≠ s.2.1 2 p)) → px_W 0 0 0 mX5_isEdge (px_rt (some (.inl (.int (nI (px_ch (mm_inp s p)))))) (mm_M s X)) 158 [(0, .inr (1, 0)), (1, .inl (.int (nI p))), (2, .inl (.int (nI 1))), (4, .inl (.int (nI a)))] [] (mm_M s X) 0 0 := by
          intro h
          refine px_iconst (v := nI 0) dX5_isEdge_158 (by decide) ?_
          exact px_sub (go 0 (by decide) ⟨fun z => by omega, fun z => (h z).elim⟩) rfl
        refine px_iload_n dX5_isEdge_78 rfl ?_
        refine pn_if_ne (tgt := 154) dX5_isEdge_79 (by decide) (pn_z (by omega)) (fun k1 => ?_) (fun k1 => ?_)
        · exact px_sub (yes (Or.inl (by omega))) rfl
        · refine px_iload_n dX5_isEdge_82 rfl ?_
          refine pn_if_eq (tgt := 118) dX5_isEdge_83 (by decide) (pn_z (by omega)) (fun k2 => ?_) (fun k2 => ?_)
          · exact absurd k2 (by decide)
          · refine px_aload_n dX5_isEdge_86 rfl trivial ?_
            refine mm_get dX5_isEdge_87 F_RX5_16 rfl ?_
            refine px_iload dX5_isEdge_90 rfl ?_
            refine mm_ald dX5_isEdge_92 rfl (by first | rfl | assumption) (by (try simp only [mr_I2, mr_An, mr_Ae, mr_D2, mr_Rn, mr_Re, mr_T2, ne_eq, Nat.reduceEqDiff, not_false_eq_true]); rfl) (by first | assumption | omega) ?_
            refine px_iload_n dX5_isEdge_93 rfl ?_
            refine pn_icmp_ne (tgt := 118) dX5_isEdge_94 (by decide) (nI_eq (by omega) (by omega)) (fun k3 => ?_) (fun k3 => ?_)
            · refine px_iload_n dX5_isEdge_118 rfl ?_
              refine pn_if_ne (tgt := 158) dX5_isEdge_119 (by decide) (pn_z (by omega)) (fun k4 => ?_) (fun k4 => ?_)
              · exact px_sub (no (fun z => z.elim (fun z => by omega) fun z => k3 z.1)) rfl
              · exact absurd k4 (by decide)
            · refine px_aload_n dX5_isEdge_97 rfl trivial ?_
              refine mm_get dX5_isEdge_98 F_RX5_7 rfl ?_
              refine px_aload_n dX5_isEdge_101 rfl trivial ?_
              refine mm_get dX5_isEdge_102 F_RX5_13 rfl ?_
              refine px_iload dX5_isEdge_105 rfl ?_
              refine mm_ald dX5_isEdge_107 rfl (by first | rfl | assumption) (by (try simp only [mr_I2, mr_An, mr_Ae, mr_D2, mr_Rn, mr_Re, mr_T2, ne_eq, Nat.reduceEqDiff, not_false_eq_true]); rfl) (by first | assumption | omega) ?_
              refine mm_ald_o dX5_isEdge_108 rfl (by first | rfl | assumption) (by (try simp only [mr_I2, mr_An, mr_Ae, mr_D2, mr_Rn, mr_Re, mr_T2, ne_eq, Nat.reduceEqDiff, not_false_eq_true]); rfl) (by first | assumption | omega) ?_
              refine px_aload_n dX5_isEdge_109 rfl trivial ?_
              refine mm_get dX5_isEdge_110 F_RX5_7 rfl ?_
              refine px_iload_n dX5_isEdge_113 rfl ?_
              refine mm_ald_o dX5_isEdge_114 rfl (by first | rfl | assumption) (by (try simp only [mr_I2, mr_An, mr_Ae, mr_D2, mr_Rn, mr_Re, mr_T2, ne_eq, Nat.reduceEqDiff, not_false_eq_true]); rfl) (by first | assumption | omega) ?_
              refine pn_icmp_ne (tgt := 154) dX5_isEdge_115 (by decide) (px_o_eq (by omega) (by omega)) (fun k4 => ?_) (fun k4 => ?_)
              · exact px_sub (yes (Or.inr ⟨k3, k4⟩)) rfl
              · refine px_iload_n dX5_isEdge_118 rfl ?_
                refine pn_if_ne (tgt := 158) dX5_isEdge_119 (by decide) (pn_z (by omega)) (fun k5 => ?_) (fun k5 => ?_)
                · exact px_sub (no (fun z => z.elim (fun z => by omega) fun z => z.2 k4)) rfl
                · exact absurd k5 (by decide)
  have loop1 : ∀ (u k w : Nat), k ≤ s.1 9 → s.1 9 < k + u → w ≤ 1 → (w = 1 ↔ ∃ k', k' < k ∧ s.2.1 7 k' = p) → px_W 0 0 0 mX5_isEdge (px_rt (some (.inl (.int (nI (px_ch (mm_inp s p)))))) (mm_M s X)) 5 [(0, .inr (1, 0)), (1, .inl (.int (nI p))), (2, .inl (.int (nI 1))), (3, .inl (.int (nI w))), (4, .inl (.int (nI k)))] [] (mm_M s X) 0 0 := by
    intro u
    induction u with
    | zero => intro k w g1 g2; omega
    | succ u ih =>
      intro k w g1 g2 w1 hw
      have cont : px_W 0 0 0 mX5_isEdge (px_rt (some (.inl (.int (nI (px_ch (mm_inp s p)))))) (mm_M s X)) 22 [(0, .inr (1, 0)), (1, .inl (.int (nI p))), (2, .inl (.int (nI 1))), (3, .inl (.int (nI w))), (4, .inl (.int (nI k)))] [.inl (.int (nI (s.1 9))), .inl (.int (nI k))] (mm_M s X) 0 0 := by
        refine pn_icmp_ge (tgt := 66) dX5_isEdge_22 (by decide) (nI_leI (by omega) (by omega)) (fun g3 => ?_) (fun g3 => ?_)
        · refine px_iconst (v := nI 0) dX5_isEdge_66 (by decide) ?_
          refine px_istore dX5_isEdge_67 (by decide) ?_
          refine px_sub (loop2 (s.1 6 + 1) 0 w (by omega) (by omega) w1 ?_) rfl
          rw [hw, show k = s.1 9 by omega]
          exact ⟨fun h => Or.inl h, fun h => h.elim id fun ⟨a', z, _⟩ => by omega⟩
        · have go : ∀ w', w' ≤ 1 → (w' = 1 ↔ w = 1 ∨ s.2.1 7 k = p) → px_W 0 0 0 mX5_isEdge (px_rt (some (.inl (.int (nI (px_ch (mm_inp s p)))))) (mm_M s X)) 59 [(0, .inr (1, 0)), (1, .inl (.int (nI p))), (2, .inl (.int (nI 1))), (4, .inl (.int (nI k)))] [.inl (.int (nI w'))] (mm_M s X) 0 0 := by
            intro w' w1' hw'
            refine px_istore_n dX5_isEdge_59 (by decide) ?_
            refine px_iinc dX5_isEdge_60 rfl (by first | exact pn_i1 _ | exact pn_im1 (by omega)) (by decide) ?_
            refine px_goto (tgt := 5) dX5_isEdge_63 (by decide) ?_
            refine px_sub (ih (k + 1) w' (by omega) (by omega) w1' ?_) rfl
            rw [hw', hw]
            constructor
            · rintro (⟨k', h, h'⟩ | h)
              · exact ⟨k', by omega, h'⟩
              · exact ⟨k, by omega, h⟩
            · rintro ⟨k', h, h'⟩
              by_cases e : k' = k
              · exact Or.inr (e ▸ h')
              · exact Or.inl ⟨k', by omega, h'⟩
          refine px_iload_n dX5_isEdge_25 rfl ?_
          refine pn_if_ne (tgt := 54) dX5_isEdge_26 (by decide) (pn_z (by omega)) (fun k1 => ?_) (fun k1 => ?_)
          · refine px_iconst (v := nI 1) dX5_isEdge_54 (by decide) ?_
            refine px_goto (tgt := 59) dX5_isEdge_55 (by decide) ?_
            exact px_sub (go 1 (by decide) ⟨fun _ => Or.inl (by omega), fun _ => rfl⟩) rfl
          · have b1 := (ok.2.2.1 k (by omega)).1
            have cmp : px_W 0 0 0 mX5_isEdge (px_rt (some (.inl (.int (nI (px_ch (mm_inp s p)))))) (mm_M s X)) 50 [(0, .inr (1, 0)), (1, .inl (.int (nI p))), (2, .inl (.int (nI 1))), (4, .inl (.int (nI k)))] [.inl (.int (nI (s.2.1 7 k)))] (mm_M s X) 0 0 := by
              refine px_iload_n dX5_isEdge_50 rfl ?_
              refine pn_icmp_ne (tgt := 58) dX5_isEdge_51 (by decide) (nI_eq (by omega) (by omega)) (fun k2 => ?_) (fun k2 => ?_)
              · refine px_iconst (v := nI 0) dX5_isEdge_58 (by decide) ?_
                exact px_sub (go 0 (by decide) ⟨fun z => by omega, fun z => z.elim (fun z => by omega) fun z => (k2 z).elim⟩) rfl
              · refine px_iconst (v := nI 1) dX5_isEdge_54 (by decide) ?_
                refine px_goto (tgt := 59) dX5_isEdge_55 (by decide) ?_
                exact px_sub (go 1 (by decide) ⟨fun _ => Or.inr k2, fun _ => rfl⟩) rfl
            refine px_iload_n dX5_isEdge_29 rfl ?_
            refine pn_if_eq (tgt := 43) dX5_isEdge_30 (by decide) (pn_z (by omega)) (fun k2 => ?_) (fun k2 => ?_)
            · exact absurd k2 (by decide)
            · refine px_aload_n dX5_isEdge_33 rfl trivial ?_
              refine mm_get dX5_isEdge_34 F_RX5_23 rfl ?_
              refine px_iload dX5_isEdge_37 rfl ?_
              refine mm_ald dX5_isEdge_39 rfl (by first | rfl | assumption) (by (try simp only [mr_I2, mr_An, mr_Ae, mr_D2, mr_Rn, mr_Re, mr_T2, ne_eq, Nat.reduceEqDiff, not_false_eq_true]); rfl) (by first | assumption | omega) ?_
              refine px_goto (tgt := 50) dX5_isEdge_40 (by decide) ?_
              exact px_sub cmp rfl
      refine px_iload dX5_isEdge_5 rfl ?_
      refine px_iload_n dX5_isEdge_7 rfl ?_
      refine pn_if_eq (tgt := 18) dX5_isEdge_8 (by decide) (pn_z (by omega)) (fun g3 => ?_) (fun g3 => ?_)
      · exact absurd g3 (by decide)
      · refine px_aload_n dX5_isEdge_11 rfl trivial ?_
        refine mm_gets dX5_isEdge_12 F_RX5_116 (by decide) (by (try simp only [mr_In, mr_Ie, mr_A1, mr_D1, mr_R1, mr_T1, ne_eq, Nat.reduceEqDiff, not_false_eq_true]); rfl) ?_
        refine px_goto (tgt := 22) dX5_isEdge_15 (by decide) ?_
        exact px_sub cont rfl
  refine px_iconst (v := nI 0) dX5_isEdge_0 (by decide) ?_
  refine px_istore_n dX5_isEdge_1 (by decide) ?_
  refine px_iconst (v := nI 0) dX5_isEdge_2 (by decide) ?_
  refine px_istore dX5_isEdge_3 (by decide) ?_
  exact px_sub (loop1 (s.1 9 + 1) 0 0 (by omega) (by omega) (by omega) ⟨fun z => by omega, fun ⟨k, z, _⟩ => by omega⟩) rfl
set_option maxRecDepth 100000 in
set_option maxHeartbeats 4000000 in
theorem me_isEdge0 (s : mm_S) (X : px_M) (ok : mm_ok s) (p : Nat) (hp : p < s.1 1) : px_Met 0 0 0 mX5_isEdge [.inr (1, 0), .inl (.int (nI p)), .inl (.int (nI 0))] (mm_M s X) (px_rt (some (.inl (.int (nI (px_ch (mm_out s p)))))) (mm_M s X)) := by
  have h1 := ok.1.1
  have h6 := ok.1.2.1
  have h9 := ok.1.2.2.1
  have h13 := ok.1.2.2.2.1
  have bp := ok.2.2.2.2.2.1 p hp
  refine px_ofW (by decide) W_mX5_isEdge (Nat.le_of_ble_eq_true rfl) ?_
  have loop2 : ∀ (u a w : Nat), a ≤ s.1 6 → s.1 6 < a + u → w ≤ 1 → (w = 1 ↔ (∃ k, k < s.1 13 ∧ s.2.1 10 k = p) ∨ ∃ a', a' < a ∧ s.2.1 3 a' = p ∧ s.2.1 2 (s.2.1 4 a') ≠ s.2.1 2 p) → px_W 0 0 0 mX5_isEdge (px_rt (some (.inl (.int (nI (px_ch (mm_out s p)))))) (mm_M s X)) 69 [(0, .inr (1, 0)), (1, .inl (.int (nI p))), (2, .inl (.int (nI 0))), (3, .inl (.int (nI w))), (4, .inl (.int (nI a)))] [] (mm_M s X) 0 0 := by
    intro u
    induction u with
    | zero => intro a w g1 g2; omega
    | succ u ih =>
      intro a w g1 g2 w1 hw
      refine px_iload dX5_isEdge_69 rfl ?_
      refine px_aload_n dX5_isEdge_71 rfl trivial ?_
      refine mm_gets dX5_isEdge_72 F_RX5_96 (by decide) (by (try simp only [mr_In, mr_Ie, mr_A1, mr_D1, mr_R1, mr_T1, ne_eq, Nat.reduceEqDiff, not_false_eq_true]); rfl) ?_
      refine pn_icmp_ge (tgt := 166) dX5_isEdge_75 (by decide) (nI_leI (by omega) (by omega)) (fun g3 => ?_) (fun g3 => ?_)
      · refine px_iload_n dX5_isEdge_166 rfl ?_
        refine px_zret dX5_isEdge_167 rfl (by rcases (show w = 0 ∨ w = 1 by omega) with rfl | rfl <;> rfl) ⟨?_, rfl⟩ (by omega) (by omega)
        rw [px_ch_of w1 (show w = 1 ↔ mm_out s p from hw.trans (by rw [show a = s.1 6 by omega]; exact Iff.rfl))]
      · obtain ⟨b1, b2, -, -⟩ := ok.2.1 a (by omega)
        have b3 := ok.2.2.2.2.2.1 (s.2.1 3 a) b1
        have b4 := ok.2.2.2.2.2.1 (s.2.1 4 a) b2
        have go : ∀ w', w' ≤ 1 → (w' = 1 ↔ w = 1 ∨ (s.2.1 3 a = p ∧ s.2.1 2 (s.2.1 4 a) ≠ s.2.1 2 p)) → px_W 0 0 0 mX5_isEdge (px_rt (some (.inl (.int (nI (px_ch (mm_out s p)))))) (mm_M s X)) 159 [(0, .inr (1, 0)), (1, .inl (.int (nI p))), (2, .inl (.int (nI 0))), (4, .inl (.int (nI a)))] [.inl (.int (nI w'))] (mm_M s X) 0 0 := by
          intro w' w1' hw'
          refine px_istore_n dX5_isEdge_159 (by decide) ?_
          refine px_iinc dX5_isEdge_160 rfl (by first | exact pn_i1 _ | exact pn_im1 (by omega)) (by decide) ?_
          refine px_goto (tgt := 69) dX5_isEdge_163 (by decide) ?_
          refine px_sub (ih (a + 1) w' (by omega) (by omega) w1' ?_) rfl
          rw [hw', hw]
          constructor
          · rintro ((h | ⟨a', h, h'⟩) | h)
            · exact Or.inl h
            · exact Or.inr ⟨a', by omega, h'⟩
            · exact Or.inr ⟨a, by omega, h⟩
          · rintro (h | ⟨a', h, h'⟩)
            · exact Or.inl (Or.inl h)
            · by_cases e : a' = a
              · exact Or.inr (e ▸ h')
              · exact Or.inl (Or.inr ⟨a', by omega, h'⟩)
        have yes : (w = 1 ∨ (s.2.1 3 a = p ∧ s.2.1 2 (s.2.1 4 a) ≠ s.2.1 2 p)) → px_W 0 0 0 mX5_isEdge (px_rt (some (.inl (.int (nI (px_ch (mm_out s p)))))) (mm_M s X)) 154 [(0, .inr (1, 0)), (1, .inl (.int (nI p))), (2, .inl (.int (nI 0))), (4, .inl (.int (nI a)))] [] (mm_M s X) 0 0 := by
          intro h
          refine px_iconst (v := nI 1) dX5_isEdge_154 (by decide) ?_
          refine px_goto (tgt := 159) dX5_isEdge_155 (by decide) ?_
          exact px_sub (go 1 (by decide) ⟨fun _ => h, fun _ => rfl⟩) rfl
        have no : ¬ (w = 1 ∨ (s.2.1 3 a = p ∧ s.2.1 2 (s.2.1 4 a) ≠ s.2.1 2 p)) → px_W 0 0 0 mX5_isEdge (px_rt (some (.inl (.int (nI (px_ch (mm_out s p)))))) (mm_M s X)) 158 [(0, .inr (1, 0)), (1, .inl (.int (nI p))), (2, .inl (.int (nI 0))), (4, .inl (.int (nI a)))] [] (mm_M s X) 0 0 := by
          intro h
          refine px_iconst (v := nI 0) dX5_isEdge_158 (by decide) ?_
          exact px_sub (go 0 (by decide) ⟨fun z => by omega, fun z => (h z).elim⟩) rfl
        refine px_iload_n dX5_isEdge_78 rfl ?_
        refine pn_if_ne (tgt := 154) dX5_isEdge_79 (by decide) (pn_z (by omega)) (fun k1 => ?_) (fun k1 => ?_)
        · exact px_sub (yes (Or.inl (by omega))) rfl
        · refine px_iload_n dX5_isEdge_82 rfl ?_
          refine pn_if_eq (tgt := 118) dX5_isEdge_83 (by decide) (pn_z (by omega)) (fun k2 => ?_) (fun k2 => ?_)
          · refine px_iload_n dX5_isEdge_118 rfl ?_
            refine pn_if_ne (tgt := 158) dX5_isEdge_119 (by decide) (pn_z (by omega)) (fun k4 => ?_) (fun k4 => ?_)
            · exact absurd rfl k4
            · refine px_aload_n dX5_isEdge_122 rfl trivial ?_
              refine mm_get dX5_isEdge_123 F_RX5_13 rfl ?_
              refine px_iload dX5_isEdge_126 rfl ?_
              refine mm_ald dX5_isEdge_128 rfl (by first | rfl | assumption) (by (try simp only [mr_I2, mr_An, mr_Ae, mr_D2, mr_Rn, mr_Re, mr_T2, ne_eq, Nat.reduceEqDiff, not_false_eq_true]); rfl) (by first | assumption | omega) ?_
              refine px_iload_n dX5_isEdge_129 rfl ?_
              refine pn_icmp_ne (tgt := 158) dX5_isEdge_130 (by decide) (nI_eq (by omega) (by omega)) (fun k3 => ?_) (fun k3 => ?_)
              · exact px_sub (no (fun z => z.elim (fun z => by omega) fun z => k3 z.1)) rfl
              · refine px_aload_n dX5_isEdge_133 rfl trivial ?_
                refine mm_get dX5_isEdge_134 F_RX5_7 rfl ?_
                refine px_aload_n dX5_isEdge_137 rfl trivial ?_
                refine mm_get dX5_isEdge_138 F_RX5_16 rfl ?_
                refine px_iload dX5_isEdge_141 rfl ?_
                refine mm_ald dX5_isEdge_143 rfl (by first | rfl | assumption) (by (try simp only [mr_I2, mr_An, mr_Ae, mr_D2, mr_Rn, mr_Re, mr_T2, ne_eq, Nat.reduceEqDiff, not_false_eq_true]); rfl) (by first | assumption | omega) ?_
                refine mm_ald_o dX5_isEdge_144 rfl (by first | rfl | assumption) (by (try simp only [mr_I2, mr_An, mr_Ae, mr_D2, mr_Rn, mr_Re, mr_T2, ne_eq, Nat.reduceEqDiff, not_false_eq_true]); rfl) (by first | assumption | omega) ?_
                refine px_aload_n dX5_isEdge_145 rfl trivial ?_
                refine mm_get dX5_isEdge_146 F_RX5_7 rfl ?_
                refine px_iload_n dX5_isEdge_149 rfl ?_
                refine mm_ald_o dX5_isEdge_150 rfl (by first | rfl | assumption) (by (try simp only [mr_I2, mr_An, mr_Ae, mr_D2, mr_Rn, mr_Re, mr_T2, ne_eq, Nat.reduceEqDiff, not_false_eq_true]); rfl) (by first | assumption | omega) ?_
                refine pn_icmp_eq (tgt := 158) dX5_isEdge_151 (by decide) (px_o_eq (by omega) (by omega)) (fun k4 => ?_) (fun k4 => ?_)
                · exact px_sub (no (fun z => z.elim (fun z => by omega) fun z => z.2 k4)) rfl
                · exact px_sub (yes (Or.inr ⟨k3, k4⟩)) rfl
          · exact absurd rfl k2
  have loop1 : ∀ (u k w : Nat), k ≤ s.1 13 → s.1 13 < k + u → w ≤ 1 → (w = 1 ↔ ∃ k', k' < k ∧ s.2.1 10 k' = p) → px_W 0 0 0 mX5_isEdge (px_rt (some (.inl (.int (nI (px_ch (mm_out s p)))))) (mm_M s X)) 5 [(0, .inr (1, 0)), (1, .inl (.int (nI p))), (2, .inl (.int (nI 0))), (3, .inl (.int (nI w))), (4, .inl (.int (nI k)))] [] (mm_M s X) 0 0 := by
    intro u
    induction u with
    | zero => intro k w g1 g2; omega
    | succ u ih =>
      intro k w g1 g2 w1 hw
      have cont : px_W 0 0 0 mX5_isEdge (px_rt (some (.inl (.int (nI (px_ch (mm_out s p)))))) (mm_M s X)) 22 [(0, .inr (1, 0)), (1, .inl (.int (nI p))), (2, .inl (.int (nI 0))), (3, .inl (.int (nI w))), (4, .inl (.int (nI k)))] [.inl (.int (nI (s.1 13))), .inl (.int (nI k))] (mm_M s X) 0 0 := by
        refine pn_icmp_ge (tgt := 66) dX5_isEdge_22 (by decide) (nI_leI (by omega) (by omega)) (fun g3 => ?_) (fun g3 => ?_)
        · refine px_iconst (v := nI 0) dX5_isEdge_66 (by decide) ?_
          refine px_istore dX5_isEdge_67 (by decide) ?_
          refine px_sub (loop2 (s.1 6 + 1) 0 w (by omega) (by omega) w1 ?_) rfl
          rw [hw, show k = s.1 13 by omega]
          exact ⟨fun h => Or.inl h, fun h => h.elim id fun ⟨a', z, _⟩ => by omega⟩
        · have go : ∀ w', w' ≤ 1 → (w' = 1 ↔ w = 1 ∨ s.2.1 10 k = p) → px_W 0 0 0 mX5_isEdge (px_rt (some (.inl (.int (nI (px_ch (mm_out s p)))))) (mm_M s X)) 59 [(0, .inr (1, 0)), (1, .inl (.int (nI p))), (2, .inl (.int (nI 0))), (4, .inl (.int (nI k)))] [.inl (.int (nI w'))] (mm_M s X) 0 0 := by
            intro w' w1' hw'
            refine px_istore_n dX5_isEdge_59 (by decide) ?_
            refine px_iinc dX5_isEdge_60 rfl (by first | exact pn_i1 _ | exact pn_im1 (by omega)) (by decide) ?_
            refine px_goto (tgt := 5) dX5_isEdge_63 (by decide) ?_
            refine px_sub (ih (k + 1) w' (by omega) (by omega) w1' ?_) rfl
            rw [hw', hw]
            constructor
            · rintro (⟨k', h, h'⟩ | h)
              · exact ⟨k', by omega, h'⟩
              · exact ⟨k, by omega, h⟩
            · rintro ⟨k', h, h'⟩
              by_cases e : k' = k
              · exact Or.inr (e ▸ h')
              · exact Or.inl ⟨k', by omega, h'⟩
          refine px_iload_n dX5_isEdge_25 rfl ?_
          refine pn_if_ne (tgt := 54) dX5_isEdge_26 (by decide) (pn_z (by omega)) (fun k1 => ?_) (fun k1 => ?_)
          · refine px_iconst (v := nI 1) dX5_isEdge_54 (by decide) ?_
            refine px_goto (tgt := 59) dX5_isEdge_55 (by decide) ?_
            exact px_sub (go 1 (by decide) ⟨fun _ => Or.inl (by omega), fun _ => rfl⟩) rfl
          · have b1 := (ok.2.2.2.1 k (by omega)).1
            have cmp : px_W 0 0 0 mX5_isEdge (px_rt (some (.inl (.int (nI (px_ch (mm_out s p)))))) (mm_M s X)) 50 [(0, .inr (1, 0)), (1, .inl (.int (nI p))), (2, .inl (.int (nI 0))), (4, .inl (.int (nI k)))] [.inl (.int (nI (s.2.1 10 k)))] (mm_M s X) 0 0 := by
              refine px_iload_n dX5_isEdge_50 rfl ?_
              refine pn_icmp_ne (tgt := 58) dX5_isEdge_51 (by decide) (nI_eq (by omega) (by omega)) (fun k2 => ?_) (fun k2 => ?_)
              · refine px_iconst (v := nI 0) dX5_isEdge_58 (by decide) ?_
                exact px_sub (go 0 (by decide) ⟨fun z => by omega, fun z => z.elim (fun z => by omega) fun z => (k2 z).elim⟩) rfl
              · refine px_iconst (v := nI 1) dX5_isEdge_54 (by decide) ?_
                refine px_goto (tgt := 59) dX5_isEdge_55 (by decide) ?_
                exact px_sub (go 1 (by decide) ⟨fun _ => Or.inr k2, fun _ => rfl⟩) rfl
            refine px_iload_n dX5_isEdge_29 rfl ?_
            refine pn_if_eq (tgt := 43) dX5_isEdge_30 (by decide) (pn_z (by omega)) (fun k2 => ?_) (fun k2 => ?_)
            · refine px_aload_n dX5_isEdge_43 rfl trivial ?_
              refine mm_get dX5_isEdge_44 F_RX5_29 rfl ?_
              refine px_iload dX5_isEdge_47 rfl ?_
              refine mm_ald dX5_isEdge_49 rfl (by first | rfl | assumption) (by (try simp only [mr_I2, mr_An, mr_Ae, mr_D2, mr_Rn, mr_Re, mr_T2, ne_eq, Nat.reduceEqDiff, not_false_eq_true]); rfl) (by first | assumption | omega) ?_
              exact px_sub cmp rfl
            · exact absurd rfl k2
      refine px_iload dX5_isEdge_5 rfl ?_
      refine px_iload_n dX5_isEdge_7 rfl ?_
      refine pn_if_eq (tgt := 18) dX5_isEdge_8 (by decide) (pn_z (by omega)) (fun g3 => ?_) (fun g3 => ?_)
      · refine px_aload_n dX5_isEdge_18 rfl trivial ?_
        refine mm_gets dX5_isEdge_19 F_RX5_111 (by decide) (by (try simp only [mr_In, mr_Ie, mr_A1, mr_D1, mr_R1, mr_T1, ne_eq, Nat.reduceEqDiff, not_false_eq_true]); rfl) ?_
        exact px_sub cont rfl
      · exact absurd rfl g3
  refine px_iconst (v := nI 0) dX5_isEdge_0 (by decide) ?_
  refine px_istore_n dX5_isEdge_1 (by decide) ?_
  refine px_iconst (v := nI 0) dX5_isEdge_2 (by decide) ?_
  refine px_istore dX5_isEdge_3 (by decide) ?_
  exact px_sub (loop1 (s.1 13 + 1) 0 0 (by omega) (by omega) (by omega) ⟨fun z => by omega, fun ⟨k, z, _⟩ => by omega⟩) rfl
end
section
/-! ===== what is reduced; how many pairs a block has ===== -/
theorem mm_nq.R {s s' : mm_S} (h : mm_nq s s') {k : Nat} (hk : 26 ≤ k) (f : Nat → Nat) : mm_nq s (mm_R s' k f) := ⟨h.1, fun i hi => ⟨(if_neg (by omega)).trans (h.2 i hi).1, (h.2 i hi).2⟩⟩
theorem mm_nq.T {s s' : mm_S} (h : mm_nq s s') {k : Nat} (hk : 26 ≤ k) (f : Nat → Int) : mm_nq s (mm_T s' k f) := ⟨h.1, fun i hi => ⟨(h.2 i hi).1, (if_neg (by omega)).trans (h.2 i hi).2⟩⟩
theorem mm_in.nq {s s' : mm_S} (h : mm_nq s s') (b a : Nat) : mm_in s' b a ↔ mm_in s b a := by
  unfold mm_in
  rw [(h.2 2 (by decide)).1, (h.2 3 (by decide)).1, (h.2 4 (by decide)).1]
theorem mm_wk.nq {s s' : mm_S} (h : mm_nq s s') (b : Nat) : ∀ (as : List Nat) (p q : Nat), mm_wk s' b p as q ↔ mm_wk s b p as q := by
  intro as
  induction as with
  | nil => intro p q; exact Iff.rfl
  | cons a as ih =>
    intro p q
    show (a < s'.1 6 ∧ mm_in s' b a ∧ s'.2.1 3 a = p ∧ mm_wk s' b (s'.2.1 4 a) as q) ↔ (a < s.1 6 ∧ mm_in s b a ∧ s.2.1 3 a = p ∧ mm_wk s b (s.2.1 4 a) as q)
    rw [ih, mm_in.nq h, h.1 6 (by decide), (h.2 3 (by decide)).1, (h.2 4 (by decide)).1]
theorem mm_rch.nq {s s' : mm_S} (h : mm_nq s s') (b p q : Nat) : mm_rch s' b p q ↔ mm_rch s b p q := exists_congr fun as => mm_wk.nq h b as p q
theorem mm_inp.nq {s s' : mm_S} (h : mm_nq s s') (p : Nat) : mm_inp s' p ↔ mm_inp s p := by
  unfold mm_inp
  rw [h.1 9 (by decide), h.1 6 (by decide), (h.2 2 (by decide)).1, (h.2 3 (by decide)).1, (h.2 4 (by decide)).1, (h.2 7 (by decide)).1]
theorem mm_out.nq {s s' : mm_S} (h : mm_nq s s') (p : Nat) : mm_out s' p ↔ mm_out s p := by
  unfold mm_out
  rw [h.1 13 (by decide), h.1 6 (by decide), (h.2 2 (by decide)).1, (h.2 3 (by decide)).1, (h.2 4 (by decide)).1, (h.2 10 (by decide)).1]
def mm_red (s : mm_S) (b p q : Nat) : Prop := s.2.1 2 p = b ∧ s.2.1 2 q = b ∧ mm_inp s p ∧ mm_out s q ∧ mm_rch s b p q
theorem mm_red.nq {s s' : mm_S} (h : mm_nq s s') (b p q : Nat) : mm_red s' b p q ↔ mm_red s b p q := by
  unfold mm_red
  rw [mm_inp.nq h, mm_out.nq h, mm_rch.nq h, (h.2 2 (by decide)).1]
theorem mr_RR (s : mm_S) (k : Nat) (f g : Nat → Nat) : mm_R (mm_R s k f) k g = mm_R s k g := by
  refine Prod.ext rfl (Prod.ext (funext fun i => ?_) rfl)
  show px_upN (px_upN s.2.1 k f) k g i = px_upN s.2.1 k g i
  unfold px_upN
  split <;> rfl
def mm_rdq (s : mm_S) (X : px_M) (b p q : Nat) : px_Q := fun o M' => o = .inl (some (.inl (.int (nI (px_ch (mm_red s b p q)))))) ∧ ∃ f : Nat → Nat, M' = mm_M (mm_R s 26 f) X
set_option maxRecDepth 100000 in
set_option maxHeartbeats 4000000 in
theorem me_isReduced (s : mm_S) (X : px_M) (ok : mm_ok s) (b p q : Nat) (hb : b ≤ 60) (hp : p < s.1 1) (hq : q < s.1 1) : px_Met 1 0 0 mX5_isReduced [.inr (1, 0), .inl (.int (px_o b)), .inl (.int (nI p)), .inl (.int (nI q))] (mm_M s X) (mm_rdq s X b p q) := by
  have h1 := ok.1.1
  have bp := ok.2.2.2.2.2.1 p hp
  have bq := ok.2.2.2.2.2.1 q hq
  refine px_ofW (by decide) W_mX5_isReduced (Nat.le_of_ble_eq_true rfl) ?_
  have no : ¬ mm_red s b p q → px_W 1 0 0 mX5_isReduced (mm_rdq s X b p q) 38 [] [] (mm_M s X) 0 0 := by
    intro h
    refine px_iconst (v := nI 0) dX5_isReduced_38 (by decide) ?_
    refine px_zret dX5_isReduced_39 rfl (by decide) ⟨by rw [px_ch_0 h], s.2.1 26, by rw [mr_R0]⟩ (by omega) (by omega)
  refine px_aload_n dX5_isReduced_0 rfl trivial ?_
  refine mm_get dX5_isReduced_1 F_RX5_7 rfl ?_
  refine px_iload_n dX5_isReduced_4 rfl ?_
  refine mm_ald_o dX5_isReduced_5 rfl (by first | rfl | assumption) (by (try simp only [mr_I2, mr_An, mr_Ae, mr_D2, mr_Rn, mr_Re, mr_T2, ne_eq, Nat.reduceEqDiff, not_false_eq_true]); rfl) (by first | assumption | omega) ?_
  refine px_iload_n dX5_isReduced_6 rfl ?_
  refine pn_icmp_ne (tgt := 38) dX5_isReduced_7 (by decide) (px_o_eq (by omega) (by omega)) (fun h => ?_) (fun h => ?_)
  · exact px_sub (no (fun z => h z.1)) rfl
  · refine px_aload_n dX5_isReduced_10 rfl trivial ?_
    refine mm_get dX5_isReduced_11 F_RX5_7 rfl ?_
    refine px_iload_n dX5_isReduced_14 rfl ?_
    refine mm_ald_o dX5_isReduced_15 rfl (by first | rfl | assumption) (by (try simp only [mr_I2, mr_An, mr_Ae, mr_D2, mr_Rn, mr_Re, mr_T2, ne_eq, Nat.reduceEqDiff, not_false_eq_true]); rfl) (by first | assumption | omega) ?_
    refine px_iload_n dX5_isReduced_16 rfl ?_
    refine pn_icmp_ne (tgt := 38) dX5_isReduced_17 (by decide) (px_o_eq (by omega) (by omega)) (fun h2 => ?_) (fun h2 => ?_)
    · exact px_sub (no (fun z => h2 z.2.1)) rfl
    · refine px_aload_n dX5_isReduced_20 rfl trivial ?_
      refine px_iload_n dX5_isReduced_21 rfl ?_
      refine px_iconst (v := nI 1) dX5_isReduced_22 (by decide) ?_
      refine px_callVr ((me_isEdge1 s X ok p hp)) dX5_isReduced_23 L_RX5_163 (mm_rcv _ _) rfl rfl (by decide) (by omega) (by omega) (Nat.le_of_ble_eq_true rfl) ?_
      refine pn_if_eq (tgt := 38) dX5_isReduced_26 (by decide) (px_ch_z _) (fun h3 => ?_) (fun h3 => ?_)
      · exact px_sub (no (fun z => h3 z.2.2.1)) rfl
      · refine px_aload_n dX5_isReduced_29 rfl trivial ?_
        refine px_iload_n dX5_isReduced_30 rfl ?_
        refine px_iconst (v := nI 0) dX5_isReduced_31 (by decide) ?_
        refine px_callVr ((me_isEdge0 s X ok q hq)) dX5_isReduced_32 L_RX5_163 (mm_rcv _ _) rfl rfl (by decide) (by omega) (by omega) (Nat.le_of_ble_eq_true rfl) ?_
        refine pn_if_ne (tgt := 40) dX5_isReduced_35 (by decide) (px_ch_z _) (fun h4 => ?_) (fun h4 => ?_)
        · refine px_aload_n dX5_isReduced_40 rfl trivial ?_
          refine px_iload_n dX5_isReduced_41 rfl ?_
          refine px_iload_n dX5_isReduced_42 rfl ?_
          refine px_callV ((me_spread s X ok p b (by omega) hb)) dX5_isReduced_43 L_RX5_107 (mm_rcv _ _) rfl rfl (by decide) (by omega) (by omega) (Nat.le_of_ble_eq_true rfl) (fun v9 M9 hq => ?_) (fun E9 M9 hq => ?_)
          · obtain ⟨h0, f, rfl, hf⟩ := hq
            cases h0
            have hfq := hf q (by omega)
            have hh : f q = px_ch (mm_red s b p q) := px_ch_of hfq.1 (hfq.2.trans ⟨fun z => ⟨h, h2, Classical.not_not.mp h3, Classical.not_not.mp h4, z⟩, fun z => z.2.2.2.2⟩)
            refine px_aload_n dX5_isReduced_46 rfl trivial ?_
            refine mm_get dX5_isReduced_47 F_RX5_65 rfl ?_
            refine px_iload_n dX5_isReduced_50 rfl ?_
            refine mm_ald_z dX5_isReduced_51 rfl (by first | rfl | assumption) (by (try simp only [mr_I2, mr_An, mr_Ae, mr_D2, mr_Rn, mr_Re, mr_T2, ne_eq, Nat.reduceEqDiff, not_false_eq_true]); rfl) (by first | assumption | omega) ?_
            refine px_zret dX5_isReduced_52 rfl ?_ ⟨by rw [← hh], f, rfl⟩ (by omega) (by omega)
            have := hfq.1
            rcases (show f q = 0 ∨ f q = 1 by omega) with e | e <;> rw [e] <;> rfl
          · exact absurd hq.1 (fun z => by cases z)
        · exact px_sub (no (fun z => h4 z.2.2.2.1)) rfl
end
section
/-! ===== model: how many pairs of a block ===== -/
def px_sum (f : Nat → Nat) : Nat → Nat
  | 0 => 0
  | k + 1 => px_sum f k + f k
theorem px_sum_le {f : Nat → Nat} {c : Nat} (h : ∀ i, f i ≤ c) : ∀ k, px_sum f k ≤ k * c := by
  intro k
  induction k with
  | zero => exact Nat.zero_le _
  | succ k ih =>
    show px_sum f k + f k ≤ _
    have := h k
    rw [Nat.succ_mul]; omega
theorem px_sum_same {f g : Nat → Nat} : ∀ {k : Nat}, (∀ i, i < k → f i = g i) → px_sum f k = px_sum g k := by
  intro k
  induction k with
  | zero => intro _; rfl
  | succ k ih =>
    intro h
    show px_sum f k + f k = px_sum g k + g k
    rw [ih fun i hi => h i (by omega), h k (by omega)]
def kc_model (x : Int32) : Nat := if px_ix x 8 then 0 else 1
noncomputable def va_model (s : mm_S) (x : Int32) : Nat := px_sum (fun p => px_sum (fun q => px_ch (mm_red s (px_oc x) p q)) (s.1 1)) (s.1 1)
set_option maxRecDepth 100000 in
set_option maxHeartbeats 4000000 in
theorem me_model (s : mm_S) (X : px_M) (ok : mm_ok s) (x : Int32) : px_Met 2 0 0 mX5_model [.inr (1, 0), .inl (.int x)] (mm_M s X) (mq X (kc_model x) (nI (va_model s x)) s) := by
  have h1 := ok.1.1
  refine px_ofW (by decide) W_mX5_model (Nat.le_of_ble_eq_true rfl) ?_
  have bad : ¬ px_ix x 8 → px_W 2 0 0 mX5_model (mq X (kc_model x) (nI (va_model s x)) s) 11 [(0, .inr (1, 0)), (1, .inl (.int x))] [.inr (1, 0)] (mm_M s X) 0 0 := by
    intro hx
    have kc : kc_model x = 1 := if_neg hx
    have fin : px_W 2 0 0 mX5_model (mq X (kc_model x) (nI (va_model s x)) s) 81 [(0, .inr (1, 0)), (1, .inl (.int x)), (2, .inl (.int (nI 0)))] [] (mm_M (mm_I s 0 1) X) 0 0 := by
      refine px_iload_n dX5_model_81 rfl ?_
      refine px_iret dX5_model_82 rfl ?_ (by omega) (by omega)
      exact ⟨_, _, rfl, rfl, kc.symm ▸ rfl, (mm_nq.rf s).I0 1, fun z => by omega⟩
    refine px_iconst (v := nI 1) dX5_model_11 (by decide) ?_
    refine px_goto (tgt := 16) dX5_model_12 (by decide) ?_
    refine mm_put dX5_model_16 F_RX5_81 nf_5_0 (by decide) (by first | exact ⟨rfl, rfl⟩ | decide) ?_
    refine px_iconst (v := nI 0) dX5_model_19 (by decide) ?_
    refine px_istore_n dX5_model_20 (by decide) ?_
    refine px_iconst (v := nI 0) dX5_model_21 (by decide) ?_
    refine px_istore_n dX5_model_22 (by decide) ?_
    refine px_iload_n dX5_model_23 rfl ?_
    refine px_aload_n dX5_model_24 rfl trivial ?_
    refine mm_gets dX5_model_25 F_RX5_85 (by decide) (by (try simp only [mr_In, mr_Ie, mr_A1, mr_D1, mr_R1, mr_T1, ne_eq, Nat.reduceEqDiff, not_false_eq_true]); rfl) ?_
    refine pn_icmp_ge (tgt := 81) dX5_model_28 (by decide) (nI_leI (by omega) (by omega)) (fun h2 => ?_) (fun h2 => ?_)
    · exact px_sub fin rfl
    · refine px_aload_n dX5_model_31 rfl trivial ?_
      refine mm_gets dX5_model_32 F_RX5_81 (by decide) (by (try simp only [mr_In, mr_Ie, mr_A1, mr_D1, mr_R1, mr_T1, ne_eq, Nat.reduceEqDiff, not_false_eq_true]); rfl) ?_
      refine pn_if_ne (tgt := 81) dX5_model_35 (by decide) (pn_z (by omega)) (fun h3 => ?_) (fun h3 => ?_)
      · exact px_sub fin rfl
      · exact absurd h3 (by decide)
  have good : px_ix x 8 → px_W 2 0 0 mX5_model (mq X (kc_model x) (nI (va_model s x)) s) 15 [(0, .inr (1, 0)), (1, .inl (.int x))] [.inr (1, 0)] (mm_M s X) 0 0 := by
    intro hx
    obtain ⟨e1, e2⟩ := px_ix_tn hx
    have kc : kc_model x = 0 := if_pos hx
    have xo : x = px_o (px_oc x) ∧ px_oc x ≤ 8 := px_oc_o fun _ => hx
    have inner : ∀ (u q p n : Nat) (t : mm_S), p < s.1 1 → q ≤ s.1 1 → s.1 1 < q + u → t.1 0 = 0 → mm_nq s t → n ≤ p * s.1 1 →
        (∀ t' : mm_S, t'.1 0 = 0 → mm_nq s t' → px_W 2 0 0 mX5_model (mq X (kc_model x) (nI (va_model s x)) s) 75 [(0, .inr (1, 0)), (1, .inl (.int x)), (2, .inl (.int (nI (n + px_sum (fun q => px_ch (mm_red s (px_oc x) p q)) (s.1 1))))), (3, .inl (.int (nI p)))] [] (mm_M t' X) 0 0) →
        px_W 2 0 0 mX5_model (mq X (kc_model x) (nI (va_model s x)) s) 41 [(0, .inr (1, 0)), (1, .inl (.int x)), (2, .inl (.int (nI (n + px_sum (fun q => px_ch (mm_red s (px_oc x) p q)) q)))), (3, .inl (.int (nI p))), (4, .inl (.int (nI q)))] [] (mm_M t X) 0 0 := by
      intro u
      induction u with
      | zero => intro q p n t g0 g1 g2; omega
      | succ u ih =>
        intro q p n t g0 g1 g2 t0 tn gn kk
        have t1 := tn.1 1 (by decide)
        have hs := px_sum_le (f := fun q => px_ch (mm_red s (px_oc x) p q)) (c := 1) (fun q => px_ch_le _) q
        refine px_iload dX5_model_41 rfl ?_
        refine px_aload_n dX5_model_43 rfl trivial ?_
        refine mm_gets dX5_model_44 F_RX5_85 (by decide) (by (try simp only [mr_In, mr_Ie, mr_A1, mr_D1, mr_R1, mr_T1, ne_eq, Nat.reduceEqDiff, not_false_eq_true]); rfl) ?_
        refine pn_icmp_ge (tgt := 75) dX5_model_47 (by decide) (nI_leI (by omega) (by omega)) (fun g3 => ?_) (fun g3 => ?_)
        · have hk := kk t t0 tn
          rw [show s.1 1 = q by omega] at hk
          exact px_sub hk rfl
        · have okt := ok.nq tn
          have hM : px_Met 1 0 0 mX5_isReduced [.inr (1, 0), .inl (.int x), .inl (.int (nI p)), .inl (.int (nI q))] (mm_M t X) (mm_rdq t X (px_oc x) p q) := by
            have := me_isReduced t X okt (px_oc x) p q (by omega) (by omega) (by omega)
            rw [← xo.1] at this
            exact this
          refine px_iload_n dX5_model_50 rfl ?_
          refine px_aload_n dX5_model_51 rfl trivial ?_
          refine px_iload_n dX5_model_52 rfl ?_
          refine px_iload_n dX5_model_53 rfl ?_
          refine px_iload dX5_model_54 rfl ?_
          refine px_callV (hM) dX5_model_56 L_RX5_167 (mm_rcv _ _) rfl rfl (by decide) (by omega) (by omega) (Nat.le_of_ble_eq_true rfl) (fun v9 M9 hq => ?_) (fun E9 M9 hq => ?_)
          · obtain ⟨h0, f, rfl⟩ := hq
            cases h0
            have e : mm_red t (px_oc x) p q = mm_red s (px_oc x) p q := propext (mm_red.nq tn _ _ _)
            rw [e]
            have go := ih (q + 1) p n (mm_R t 26 f) g0 (by omega) (by omega) t0 (tn.R (by decide) f) gn kk
            have es : px_sum (fun q => px_ch (mm_red s (px_oc x) p q)) (q + 1) = px_sum (fun q => px_ch (mm_red s (px_oc x) p q)) q + px_ch (mm_red s (px_oc x) p q) := rfl
            rw [es, ← Nat.add_assoc] at go
            refine pn_if_eq (tgt := 66) dX5_model_59 (by decide) (px_ch_z _) (fun h5 => ?_) (fun h5 => ?_)
            · rw [px_ch_0 h5] at go
              refine px_iconst (v := nI 0) dX5_model_66 (by decide) ?_
              refine pn_iadd dX5_model_67 (by first | exact nI_add _ _ | rfl) ?_
              refine px_istore_n dX5_model_68 (by decide) ?_
              refine px_iinc dX5_model_69 rfl (by first | exact pn_i1 _ | exact pn_im1 (by omega)) (by decide) ?_
              refine px_goto (tgt := 41) dX5_model_72 (by decide) ?_
              exact px_sub go rfl
            · rw [px_ch_1 (Classical.not_not.mp h5)] at go
              refine px_iconst (v := nI 1) dX5_model_62 (by decide) ?_
              refine px_goto (tgt := 67) dX5_model_63 (by decide) ?_
              refine pn_iadd dX5_model_67 (by first | exact nI_add _ _ | rfl) ?_
              refine px_istore_n dX5_model_68 (by decide) ?_
              refine px_iinc dX5_model_69 rfl (by first | exact pn_i1 _ | exact pn_im1 (by omega)) (by decide) ?_
              refine px_goto (tgt := 41) dX5_model_72 (by decide) ?_
              exact px_sub go rfl
          · exact absurd hq.1 (fun z => by cases z)
    have outer : ∀ (u p : Nat) (t : mm_S), p ≤ s.1 1 → s.1 1 < p + u → t.1 0 = 0 → mm_nq s t →
        px_W 2 0 0 mX5_model (mq X (kc_model x) (nI (va_model s x)) s) 23 [(0, .inr (1, 0)), (1, .inl (.int x)), (2, .inl (.int (nI (px_sum (fun p => px_sum (fun q => px_ch (mm_red s (px_oc x) p q)) (s.1 1)) p)))), (3, .inl (.int (nI p)))] [] (mm_M t X) 0 0 := by
      intro u
      induction u with
      | zero => intro p t g1 g2; omega
      | succ u ih =>
        intro p t g1 g2 t0 tn
        have t1 := tn.1 1 (by decide)
        have hs := px_sum_le (f := fun p => px_sum (fun q => px_ch (mm_red s (px_oc x) p q)) (s.1 1)) (c := s.1 1) (fun p => by have := px_sum_le (f := fun q => px_ch (mm_red s (px_oc x) p q)) (c := 1) (fun q => px_ch_le _) (s.1 1); omega) p
        have fin : p = s.1 1 → px_W 2 0 0 mX5_model (mq X (kc_model x) (nI (va_model s x)) s) 81 [(0, .inr (1, 0)), (1, .inl (.int x)), (2, .inl (.int (nI (px_sum (fun p => px_sum (fun q => px_ch (mm_red s (px_oc x) p q)) (s.1 1)) p)))), (3, .inl (.int (nI p)))] [] (mm_M t X) 0 0 := by
          intro g4
          refine px_iload_n dX5_model_81 rfl ?_
          refine px_iret dX5_model_82 rfl ?_ (by omega) (by omega)
          exact ⟨_, _, rfl, rfl, t0.trans kc.symm, tn, fun _ => by unfold va_model; rw [g4]⟩
        refine px_iload_n dX5_model_23 rfl ?_
        refine px_aload_n dX5_model_24 rfl trivial ?_
        refine mm_gets dX5_model_25 F_RX5_85 (by decide) (by (try simp only [mr_In, mr_Ie, mr_A1, mr_D1, mr_R1, mr_T1, ne_eq, Nat.reduceEqDiff, not_false_eq_true]); rfl) ?_
        refine pn_icmp_ge (tgt := 81) dX5_model_28 (by decide) (nI_leI (by omega) (by omega)) (fun g3 => ?_) (fun g3 => ?_)
        · exact px_sub (fin (by omega)) rfl
        · refine px_aload_n dX5_model_31 rfl trivial ?_
          refine mm_gets dX5_model_32 F_RX5_81 (by decide) (by (try simp only [mr_In, mr_Ie, mr_A1, mr_D1, mr_R1, mr_T1, ne_eq, Nat.reduceEqDiff, not_false_eq_true]); rfl) ?_
          refine pn_if_ne (tgt := 81) dX5_model_35 (by decide) (pn_z (by omega)) (fun g4 => ?_) (fun g4 => ?_)
          · exact absurd t0 g4
          · refine px_iconst (v := nI 0) dX5_model_38 (by decide) ?_
            refine px_istore dX5_model_39 (by decide) ?_
            exact px_sub (inner (s.1 1 + 1) 0 p _ t (by omega) (by omega) (by omega) t0 tn hs (fun t' z1 z2 => by
              refine px_iinc dX5_model_75 rfl (by first | exact pn_i1 _ | exact pn_im1 (by omega)) (by decide) ?_
              refine px_goto (tgt := 23) dX5_model_78 (by decide) ?_
              exact px_sub (ih (p + 1) t' (by omega) (by omega) z1 z2) rfl)) rfl
    refine px_iconst (v := nI 0) dX5_model_15 (by decide) ?_
    refine mm_put dX5_model_16 F_RX5_81 nf_5_0 (by decide) (by first | exact ⟨rfl, rfl⟩ | decide) ?_
    refine px_iconst (v := nI 0) dX5_model_19 (by decide) ?_
    refine px_istore_n dX5_model_20 (by decide) ?_
    refine px_iconst (v := nI 0) dX5_model_21 (by decide) ?_
    refine px_istore_n dX5_model_22 (by decide) ?_
    exact px_sub (outer (s.1 1 + 1) 0 (mm_I s 0 0) (by omega) (by omega) rfl ((mm_nq.rf s).I0 0)) rfl
  refine px_aload_n dX5_model_0 rfl trivial ?_
  refine px_iload_n dX5_model_1 rfl ?_
  refine pn_if_lt (tgt := 11) dX5_model_2 (by decide) (px_lt0 _) (fun h => ?_) (fun h => ?_)
  · exact px_sub (bad (fun z => by have := z.1; omega)) rfl
  · refine px_iload_n dX5_model_5 rfl ?_
    refine px_bipush (v := nI 8) dX5_model_6 (by decide) ?_
    refine pn_icmp_lt (tgt := 15) dX5_model_8 (by decide) (px_ltN _ (by decide)) (fun h2 => ?_) (fun h2 => ?_)
    · exact px_sub (good ⟨by omega, by omega⟩) rfl
    · exact px_sub (bad (fun z => by have := z.2; omega)) rfl
end
section
/-! ===== the greatest sum of delays ===== -/
theorem px_nodup_len : ∀ (n : Nat) (l : List Nat), l.Nodup → (∀ a ∈ l, a < n) → l.length ≤ n := by
  intro n
  induction n with
  | zero =>
    intro l _ h
    cases l with
    | nil => exact Nat.le_refl _
    | cons a l => exact absurd (h a List.mem_cons_self) (Nat.not_lt_zero _)
  | succ n ih =>
    intro l hn h
    have key : ∀ l : List Nat, l.Nodup → l.length ≤ (l.filter (fun a => !(a == n))).length + 1 ∧ (n ∉ l → l.length ≤ (l.filter (fun a => !(a == n))).length) := by
      intro l
      induction l with
      | nil => intro _; exact ⟨Nat.zero_le _, fun _ => Nat.le_refl _⟩
      | cons a l ihl =>
        intro hn
        obtain ⟨h1, h2⟩ := List.nodup_cons.mp hn
        obtain ⟨i1, i2⟩ := ihl h2
        by_cases e : a = n
        · subst e
          rw [List.filter_cons_of_neg (by simp)]
          exact ⟨by have := i2 h1; simp only [List.length_cons]; omega, fun z => absurd List.mem_cons_self z⟩
        · rw [List.filter_cons_of_pos (by simp [e])]
          refine ⟨by simp only [List.length_cons]; omega, fun z => ?_⟩
          have := i2 (fun z' => z (List.mem_cons_of_mem _ z'))
          simp only [List.length_cons]; omega
    have := (key l hn).1
    have h3 := ih (l.filter (fun a => !(a == n))) (hn.sublist List.filter_sublist) (fun a ha => by
      obtain ⟨ha1, ha2⟩ := List.mem_filter.mp ha
      have := h a ha1
      have : a ≠ n := fun e => by simp [e] at ha2
      omega)
    omega
/-- along a walk the ranks rise: no arc comes twice -/
theorem mm_wk_rk {s : mm_S} {b : Nat} {rk : Nat → Nat} (hr : ∀ a, a < s.1 6 → rk (s.2.1 3 a) < rk (s.2.1 4 a)) : ∀ (as : List Nat) (p q : Nat), mm_wk s b p as q → rk p ≤ rk q ∧ as.Nodup ∧ ∀ a ∈ as, a < s.1 6 ∧ rk p ≤ rk (s.2.1 3 a) ∧ rk (s.2.1 4 a) ≤ rk q := by
  intro as
  induction as with
  | nil => intro p q h; cases h; exact ⟨Nat.le_refl _, List.nodup_nil, fun a h => absurd h List.not_mem_nil⟩
  | cons a as ih =>
    intro p q h
    obtain ⟨h1, h2, h3, h4⟩ := h
    obtain ⟨i1, i2, i3⟩ := ih _ _ h4
    have := hr a h1
    rw [h3] at this
    refine ⟨by omega, List.nodup_cons.mpr ⟨fun z => ?_, i2⟩, fun a' ha => ?_⟩
    · have := (i3 a z).2.1
      rw [h3] at this; omega
    · rcases List.mem_cons.mp ha with e | e
      · subst e; exact ⟨h1, by rw [h3]; exact Nat.le_refl _, i1⟩
      · have := i3 a' e
        exact ⟨this.1, by omega, this.2.2⟩
theorem mm_wk_len {s : mm_S} (ok : mm_ok s) {b p q : Nat} {as : List Nat} (h : mm_wk s b p as q) : as.length ≤ s.1 6 ∧ as.length ≤ 150 := by
  obtain ⟨rk, hr⟩ := ok.2.2.2.2.2.2.2
  obtain ⟨-, h2, h3⟩ := mm_wk_rk hr as p q h
  have := px_nodup_len _ as h2 fun a ha => (h3 a ha).1
  have := ok.1.2.1
  omega
def mm_ln (s : mm_S) : List Nat → Int
  | [] => 0
  | a :: as => s.2.2 5 a + mm_ln s as
theorem mm_ln_ap (s : mm_S) (as bs : List Nat) : mm_ln s (as ++ bs) = mm_ln s as + mm_ln s bs := by
  induction as with
  | nil => exact (Int.zero_add _).symm
  | cons a as ih => show s.2.2 5 a + mm_ln s (as ++ bs) = s.2.2 5 a + mm_ln s as + mm_ln s bs; rw [ih]; omega
theorem mm_ln_bd {s : mm_S} (ok : mm_ok s) : ∀ (as : List Nat), (∀ a ∈ as, a < s.1 6) → 0 ≤ mm_ln s as ∧ mm_ln s as ≤ as.length * 8388608 := by
  intro as
  induction as with
  | nil => intro _; exact ⟨Int.le_refl _, by show (0 : Int) ≤ _; simp⟩
  | cons a as ih =>
    intro h
    have := ih fun b hb => h b (List.mem_cons_of_mem _ hb)
    have h2 := (ok.2.1 a (h a List.mem_cons_self)).2.2
    show 0 ≤ s.2.2 5 a + mm_ln s as ∧ s.2.2 5 a + mm_ln s as ≤ ((as.length + 1 : Nat) : Int) * 8388608
    omega
theorem mm_wk_mem {s : mm_S} {b : Nat} : ∀ {as : List Nat} {p q : Nat}, mm_wk s b p as q → ∀ a ∈ as, a < s.1 6 := by
  intro as
  induction as with
  | nil => intro p q _ a h; exact absurd h List.not_mem_nil
  | cons a as ih =>
    intro p q h c hc
    rcases List.mem_cons.mp hc with e | e
    · subst e; exact h.1
    · exact ih h.2.2.2 c e
theorem mm_wk_bd {s : mm_S} (ok : mm_ok s) {b p q : Nat} {as : List Nat} (h : mm_wk s b p as q) : 0 ≤ mm_ln s as ∧ mm_ln s as ≤ 1258291200 := by
  have h1 := mm_ln_bd ok as (mm_wk_mem h)
  have h2 := (mm_wk_len ok h).2
  omega
/-- the greatest sum from p to q inside a block -/
def mm_gr (s : mm_S) (b p q : Nat) (v : Int) : Prop := (∃ as, mm_wk s b p as q ∧ mm_ln s as = v) ∧ ∀ as, mm_wk s b p as q → mm_ln s as ≤ v
theorem mm_gr.uq {s : mm_S} {b p q : Nat} {v w : Int} (h : mm_gr s b p q v) (g : mm_gr s b p q w) : v = w := by
  obtain ⟨⟨as, h1, h2⟩, h3⟩ := h
  obtain ⟨⟨bs, g1, g2⟩, g3⟩ := g
  have := h3 bs g1
  have := g3 as h1
  omega
def mm_rdv (s : mm_S) (b p q : Nat) (v : Int) : Prop := (mm_red s b p q → mm_gr s b p q v) ∧ (¬ mm_red s b p q → v = -8)
def kc_reduced (s : mm_S) (x y z : Int32) : Nat := if ¬ px_ix x 8 then 1 else if ¬ px_ix y (s.1 1) then 1 else if ¬ px_ix z (s.1 1) then 1 else 0
def mq_reduced (s : mm_S) (X : px_M) (x y z : Int32) : px_Q := fun o M' => ∃ v : Int, (kc_reduced s x y z = 0 → mm_rdv s (px_oc x) (px_tn y) (px_tn z) v) ∧ mqd X (kc_reduced s x y z) (dz v) s o M'
theorem px_sum_lt {f g : Nat → Nat} {q : Nat} : ∀ {k : Nat}, q < k → (∀ i, i ≠ q → f i = g i) → f q < g q → px_sum f k < px_sum g k := by
  intro k
  induction k with
  | zero => intro h; omega
  | succ k ih =>
    intro h h1 h2
    show px_sum f k + f k < px_sum g k + g k
    by_cases e : k = q
    · subst e
      rw [px_sum_same (g := g) fun i hi => h1 i (by omega)]
      omega
    · have := ih (by omega) h1 h2
      rw [h1 k e]; omega
/-- what the row of greatest sums holds on the way -/
def mm_gi (s : mm_S) (b p : Nat) (g : Nat → Int) : Prop := 0 ≤ g p ∧ ∀ q, q < 60 → (g q = -8 ∨ ∃ as, mm_wk s b p as q ∧ mm_ln s as = g q)
theorem mm_gi.bd {s : mm_S} (ok : mm_ok s) {b p : Nat} {g : Nat → Int} (h : mm_gi s b p g) {q : Nat} (hq : q < 60) : -8 ≤ g q ∧ g q ≤ 1258291200 := by
  rcases h.2 q hq with e | ⟨as, h1, h2⟩
  · omega
  · have := mm_wk_bd ok h1; omega
theorem mm_gi.fin {s : mm_S} {b p q : Nat} {g : Nat → Int} (h : mm_gi s b p g) (hc : ∀ a, a < s.1 6 → mm_in s b a → 0 ≤ g (s.2.1 3 a) → g (s.2.1 3 a) + s.2.2 5 a ≤ g (s.2.1 4 a)) (ok : mm_ok s) (hq : q < 60) (hr : mm_rch s b p q) : mm_gr s b p q (g q) := by
  have key : ∀ (as : List Nat) (r : Nat), 0 ≤ g r → mm_wk s b r as q → g r + mm_ln s as ≤ g q := by
    intro as
    induction as with
    | nil => intro r h0 h1; cases h1; show g q + 0 ≤ g q; omega
    | cons a as ih =>
      intro r h0 h1
      obtain ⟨h1, h2, h3, h4⟩ := h1
      subst h3
      have h5 := hc a h1 h2 h0
      have h6 := (ok.2.1 a h1).2.2.1
      have := ih _ (by omega) h4
      show _ + (s.2.2 5 a + mm_ln s as) ≤ _
      omega
  obtain ⟨as, ha⟩ := hr
  have h0 := key as p h.1 ha
  have h1 := (mm_wk_bd ok ha).1
  have hp := h.1
  refine ⟨?_, fun bs hb => by have := key bs p h.1 hb; omega⟩
  rcases h.2 q hq with e | e
  · omega
  · exact e
end
section
/-! ===== reduced ===== -/
def mm_mu (g : Nat → Int) : Nat := px_sum (fun i => (1258291200 - g i).toNat) 60
theorem mm_in_b {s : mm_S} {b a : Nat} (hb : b ≠ 0) : mm_in s b a ↔ s.2.1 2 (s.2.1 3 a) = b ∧ s.2.1 2 (s.2.1 4 a) = b := ⟨fun h => h.resolve_left hb, Or.inr⟩
set_option maxRecDepth 100000 in
set_option maxHeartbeats 4000000 in
theorem me_reduced_l (s : mm_S) (X : px_M) (ok : mm_ok s) (x : Int32) (hx : px_ix x 8) (p q : Nat) (hp : p < s.1 1) (hq : q < s.1 1) (Q : px_Q) (hr : mm_rch s (px_oc x) p q) (hQ : ∀ g : Nat → Int, mm_gr s (px_oc x) p q (g q) → Q (.inl (some (.inl (.double (dz (g q)))))) (mm_M (mm_T s 30 g) X)) :
    ∀ (N : Nat) (g : Nat → Int), mm_mu g < N → mm_gi s (px_oc x) p g → px_W 2 0 0 mX5_reduced Q 102 [(0, .inr (1, 0)), (1, .inl (.int x)), (3, .inl (.int (nI q)))] [] (mm_M (mm_T s 30 g) X) 0 0 := by
  have h6 := ok.1.2.1
  have h1 := ok.1.1
  have b0 : px_oc x ≠ 0 := by
    have e : x ≠ -1 := fun e => by rw [e] at hx; exact absurd hx.1 (by decide)
    unfold px_oc
    rw [if_neg e]
    omega
  intro N
  induction N with
  | zero => intro g h; omega
  | succ N ihN =>
    intro g hN hg
    have loop : ∀ (u a y : Nat) (g' : Nat → Int), a ≤ s.1 6 → s.1 6 < a + u → mm_gi s (px_oc x) p g' →
        ((y = 0 ∧ mm_mu g' = mm_mu g ∧ ∀ a', a' < a → mm_in s (px_oc x) a' → 0 ≤ g' (s.2.1 3 a') → g' (s.2.1 3 a') + s.2.2 5 a' ≤ g' (s.2.1 4 a')) ∨ (y = 1 ∧ mm_mu g' < mm_mu g)) →
        px_W 2 0 0 mX5_reduced Q 108 [(0, .inr (1, 0)), (1, .inl (.int x)), (3, .inl (.int (nI q))), (4, .inl (.int (nI y))), (5, .inl (.int (nI a)))] [] (mm_M (mm_T s 30 g') X) 0 0 := by
      intro u
      induction u with
      | zero => intro a y g' g1 g2; omega
      | succ u ihu =>
        intro a y g' g1 g2 hg' hy
        refine px_iload dX5_reduced_108 rfl ?_
        refine px_aload_n dX5_reduced_110 rfl trivial ?_
        refine mm_gets dX5_reduced_111 F_RX5_96 (by decide) (by (try simp only [mr_In, mr_Ie, mr_A1, mr_D1, mr_R1, mr_T1, ne_eq, Nat.reduceEqDiff, not_false_eq_true]); rfl) ?_
        refine pn_icmp_ge (tgt := 255) dX5_reduced_114 (by decide) (nI_leI (by omega) (by omega)) (fun g3 => ?_) (fun g3 => ?_)
        · have y1 : y ≤ 1 := by rcases hy with ⟨z, -⟩ | ⟨z, -⟩ <;> omega
          refine px_goto (tgt := 97) dX5_reduced_255 (by decide) ?_
          refine px_iload dX5_reduced_97 rfl ?_
          refine pn_if_eq (tgt := 258) dX5_reduced_99 (by decide) (pn_z (by omega)) (fun g4 => ?_) (fun g4 => ?_)
          · refine px_aload_n dX5_reduced_258 rfl trivial ?_
            refine mm_get dX5_reduced_259 F_RX5_78 rfl ?_
            refine px_iload_n dX5_reduced_262 rfl ?_
            refine mm_ald_d dX5_reduced_263 rfl (by first | rfl | assumption) (by (try simp only [mr_I3, mr_A3, mr_Dn, mr_De, mr_R3, mr_Tn, mr_Te, ne_eq, Nat.reduceEqDiff, not_false_eq_true]); rfl) (by first | assumption | omega) ?_
            refine px_dret dX5_reduced_264 rfl (hQ g' ?_) (by omega) (by omega)
            rcases hy with ⟨-, -, hc⟩ | ⟨hy, -⟩
            · exact hg'.fin (fun a' ha hi h => hc a' (by have : s.1 6 ≤ a := g3; omega) hi h) ok (by omega) hr
            · omega
          · refine px_sub (ihN g' ?_ hg') rfl
            rcases hy with ⟨hy, -⟩ | ⟨-, hy⟩
            · exact absurd hy g4
            · omega
        · have g3' : a < s.1 6 := by have : ¬ s.1 6 ≤ a := g3; omega
          obtain ⟨b1, b2, b3, b4⟩ := ok.2.1 a g3'
          have k5 := hg'.bd ok (q := s.2.1 3 a) (by omega)
          have k6 := hg'.bd ok (q := s.2.1 4 a) (by omega)
          have c3 := ok.2.2.2.2.2.1 (s.2.1 3 a) b1
          have c4 := ok.2.2.2.2.2.1 (s.2.1 4 a) b2
          have go : ∀ y' g'', mm_gi s (px_oc x) p g'' → ((y' = 0 ∧ mm_mu g'' = mm_mu g ∧ ∀ a', a' < a + 1 → mm_in s (px_oc x) a' → 0 ≤ g'' (s.2.1 3 a') → g'' (s.2.1 3 a') + s.2.2 5 a' ≤ g'' (s.2.1 4 a')) ∨ (y' = 1 ∧ mm_mu g'' < mm_mu g)) → px_W 2 0 0 mX5_reduced Q 249 [(0, .inr (1, 0)), (1, .inl (.int x)), (3, .inl (.int (nI q))), (4, .inl (.int (nI y'))), (5, .inl (.int (nI a)))] [] (mm_M (mm_T s 30 g'') X) 0 0 := by
            intro y' g'' k2 k3
            refine px_iinc dX5_reduced_249 rfl (by first | exact pn_i1 _ | exact pn_im1 (by omega)) (by decide) ?_
            refine px_goto (tgt := 108) dX5_reduced_252 (by decide) ?_
            exact px_sub (ihu (a + 1) y' g'' (by omega) (by omega) k2 k3) rfl
          have skip : ¬ (mm_in s (px_oc x) a ∧ 0 ≤ g' (s.2.1 3 a) ∧ g' (s.2.1 4 a) < g' (s.2.1 3 a) + s.2.2 5 a) → ((y = 0 ∧ mm_mu g' = mm_mu g ∧ ∀ a', a' < a + 1 → mm_in s (px_oc x) a' → 0 ≤ g' (s.2.1 3 a') → g' (s.2.1 3 a') + s.2.2 5 a' ≤ g' (s.2.1 4 a')) ∨ (y = 1 ∧ mm_mu g' < mm_mu g)) := by
            intro k
            rcases hy with ⟨hy, hn, hc⟩ | hy
            · refine Or.inl ⟨hy, hn, fun a' ha hi h => ?_⟩
              by_cases e : a' = a
              · subst e
                have k' : ¬ g' (s.2.1 4 a') < g' (s.2.1 3 a') + s.2.2 5 a' := fun z => k ⟨hi, h, z⟩
                omega
              · exact hc a' (by omega) hi h
            · exact Or.inr hy
          have body : ∀ w, w ≤ 1 → (w = 1 ↔ mm_in s (px_oc x) a) → px_W 2 0 0 mX5_reduced Q 154 [(0, .inr (1, 0)), (1, .inl (.int x)), (3, .inl (.int (nI q))), (4, .inl (.int (nI y))), (5, .inl (.int (nI a)))] [.inl (.int (nI w))] (mm_M (mm_T s 30 g') X) 0 0 := by
            intro w w1 hw
            refine px_istore dX5_reduced_154 (by decide) ?_
            refine px_iload dX5_reduced_156 rfl ?_
            refine pn_if_eq (tgt := 249) dX5_reduced_158 (by decide) (pn_z (by omega)) (fun k1 => ?_) (fun k1 => ?_)
            · exact px_sub (go y g' hg' (skip (fun z => by have := hw.mpr z.1; omega))) rfl
            · have hi : mm_in s (px_oc x) a := hw.mp (by omega)
              refine px_aload_n dX5_reduced_161 rfl trivial ?_
              refine mm_get dX5_reduced_162 F_RX5_78 rfl ?_
              refine px_aload_n dX5_reduced_165 rfl trivial ?_
              refine mm_get dX5_reduced_166 F_RX5_13 rfl ?_
              refine px_iload dX5_reduced_169 rfl ?_
              refine mm_ald dX5_reduced_171 rfl (by first | rfl | assumption) (by (try simp only [mr_I2, mr_An, mr_Ae, mr_D2, mr_Rn, mr_Re, mr_T2, ne_eq, Nat.reduceEqDiff, not_false_eq_true]); rfl) (by first | assumption | omega) ?_
              refine mm_ald_d dX5_reduced_172 rfl (by first | rfl | assumption) (by (try simp only [mr_I3, mr_A3, mr_Dn, mr_De, mr_R3, mr_Tn, mr_Te, ne_eq, Nat.reduceEqDiff, not_false_eq_true]); rfl) (by first | assumption | omega) ?_
              refine pn_dconst0 dX5_reduced_173 ?_
              refine pn_dcmp dX5_reduced_174 rfl rfl (by omega) (by omega) ?_
              refine pn_if_lt (tgt := 249) dX5_reduced_175 (by decide) (dz_c_lt _ _) (fun k2 => ?_) (fun k2 => ?_)
              · exact px_sub (go y g' hg' (skip (fun z => by omega))) rfl
              · refine px_aload_n dX5_reduced_178 rfl trivial ?_
                refine mm_get dX5_reduced_179 F_RX5_78 rfl ?_
                refine px_aload_n dX5_reduced_182 rfl trivial ?_
                refine mm_get dX5_reduced_183 F_RX5_13 rfl ?_
                refine px_iload dX5_reduced_186 rfl ?_
                refine mm_ald dX5_reduced_188 rfl (by first | rfl | assumption) (by (try simp only [mr_I2, mr_An, mr_Ae, mr_D2, mr_Rn, mr_Re, mr_T2, ne_eq, Nat.reduceEqDiff, not_false_eq_true]); rfl) (by first | assumption | omega) ?_
                refine mm_ald_d dX5_reduced_189 rfl (by first | rfl | assumption) (by (try simp only [mr_I3, mr_A3, mr_Dn, mr_De, mr_R3, mr_Tn, mr_Te, ne_eq, Nat.reduceEqDiff, not_false_eq_true]); rfl) (by first | assumption | omega) ?_
                refine px_aload_n dX5_reduced_190 rfl trivial ?_
                refine mm_get dX5_reduced_191 F_RX5_19 rfl ?_
                refine px_iload dX5_reduced_194 rfl ?_
                refine mm_ald_d dX5_reduced_196 rfl (by first | rfl | assumption) (by (try simp only [mr_I3, mr_A3, mr_Dn, mr_De, mr_R3, mr_Tn, mr_Te, ne_eq, Nat.reduceEqDiff, not_false_eq_true]); rfl) (by first | assumption | omega) ?_
                refine pn_dadd dX5_reduced_197 (by omega) (by omega) (by first | exact Int.add_zero _ | rfl) ?_
                refine px_aload_n dX5_reduced_198 rfl trivial ?_
                refine mm_get dX5_reduced_199 F_RX5_78 rfl ?_
                refine px_aload_n dX5_reduced_202 rfl trivial ?_
                refine mm_get dX5_reduced_203 F_RX5_16 rfl ?_
                refine px_iload dX5_reduced_206 rfl ?_
                refine mm_ald dX5_reduced_208 rfl (by first | rfl | assumption) (by (try simp only [mr_I2, mr_An, mr_Ae, mr_D2, mr_Rn, mr_Re, mr_T2, ne_eq, Nat.reduceEqDiff, not_false_eq_true]); rfl) (by first | assumption | omega) ?_
                refine mm_ald_d dX5_reduced_209 rfl (by first | rfl | assumption) (by (try simp only [mr_I3, mr_A3, mr_Dn, mr_De, mr_R3, mr_Tn, mr_Te, ne_eq, Nat.reduceEqDiff, not_false_eq_true]); rfl) (by first | assumption | omega) ?_
                refine pn_dcmp dX5_reduced_210 rfl rfl (by omega) (by omega) ?_
                refine pn_if_le (tgt := 249) dX5_reduced_211 (by decide) (dz_c_le _ _) (fun k3 => ?_) (fun k3 => ?_)
                · exact px_sub (go y g' hg' (skip (fun z => by omega))) rfl
                · refine px_aload_n dX5_reduced_214 rfl trivial ?_
                  refine mm_get dX5_reduced_215 F_RX5_78 rfl ?_
                  refine px_aload_n dX5_reduced_218 rfl trivial ?_
                  refine mm_get dX5_reduced_219 F_RX5_16 rfl ?_
                  refine px_iload dX5_reduced_222 rfl ?_
                  refine mm_ald dX5_reduced_224 rfl (by first | rfl | assumption) (by (try simp only [mr_I2, mr_An, mr_Ae, mr_D2, mr_Rn, mr_Re, mr_T2, ne_eq, Nat.reduceEqDiff, not_false_eq_true]); rfl) (by first | assumption | omega) ?_
                  refine px_aload_n dX5_reduced_225 rfl trivial ?_
                  refine mm_get dX5_reduced_226 F_RX5_78 rfl ?_
                  refine px_aload_n dX5_reduced_229 rfl trivial ?_
                  refine mm_get dX5_reduced_230 F_RX5_13 rfl ?_
                  refine px_iload dX5_reduced_233 rfl ?_
                  refine mm_ald dX5_reduced_235 rfl (by first | rfl | assumption) (by (try simp only [mr_I2, mr_An, mr_Ae, mr_D2, mr_Rn, mr_Re, mr_T2, ne_eq, Nat.reduceEqDiff, not_false_eq_true]); rfl) (by first | assumption | omega) ?_
                  refine mm_ald_d dX5_reduced_236 rfl (by first | rfl | assumption) (by (try simp only [mr_I3, mr_A3, mr_Dn, mr_De, mr_R3, mr_Tn, mr_Te, ne_eq, Nat.reduceEqDiff, not_false_eq_true]); rfl) (by first | assumption | omega) ?_
                  refine px_aload_n dX5_reduced_237 rfl trivial ?_
                  refine mm_get dX5_reduced_238 F_RX5_19 rfl ?_
                  refine px_iload dX5_reduced_241 rfl ?_
                  refine mm_ald_d dX5_reduced_243 rfl (by first | rfl | assumption) (by (try simp only [mr_I3, mr_A3, mr_Dn, mr_De, mr_R3, mr_Tn, mr_Te, ne_eq, Nat.reduceEqDiff, not_false_eq_true]); rfl) (by first | assumption | omega) ?_
                  refine pn_dadd dX5_reduced_244 (by omega) (by omega) (by first | exact Int.add_zero _ | rfl) ?_
                  refine mm_ast_d dX5_reduced_245 rfl (by first | rfl | assumption) (by first | rfl | assumption) (by first | assumption | omega) ?_
                  refine px_iconst (v := nI 1) dX5_reduced_246 (by decide) ?_
                  refine px_istore dX5_reduced_247 (by decide) ?_
                  rw [mr_TD]
                  have hd : ∀ i, i ≠ s.2.1 4 a → px_upN g' (s.2.1 4 a) (g' (s.2.1 3 a) + s.2.2 5 a) i = g' i := fun i hi => if_neg hi
                  have he : px_upN g' (s.2.1 4 a) (g' (s.2.1 3 a) + s.2.2 5 a) (s.2.1 4 a) = g' (s.2.1 3 a) + s.2.2 5 a := if_pos rfl
                  have hgn : mm_gi s (px_oc x) p (px_upN g' (s.2.1 4 a) (g' (s.2.1 3 a) + s.2.2 5 a)) := by
                    refine ⟨?_, fun r hr' => ?_⟩
                    · by_cases e : p = s.2.1 4 a
                      · rw [e, he]; omega
                      · rw [hd p e]; exact hg'.1
                    · by_cases e : r = s.2.1 4 a
                      · rw [e, he]
                        rcases hg'.2 (s.2.1 3 a) (by omega) with z | ⟨as, z1, z2⟩
                        · omega
                        · exact Or.inr ⟨as ++ [a], mm_wk_ap z1 ⟨g3', hi, rfl, rfl⟩, by rw [mm_ln_ap, z2]; show _ + (s.2.2 5 a + 0) = _; omega⟩
                      · rw [hd r e]; exact hg'.2 r hr'
                  refine px_sub (go 1 _ hgn (Or.inr ⟨rfl, ?_⟩)) rfl
                  have hb := hgn.bd ok (q := s.2.1 4 a) (by omega)
                  rw [he] at hb
                  have lt : mm_mu (px_upN g' (s.2.1 4 a) (g' (s.2.1 3 a) + s.2.2 5 a)) < mm_mu g' := by
                    refine px_sum_lt (q := s.2.1 4 a) (by omega) (fun i hi => by rw [hd i hi]) ?_
                    show (1258291200 - px_upN g' (s.2.1 4 a) (g' (s.2.1 3 a) + s.2.2 5 a) (s.2.1 4 a)).toNat < (1258291200 - g' (s.2.1 4 a)).toNat
                    rw [he]; omega
                  rcases hy with ⟨-, hy, -⟩ | ⟨-, hy⟩ <;> omega
          refine px_aload_n dX5_reduced_117 rfl trivial ?_
          refine mm_get dX5_reduced_118 F_RX5_7 rfl ?_
          refine px_aload_n dX5_reduced_121 rfl trivial ?_
          refine mm_get dX5_reduced_122 F_RX5_13 rfl ?_
          refine px_iload dX5_reduced_125 rfl ?_
          refine mm_ald dX5_reduced_127 rfl (by first | rfl | assumption) (by (try simp only [mr_I2, mr_An, mr_Ae, mr_D2, mr_Rn, mr_Re, mr_T2, ne_eq, Nat.reduceEqDiff, not_false_eq_true]); rfl) (by first | assumption | omega) ?_
          refine mm_ald_o dX5_reduced_128 rfl (by first | rfl | assumption) (by (try simp only [mr_I2, mr_An, mr_Ae, mr_D2, mr_Rn, mr_Re, mr_T2, ne_eq, Nat.reduceEqDiff, not_false_eq_true]); rfl) (by first | assumption | omega) ?_
          refine px_iload_n dX5_reduced_129 rfl ?_
          refine pn_icmp_ne (tgt := 153) dX5_reduced_130 (by decide) (px_eqo (n:=8) (by omega) (by omega) (fun _ => hx)) (fun k1 => ?_) (fun k1 => ?_)
          · refine px_iconst (v := nI 0) dX5_reduced_153 (by decide) ?_
            exact px_sub (body 0 (by decide) ⟨fun z => by omega, fun z => (k1 ((mm_in_b b0).mp z).1).elim⟩) rfl
          · refine px_aload_n dX5_reduced_133 rfl trivial ?_
            refine mm_get dX5_reduced_134 F_RX5_7 rfl ?_
            refine px_aload_n dX5_reduced_137 rfl trivial ?_
            refine mm_get dX5_reduced_138 F_RX5_16 rfl ?_
            refine px_iload dX5_reduced_141 rfl ?_
            refine mm_ald dX5_reduced_143 rfl (by first | rfl | assumption) (by (try simp only [mr_I2, mr_An, mr_Ae, mr_D2, mr_Rn, mr_Re, mr_T2, ne_eq, Nat.reduceEqDiff, not_false_eq_true]); rfl) (by first | assumption | omega) ?_
            refine mm_ald_o dX5_reduced_144 rfl (by first | rfl | assumption) (by (try simp only [mr_I2, mr_An, mr_Ae, mr_D2, mr_Rn, mr_Re, mr_T2, ne_eq, Nat.reduceEqDiff, not_false_eq_true]); rfl) (by first | assumption | omega) ?_
            refine px_iload_n dX5_reduced_145 rfl ?_
            refine pn_icmp_ne (tgt := 153) dX5_reduced_146 (by decide) (px_eqo (n:=8) (by omega) (by omega) (fun _ => hx)) (fun k2 => ?_) (fun k2 => ?_)
            · refine px_iconst (v := nI 0) dX5_reduced_153 (by decide) ?_
              exact px_sub (body 0 (by decide) ⟨fun z => by omega, fun z => (k2 ((mm_in_b b0).mp z).2).elim⟩) rfl
            · refine px_iconst (v := nI 1) dX5_reduced_149 (by decide) ?_
              refine px_goto (tgt := 154) dX5_reduced_150 (by decide) ?_
              exact px_sub (body 1 (by decide) ⟨fun _ => (mm_in_b b0).mpr ⟨k1, k2⟩, fun _ => rfl⟩) rfl
    refine px_iconst (v := nI 0) dX5_reduced_102 (by decide) ?_
    refine px_istore dX5_reduced_103 (by decide) ?_
    refine px_iconst (v := nI 0) dX5_reduced_105 (by decide) ?_
    refine px_istore dX5_reduced_106 (by decide) ?_
    exact px_sub (loop (s.1 6 + 1) 0 0 g (by omega) (by omega) hg (Or.inl ⟨rfl, rfl, fun a' ha => by omega⟩)) rfl
set_option maxRecDepth 100000 in
set_option maxHeartbeats 4000000 in
theorem me_reduced_i (s : mm_S) (X : px_M) (ok : mm_ok s) (x : Int32) (hx : px_ix x 8) (p q : Nat) (hp : p < s.1 1) (hq : q < s.1 1) (Q : px_Q) (hr : mm_rch s (px_oc x) p q) (hQ : ∀ g : Nat → Int, mm_gr s (px_oc x) p q (g q) → Q (.inl (some (.inl (.double (dz (g q)))))) (mm_M (mm_T s 30 g) X)) :
    px_W 2 0 0 mX5_reduced Q 58 [(0, .inr (1, 0)), (1, .inl (.int x)), (2, .inl (.int (nI p))), (3, .inl (.int (nI q)))] [] (mm_M s X) 0 0 := by
  have h1 := ok.1.1
  have loop : ∀ (u j : Nat) (g : Nat → Int), j ≤ 60 → 60 < j + u → (∀ i, i < j → g i = if i = p then 0 else -8) → px_W 2 0 0 mX5_reduced Q 61 [(0, .inr (1, 0)), (1, .inl (.int x)), (2, .inl (.int (nI p))), (3, .inl (.int (nI q))), (4, .inl (.int (nI j)))] [] (mm_M (mm_T s 30 g) X) 0 0 := by
    intro u
    induction u with
    | zero => intro j f h1 h2; omega
    | succ u ih =>
      intro j g h1 h2 hg
      refine px_iload dX5_reduced_61 rfl ?_
      refine px_bipush (v := nI 60) dX5_reduced_63 (by decide) ?_
      refine pn_icmp_ge (tgt := 94) dX5_reduced_65 (by decide) (nI_leI (by omega) (by omega)) (fun h3 => ?_) (fun h3 => ?_)
      · refine px_iconst (v := nI 1) dX5_reduced_94 (by decide) ?_
        refine px_istore dX5_reduced_95 (by decide) ?_
        refine px_iload dX5_reduced_97 rfl ?_
        refine pn_if_eq (tgt := 258) dX5_reduced_99 (by decide) (pn_z (by omega)) (fun h4 => ?_) (fun h4 => ?_)
        · omega
        · refine px_sub (me_reduced_l s X ok x hx p q hp hq Q hr hQ (mm_mu g + 1) g (by omega) ⟨?_, fun i hi => ?_⟩) rfl
          · rw [hg p (by omega), if_pos rfl]; exact Int.le_refl _
          · rw [hg i (by omega)]
            by_cases e : i = p
            · rw [if_pos e]; exact Or.inr ⟨[], e.symm, rfl⟩
            · rw [if_neg e]; exact Or.inl rfl
      · have st : ∀ x', x' = (if j = p then 0 else -8) → px_W 2 0 0 mX5_reduced Q 88 [(0, .inr (1, 0)), (1, .inl (.int x)), (2, .inl (.int (nI p))), (3, .inl (.int (nI q))), (4, .inl (.int (nI j)))] [] (mm_M (mm_T s 30 (px_upN g j x')) X) 0 0 := by
          intro x' e
          refine px_iinc dX5_reduced_88 rfl (by first | exact pn_i1 _ | exact pn_im1 (by omega)) (by decide) ?_
          refine px_goto (tgt := 61) dX5_reduced_91 (by decide) ?_
          refine px_sub (ih (j + 1) (px_upN g j x') (by omega) (by omega) fun i hi => ?_) rfl
          unfold px_upN
          by_cases e' : i = j
          · rw [if_pos e', e, e']
          · rw [if_neg e']; exact hg i (by omega)
        refine px_aload_n dX5_reduced_68 rfl trivial ?_
        refine mm_get dX5_reduced_69 F_RX5_78 rfl ?_
        refine px_iload dX5_reduced_72 rfl ?_
        refine px_iload dX5_reduced_74 rfl ?_
        refine px_iload_n dX5_reduced_76 rfl ?_
        refine pn_icmp_ne (tgt := 84) dX5_reduced_77 (by decide) (nI_eq (by omega) (by omega)) (fun h4 => ?_) (fun h4 => ?_)
        · refine pn_ldc2d dX5_reduced_84 D_RX5_171 dz_m1 ?_
          refine mm_ast_d dX5_reduced_87 rfl (by first | rfl | assumption) (by first | rfl | assumption) (by first | assumption | omega) ?_
          rw [mr_TD]
          exact px_sub (st (-8) (if_neg h4).symm) rfl
        · refine pn_dconst0 dX5_reduced_80 ?_
          refine px_goto (tgt := 87) dX5_reduced_81 (by decide) ?_
          refine mm_ast_d dX5_reduced_87 rfl (by first | rfl | assumption) (by first | rfl | assumption) (by first | assumption | omega) ?_
          rw [mr_TD]
          exact px_sub (st 0 (if_pos h4).symm) rfl
  refine px_iconst (v := nI 0) dX5_reduced_58 (by decide) ?_
  refine px_istore dX5_reduced_59 (by decide) ?_
  have := loop 61 0 (s.2.2 30) (by omega) (by omega) (fun q h => by omega)
  rw [mr_T0] at this
  exact px_sub this rfl
theorem kc_reduced0 {s : mm_S} {x y z : Int32} (c0 : kc_reduced s x y z = 0) : px_ix x 8 ∧ px_ix y (s.1 1) ∧ px_ix z (s.1 1) := by
  unfold kc_reduced at c0
  by_cases h1 : px_ix x 8
  · rw [if_neg (fun z => z h1)] at c0
    by_cases h2 : px_ix y (s.1 1)
    · rw [if_neg (fun z => z h2)] at c0
      by_cases h3 : px_ix z (s.1 1)
      · exact ⟨h1, h2, h3⟩
      · rw [if_pos h3] at c0; omega
    · rw [if_pos h2] at c0; omega
  · rw [if_pos h1] at c0; omega
theorem mm_wk_nqe {s t : mm_S} (h : mm_nq s t) (b : Nat) (as : List Nat) (p q : Nat) : mm_wk t b p as q = mm_wk s b p as q := propext (mm_wk.nq h b as p q)
theorem mm_ln_nq {s t : mm_S} (h : mm_nq s t) (as : List Nat) : mm_ln t as = mm_ln s as := by
  induction as with
  | nil => rfl
  | cons a as ih => show t.2.2 5 a + mm_ln t as = s.2.2 5 a + mm_ln s as; rw [ih, (h.2 5 (by decide)).2]
theorem mm_gr.nq {s t : mm_S} (h : mm_nq s t) {b p q : Nat} {v : Int} (g : mm_gr t b p q v) : mm_gr s b p q v := by
  obtain ⟨⟨as, h1, h2⟩, h3⟩ := g
  exact ⟨⟨as, (mm_wk.nq h b as p q).mp h1, (mm_ln_nq h as).symm.trans h2⟩, fun as ha => (mm_ln_nq h as) ▸ h3 as ((mm_wk.nq h b as p q).mpr ha)⟩
set_option maxRecDepth 100000 in
set_option maxHeartbeats 4000000 in
theorem me_reduced (s : mm_S) (X : px_M) (ok : mm_ok s) (x y z : Int32) : px_Met 2 0 0 mX5_reduced [.inr (1, 0), .inl (.int x), .inl (.int y), .inl (.int z)] (mm_M s X) (mq_reduced s X x y z) := by
  have h1 := ok.1.1
  refine px_ofW (by decide) W_mX5_reduced (Nat.le_of_ble_eq_true rfl) ?_
  have tail : ∀ c, c < 4 → kc_reduced s x y z = c → px_W 2 0 0 mX5_reduced (mq_reduced s X x y z) 32 [(0, .inr (1, 0)), (1, .inl (.int x)), (2, .inl (.int y)), (3, .inl (.int z))] [.inl (.int (nI c)), .inr (1, 0)] (mm_M s X) 0 0 := by
    intro c c4 hc
    refine mm_put dX5_reduced_32 F_RX5_81 nf_5_0 (by decide) (by first | exact ⟨rfl, rfl⟩ | decide) ?_
    refine px_aload_n dX5_reduced_35 rfl trivial ?_
    refine mm_gets dX5_reduced_36 F_RX5_81 (by decide) (by (try simp only [mr_In, mr_Ie, mr_A1, mr_D1, mr_R1, mr_T1, ne_eq, Nat.reduceEqDiff, not_false_eq_true]); rfl) ?_
    refine pn_if_le (tgt := 44) dX5_reduced_39 (by decide) (pn_lez (by omega)) (fun h => ?_) (fun h => ?_)
    · have c0 : kc_reduced s x y z = 0 := by omega
      obtain ⟨hx, hy, hz⟩ := kc_reduced0 c0
      obtain ⟨e1, e2⟩ := px_ix_tn hx
      obtain ⟨e3, e4⟩ := px_ix_tn hy
      obtain ⟨e5, e6⟩ := px_ix_tn hz
      have xo : x = px_o (px_oc x) ∧ px_oc x ≤ 8 := px_oc_o fun _ => hx
      have tn : mm_nq s (mm_I s 0 c) := (mm_nq.rf s).I0 c
      have okt := ok.nq tn
      have hM : px_Met 1 0 0 mX5_isReduced [.inr (1, 0), .inl (.int x), .inl (.int y), .inl (.int z)] (mm_M (mm_I s 0 c) X) (mm_rdq (mm_I s 0 c) X (px_oc x) (px_tn y) (px_tn z)) := by
        have := me_isReduced (mm_I s 0 c) X okt (px_oc x) (px_tn y) (px_tn z) (by omega) e4 e6
        rw [← xo.1, ← e3, ← e5] at this
        exact this
      refine px_aload_n dX5_reduced_44 rfl trivial ?_
      refine px_iload_n dX5_reduced_45 rfl ?_
      refine px_iload_n dX5_reduced_46 rfl ?_
      refine px_iload_n dX5_reduced_47 rfl ?_
      refine px_callV (hM) dX5_reduced_48 L_RX5_167 (mm_rcv _ _) rfl rfl (by decide) (by omega) (by omega) (Nat.le_of_ble_eq_true rfl) (fun v9 M9 hq => ?_) (fun E9 M9 hq => ?_)
      · obtain ⟨h0, f, rfl⟩ := hq
        cases h0
        have e : mm_red (mm_I s 0 c) (px_oc x) (px_tn y) (px_tn z) = mm_red s (px_oc x) (px_tn y) (px_tn z) := propext (mm_red.nq tn _ _ _)
        rw [e]
        refine pn_if_ne (tgt := 58) dX5_reduced_51 (by decide) (px_ch_z _) (fun h2 => ?_) (fun h2 => ?_)
        · have hr := Classical.not_not.mp h2
          have tn2 : mm_nq s (mm_R (mm_I s 0 c) 26 f) := tn.R (by decide) f
          have := me_reduced_i (mm_R (mm_I s 0 c) 26 f) X (ok.nq tn2) x hx (px_tn y) (px_tn z) e4 e6 (mq_reduced s X x y z) ((mm_rch.nq tn2 _ _ _).mpr hr.2.2.2.2) (fun g hg => ?_)
          · rw [← e3, ← e5] at this
            exact px_sub this rfl
          · exact ⟨_, fun _ => ⟨fun _ => hg.nq tn2, fun z => (z hr).elim⟩, _, _, rfl, rfl, hc.symm ▸ rfl, tn2.T (by decide) g, fun _ => rfl⟩
        · refine pn_ldc2d dX5_reduced_54 D_RX5_171 dz_m1 ?_
          refine px_dret dX5_reduced_57 rfl ⟨-8, fun _ => ⟨fun z => (h2 z).elim, fun _ => rfl⟩, _, _, rfl, rfl, hc.symm ▸ rfl, tn.R (by decide) f, fun _ => rfl⟩ (by omega) (by omega)
      · exact absurd hq.1 (fun z => by cases z)
    · refine pn_dconst0 dX5_reduced_42 ?_
      refine px_dret dX5_reduced_43 rfl ?_ (by omega) (by omega)
      exact ⟨0, fun z => by omega, _, _, rfl, rfl, hc.symm ▸ rfl, (mm_nq.rf s).I0 c, fun z => by omega⟩
  refine px_aload_n dX5_reduced_0 rfl trivial ?_
  refine px_iload_n dX5_reduced_1 rfl ?_
  refine pn_if_lt (tgt := 27) dX5_reduced_2 (by decide) (px_lt0 _) (fun h => ?_) (fun h => ?_)
  · refine px_iconst (v := nI 1) dX5_reduced_27 (by decide) ?_
    refine px_goto (tgt := 32) dX5_reduced_28 (by decide) ?_
    exact px_sub (tail 1 (by decide) (if_pos (fun z => by have := z.1; omega))) rfl
  · refine px_iload_n dX5_reduced_5 rfl ?_
    refine px_bipush (v := nI 8) dX5_reduced_6 (by decide) ?_
    refine pn_icmp_ge (tgt := 27) dX5_reduced_8 (by decide) (px_leN _ (by decide)) (fun h2 => ?_) (fun h2 => ?_)
    · refine px_iconst (v := nI 1) dX5_reduced_27 (by decide) ?_
      refine px_goto (tgt := 32) dX5_reduced_28 (by decide) ?_
      exact px_sub (tail 1 (by decide) (if_pos (fun z => by have := z.2; omega))) rfl
    · have hx : px_ix x 8 := ⟨by omega, by omega⟩
      refine px_aload_n dX5_reduced_11 rfl trivial ?_
      refine px_iload_n dX5_reduced_12 rfl ?_
      refine px_callVr ((me_isPin s X y h1)) dX5_reduced_13 L_RX5_99 (mm_rcv _ _) rfl rfl (by decide) (by omega) (by omega) (Nat.le_of_ble_eq_true rfl) ?_
      refine pn_if_eq (tgt := 27) dX5_reduced_16 (by decide) (px_bi_0 _) (fun h3 => ?_) (fun h3 => ?_)
      · refine px_iconst (v := nI 1) dX5_reduced_27 (by decide) ?_
        refine px_goto (tgt := 32) dX5_reduced_28 (by decide) ?_
        exact px_sub (tail 1 (by decide) (by unfold kc_reduced; rw [if_neg (fun z => z hx), if_pos h3])) rfl
      · have hy := Decidable.of_not_not h3
        refine px_aload_n dX5_reduced_19 rfl trivial ?_
        refine px_iload_n dX5_reduced_20 rfl ?_
        refine px_callVr ((me_isPin s X z h1)) dX5_reduced_21 L_RX5_99 (mm_rcv _ _) rfl rfl (by decide) (by omega) (by omega) (Nat.le_of_ble_eq_true rfl) ?_
        refine pn_if_ne (tgt := 31) dX5_reduced_24 (by decide) (px_bi_0 _) (fun h4 => ?_) (fun h4 => ?_)
        · refine px_iconst (v := nI 0) dX5_reduced_31 (by decide) ?_
          exact px_sub (tail 0 (by decide) (by unfold kc_reduced; rw [if_neg (fun z => z hx), if_neg (fun z => z hy), if_neg h4])) rfl
        · refine px_iconst (v := nI 1) dX5_reduced_27 (by decide) ?_
          refine px_goto (tgt := 32) dX5_reduced_28 (by decide) ?_
          exact px_sub (tail 1 (by decide) (by unfold kc_reduced; rw [if_neg (fun z => z hx), if_neg (fun z => z hy), if_pos h4])) rfl
end
