-- ===== PART A: goes FIRST, ahead of the names: the tables' words, and 'selects' of the private methods out of them =====
/-- a private method of a class that the tables say can be made, by its rows of tables_1 -/
def lw_okq (q : MethodName × Nat) : Prop := (q.1.cls ≠ "java/lang/invoke/MethodHandle" ∧ q.1.cls ≠ "java/lang/invoke/VarHandle") ∧ Cond.instantiable q.1.cls q.2 ∈ tables_1 ∧ Cond.privateMethod q.1 ∈ tables_1 ∧ Cond.instanceMethod q.1 ∈ tables_1
theorem lw_p0 : lw_okq (⟨"java/util/ArrayList", "fastRemove", "([Ljava/lang/Object;I)V"⟩, 3) := ⟨⟨by decide +kernel, by decide +kernel⟩, List.mem_of_getElem? (i := 38) (by decide +kernel), List.mem_of_getElem? (i := 192) (by decide +kernel), List.mem_of_getElem? (i := 193) (by decide +kernel)⟩
theorem lw_p1 : lw_okq (⟨"java/lang/Throwable", "fillInStackTrace", "(I)Ljava/lang/Throwable;"⟩, 6) := ⟨⟨by decide +kernel, by decide +kernel⟩, List.mem_of_getElem? (i := 246) (by decide +kernel), List.mem_of_getElem? (i := 244) (by decide +kernel), List.mem_of_getElem? (i := 245) (by decide +kernel)⟩
theorem lw_p2 : lw_okq (⟨"java/util/ArrayList", "add", "(Ljava/lang/Object;[Ljava/lang/Object;I)V"⟩, 3) := ⟨⟨by decide +kernel, by decide +kernel⟩, List.mem_of_getElem? (i := 38) (by decide +kernel), List.mem_of_getElem? (i := 280) (by decide +kernel), List.mem_of_getElem? (i := 281) (by decide +kernel)⟩
theorem lw_p3 : lw_okq (⟨"java/util/ArrayList", "grow", "()[Ljava/lang/Object;"⟩, 3) := ⟨⟨by decide +kernel, by decide +kernel⟩, List.mem_of_getElem? (i := 38) (by decide +kernel), List.mem_of_getElem? (i := 284) (by decide +kernel), List.mem_of_getElem? (i := 285) (by decide +kernel)⟩
theorem lw_p4 : lw_okq (⟨"java/util/ArrayList", "grow", "(I)[Ljava/lang/Object;"⟩, 3) := ⟨⟨by decide +kernel, by decide +kernel⟩, List.mem_of_getElem? (i := 38) (by decide +kernel), List.mem_of_getElem? (i := 288) (by decide +kernel), List.mem_of_getElem? (i := 289) (by decide +kernel)⟩
theorem lw_p5 : lw_okq (⟨"PathLists", "spread", "(LPathLists$Pin;I)V"⟩, 11) := ⟨⟨by decide +kernel, by decide +kernel⟩, List.mem_of_getElem? (i := 30) (by decide +kernel), List.mem_of_getElem? (i := 395) (by decide +kernel), List.mem_of_getElem? (i := 396) (by decide +kernel)⟩
theorem lw_p6 : lw_okq (⟨"PathLists", "spreadFurther", "(LPathLists$Pin;I)V"⟩, 11) := ⟨⟨by decide +kernel, by decide +kernel⟩, List.mem_of_getElem? (i := 30) (by decide +kernel), List.mem_of_getElem? (i := 400) (by decide +kernel), List.mem_of_getElem? (i := 401) (by decide +kernel)⟩
theorem lw_p7 : lw_okq (⟨"PathLists", "placeReachedLast", "()V"⟩, 11) := ⟨⟨by decide +kernel, by decide +kernel⟩, List.mem_of_getElem? (i := 30) (by decide +kernel), List.mem_of_getElem? (i := 406) (by decide +kernel), List.mem_of_getElem? (i := 407) (by decide +kernel)⟩
theorem lw_p8 : lw_okq (⟨"java/util/ArrayList", "rangeCheckForAdd", "(I)V"⟩, 3) := ⟨⟨by decide +kernel, by decide +kernel⟩, List.mem_of_getElem? (i := 38) (by decide +kernel), List.mem_of_getElem? (i := 414) (by decide +kernel), List.mem_of_getElem? (i := 415) (by decide +kernel)⟩
theorem lw_p9 : lw_okq (⟨"java/util/ArrayList", "outOfBoundsMsg", "(I)Ljava/lang/String;"⟩, 3) := ⟨⟨by decide +kernel, by decide +kernel⟩, List.mem_of_getElem? (i := 38) (by decide +kernel), List.mem_of_getElem? (i := 419) (by decide +kernel), List.mem_of_getElem? (i := 420) (by decide +kernel)⟩
theorem lw_p10 : lw_okq (⟨"PathLists", "throughRises", "()Z"⟩, 11) := ⟨⟨by decide +kernel, by decide +kernel⟩, List.mem_of_getElem? (i := 30) (by decide +kernel), List.mem_of_getElem? (i := 721) (by decide +kernel), List.mem_of_getElem? (i := 722) (by decide +kernel)⟩
theorem lw_p11 : lw_okq (⟨"PathLists", "placeOfOrder", "(I)I"⟩, 11) := ⟨⟨by decide +kernel, by decide +kernel⟩, List.mem_of_getElem? (i := 30) (by decide +kernel), List.mem_of_getElem? (i := 725) (by decide +kernel), List.mem_of_getElem? (i := 726) (by decide +kernel)⟩
theorem lw_p12 : lw_okq (⟨"PathLists", "gather", "(LPathLists$Pin;I)V"⟩, 11) := ⟨⟨by decide +kernel, by decide +kernel⟩, List.mem_of_getElem? (i := 30) (by decide +kernel), List.mem_of_getElem? (i := 729) (by decide +kernel), List.mem_of_getElem? (i := 730) (by decide +kernel)⟩
theorem lw_p13 : lw_okq (⟨"PathLists", "leavesOut", "(LPathLists$Step;)Z"⟩, 11) := ⟨⟨by decide +kernel, by decide +kernel⟩, List.mem_of_getElem? (i := 30) (by decide +kernel), List.mem_of_getElem? (i := 733) (by decide +kernel), List.mem_of_getElem? (i := 734) (by decide +kernel)⟩
theorem lw_p14 : lw_okq (⟨"PathLists", "firstOf", "(Ljava/util/ArrayList;I)LPathLists$Step;"⟩, 11) := ⟨⟨by decide +kernel, by decide +kernel⟩, List.mem_of_getElem? (i := 30) (by decide +kernel), List.mem_of_getElem? (i := 737) (by decide +kernel), List.mem_of_getElem? (i := 738) (by decide +kernel)⟩
theorem lw_p15 : lw_okq (⟨"PathLists", "hasNext", "(LPathLists$Step;I)Z"⟩, 11) := ⟨⟨by decide +kernel, by decide +kernel⟩, List.mem_of_getElem? (i := 30) (by decide +kernel), List.mem_of_getElem? (i := 741) (by decide +kernel), List.mem_of_getElem? (i := 742) (by decide +kernel)⟩
def lw_privs_1 : List (MethodName × Nat) := [(⟨"java/util/ArrayList", "fastRemove", "([Ljava/lang/Object;I)V"⟩, 3), (⟨"java/lang/Throwable", "fillInStackTrace", "(I)Ljava/lang/Throwable;"⟩, 6), (⟨"java/util/ArrayList", "add", "(Ljava/lang/Object;[Ljava/lang/Object;I)V"⟩, 3), (⟨"java/util/ArrayList", "grow", "()[Ljava/lang/Object;"⟩, 3), (⟨"java/util/ArrayList", "grow", "(I)[Ljava/lang/Object;"⟩, 3), (⟨"PathLists", "spread", "(LPathLists$Pin;I)V"⟩, 11), (⟨"PathLists", "spreadFurther", "(LPathLists$Pin;I)V"⟩, 11), (⟨"PathLists", "placeReachedLast", "()V"⟩, 11), (⟨"java/util/ArrayList", "rangeCheckForAdd", "(I)V"⟩, 3), (⟨"java/util/ArrayList", "outOfBoundsMsg", "(I)Ljava/lang/String;"⟩, 3), (⟨"PathLists", "throughRises", "()Z"⟩, 11), (⟨"PathLists", "placeOfOrder", "(I)I"⟩, 11), (⟨"PathLists", "gather", "(LPathLists$Pin;I)V"⟩, 11), (⟨"PathLists", "leavesOut", "(LPathLists$Step;)Z"⟩, 11), (⟨"PathLists", "firstOf", "(Ljava/util/ArrayList;I)LPathLists$Step;"⟩, 11), (⟨"PathLists", "hasNext", "(LPathLists$Step;I)Z"⟩, 11)]
theorem lw_r1 : ∀ q ∈ lw_privs_1, lw_okq q := List.forall_mem_cons.mpr ⟨lw_p0, List.forall_mem_cons.mpr ⟨lw_p1, List.forall_mem_cons.mpr ⟨lw_p2, List.forall_mem_cons.mpr ⟨lw_p3, List.forall_mem_cons.mpr ⟨lw_p4, List.forall_mem_cons.mpr ⟨lw_p5, List.forall_mem_cons.mpr ⟨lw_p6, List.forall_mem_cons.mpr ⟨lw_p7, List.forall_mem_cons.mpr ⟨lw_p8, List.forall_mem_cons.mpr ⟨lw_p9, List.forall_mem_cons.mpr ⟨lw_p10, List.forall_mem_cons.mpr ⟨lw_p11, List.forall_mem_cons.mpr ⟨lw_p12, List.forall_mem_cons.mpr ⟨lw_p13, List.forall_mem_cons.mpr ⟨lw_p14, List.forall_mem_cons.mpr ⟨lw_p15, fun _ h => absurd h List.not_mem_nil⟩⟩⟩⟩⟩⟩⟩⟩⟩⟩⟩⟩⟩⟩⟩⟩
theorem lw_p16 : lw_okq (⟨"PathLists", "groupOfNext", "(LPathLists$Step;)I"⟩, 11) := ⟨⟨by decide +kernel, by decide +kernel⟩, List.mem_of_getElem? (i := 30) (by decide +kernel), List.mem_of_getElem? (i := 745) (by decide +kernel), List.mem_of_getElem? (i := 746) (by decide +kernel)⟩
theorem lw_p17 : lw_okq (⟨"PathLists", "leftByNext", "(LPathLists$Step;)D"⟩, 11) := ⟨⟨by decide +kernel, by decide +kernel⟩, List.mem_of_getElem? (i := 30) (by decide +kernel), List.mem_of_getElem? (i := 749) (by decide +kernel), List.mem_of_getElem? (i := 750) (by decide +kernel)⟩
theorem lw_p18 : lw_okq (⟨"PathLists", "take", "(LPathLists$Step;LPathLists$Ways;)V"⟩, 11) := ⟨⟨by decide +kernel, by decide +kernel⟩, List.mem_of_getElem? (i := 30) (by decide +kernel), List.mem_of_getElem? (i := 753) (by decide +kernel), List.mem_of_getElem? (i := 754) (by decide +kernel)⟩
theorem lw_p19 : lw_okq (⟨"PathLists", "checkListed", "()V"⟩, 11) := ⟨⟨by decide +kernel, by decide +kernel⟩, List.mem_of_getElem? (i := 30) (by decide +kernel), List.mem_of_getElem? (i := 764) (by decide +kernel), List.mem_of_getElem? (i := 765) (by decide +kernel)⟩
theorem lw_p20 : lw_okq (⟨"PathLists", "stepOf", "(II)LPathLists$Step;"⟩, 11) := ⟨⟨by decide +kernel, by decide +kernel⟩, List.mem_of_getElem? (i := 30) (by decide +kernel), List.mem_of_getElem? (i := 776) (by decide +kernel), List.mem_of_getElem? (i := 777) (by decide +kernel)⟩
theorem lw_p21 : lw_okq (⟨"PathLists", "countReachedOutputs", "(I)I"⟩, 11) := ⟨⟨by decide +kernel, by decide +kernel⟩, List.mem_of_getElem? (i := 30) (by decide +kernel), List.mem_of_getElem? (i := 802) (by decide +kernel), List.mem_of_getElem? (i := 803) (by decide +kernel)⟩
theorem lw_p22 : lw_okq (⟨"PathListsModel", "isPin", "(I)Z"⟩, 31) := ⟨⟨by decide +kernel, by decide +kernel⟩, List.mem_of_getElem? (i := 852) (by decide +kernel), List.mem_of_getElem? (i := 965) (by decide +kernel), List.mem_of_getElem? (i := 966) (by decide +kernel)⟩
theorem lw_p23 : lw_okq (⟨"PathListsModel", "spread", "(II)V"⟩, 31) := ⟨⟨by decide +kernel, by decide +kernel⟩, List.mem_of_getElem? (i := 852) (by decide +kernel), List.mem_of_getElem? (i := 974) (by decide +kernel), List.mem_of_getElem? (i := 975) (by decide +kernel)⟩
theorem lw_p24 : lw_okq (⟨"PathListsModel", "gather", "(I)V"⟩, 31) := ⟨⟨by decide +kernel, by decide +kernel⟩, List.mem_of_getElem? (i := 852) (by decide +kernel), List.mem_of_getElem? (i := 999) (by decide +kernel), List.mem_of_getElem? (i := 1000) (by decide +kernel)⟩
theorem lw_p25 : lw_okq (⟨"PathListsModel", "arrange", "()V"⟩, 31) := ⟨⟨by decide +kernel, by decide +kernel⟩, List.mem_of_getElem? (i := 852) (by decide +kernel), List.mem_of_getElem? (i := 1003) (by decide +kernel), List.mem_of_getElem? (i := 1004) (by decide +kernel)⟩
theorem lw_p26 : lw_okq (⟨"PathListsModel", "met", "(II)I"⟩, 31) := ⟨⟨by decide +kernel, by decide +kernel⟩, List.mem_of_getElem? (i := 852) (by decide +kernel), List.mem_of_getElem? (i := 1007) (by decide +kernel), List.mem_of_getElem? (i := 1008) (by decide +kernel)⟩
theorem lw_p27 : lw_okq (⟨"PathListsModel", "come", "(IIIID)V"⟩, 31) := ⟨⟨by decide +kernel, by decide +kernel⟩, List.mem_of_getElem? (i := 852) (by decide +kernel), List.mem_of_getElem? (i := 1011) (by decide +kernel), List.mem_of_getElem? (i := 1012) (by decide +kernel)⟩
theorem lw_p28 : lw_okq (⟨"PathListsModel", "compareRows", "(II)I"⟩, 31) := ⟨⟨by decide +kernel, by decide +kernel⟩, List.mem_of_getElem? (i := 852) (by decide +kernel), List.mem_of_getElem? (i := 1015) (by decide +kernel), List.mem_of_getElem? (i := 1016) (by decide +kernel)⟩
theorem lw_p29 : lw_okq (⟨"PathListsModel", "startOf", "(I)I"⟩, 31) := ⟨⟨by decide +kernel, by decide +kernel⟩, List.mem_of_getElem? (i := 852) (by decide +kernel), List.mem_of_getElem? (i := 1019) (by decide +kernel), List.mem_of_getElem? (i := 1020) (by decide +kernel)⟩
theorem lw_p30 : lw_okq (⟨"PathListsModel", "unroll", "(IZ)I"⟩, 31) := ⟨⟨by decide +kernel, by decide +kernel⟩, List.mem_of_getElem? (i := 852) (by decide +kernel), List.mem_of_getElem? (i := 1023) (by decide +kernel), List.mem_of_getElem? (i := 1024) (by decide +kernel)⟩
theorem lw_p31 : lw_okq (⟨"PathListsModel", "enlist", "(IIII)V"⟩, 31) := ⟨⟨by decide +kernel, by decide +kernel⟩, List.mem_of_getElem? (i := 852) (by decide +kernel), List.mem_of_getElem? (i := 1027) (by decide +kernel), List.mem_of_getElem? (i := 1028) (by decide +kernel)⟩
def lw_privs_2 : List (MethodName × Nat) := [(⟨"PathLists", "groupOfNext", "(LPathLists$Step;)I"⟩, 11), (⟨"PathLists", "leftByNext", "(LPathLists$Step;)D"⟩, 11), (⟨"PathLists", "take", "(LPathLists$Step;LPathLists$Ways;)V"⟩, 11), (⟨"PathLists", "checkListed", "()V"⟩, 11), (⟨"PathLists", "stepOf", "(II)LPathLists$Step;"⟩, 11), (⟨"PathLists", "countReachedOutputs", "(I)I"⟩, 11), (⟨"PathListsModel", "isPin", "(I)Z"⟩, 31), (⟨"PathListsModel", "spread", "(II)V"⟩, 31), (⟨"PathListsModel", "gather", "(I)V"⟩, 31), (⟨"PathListsModel", "arrange", "()V"⟩, 31), (⟨"PathListsModel", "met", "(II)I"⟩, 31), (⟨"PathListsModel", "come", "(IIIID)V"⟩, 31), (⟨"PathListsModel", "compareRows", "(II)I"⟩, 31), (⟨"PathListsModel", "startOf", "(I)I"⟩, 31), (⟨"PathListsModel", "unroll", "(IZ)I"⟩, 31), (⟨"PathListsModel", "enlist", "(IIII)V"⟩, 31)]
theorem lw_r2 : ∀ q ∈ lw_privs_2, lw_okq q := List.forall_mem_cons.mpr ⟨lw_p16, List.forall_mem_cons.mpr ⟨lw_p17, List.forall_mem_cons.mpr ⟨lw_p18, List.forall_mem_cons.mpr ⟨lw_p19, List.forall_mem_cons.mpr ⟨lw_p20, List.forall_mem_cons.mpr ⟨lw_p21, List.forall_mem_cons.mpr ⟨lw_p22, List.forall_mem_cons.mpr ⟨lw_p23, List.forall_mem_cons.mpr ⟨lw_p24, List.forall_mem_cons.mpr ⟨lw_p25, List.forall_mem_cons.mpr ⟨lw_p26, List.forall_mem_cons.mpr ⟨lw_p27, List.forall_mem_cons.mpr ⟨lw_p28, List.forall_mem_cons.mpr ⟨lw_p29, List.forall_mem_cons.mpr ⟨lw_p30, List.forall_mem_cons.mpr ⟨lw_p31, fun _ h => absurd h List.not_mem_nil⟩⟩⟩⟩⟩⟩⟩⟩⟩⟩⟩⟩⟩⟩⟩⟩
theorem lw_p32 : lw_okq (⟨"PathListsModel", "isBefore", "(II)Z"⟩, 31) := ⟨⟨by decide +kernel, by decide +kernel⟩, List.mem_of_getElem? (i := 852) (by decide +kernel), List.mem_of_getElem? (i := 1031) (by decide +kernel), List.mem_of_getElem? (i := 1032) (by decide +kernel)⟩
theorem lw_p33 : lw_okq (⟨"PathListsModel", "slackOf", "(I)D"⟩, 31) := ⟨⟨by decide +kernel, by decide +kernel⟩, List.mem_of_getElem? (i := 852) (by decide +kernel), List.mem_of_getElem? (i := 1035) (by decide +kernel), List.mem_of_getElem? (i := 1036) (by decide +kernel)⟩
theorem lw_p34 : lw_okq (⟨"PathListsModel", "faultOf", "(I)I"⟩, 31) := ⟨⟨by decide +kernel, by decide +kernel⟩, List.mem_of_getElem? (i := 852) (by decide +kernel), List.mem_of_getElem? (i := 1043) (by decide +kernel), List.mem_of_getElem? (i := 1044) (by decide +kernel)⟩
theorem lw_p35 : lw_okq (⟨"PathListsModel", "isReduced", "(III)Z"⟩, 31) := ⟨⟨by decide +kernel, by decide +kernel⟩, List.mem_of_getElem? (i := 852) (by decide +kernel), List.mem_of_getElem? (i := 1059) (by decide +kernel), List.mem_of_getElem? (i := 1060) (by decide +kernel)⟩
theorem lw_p36 : lw_okq (⟨"PathListsModel", "isEdge", "(IZ)Z"⟩, 31) := ⟨⟨by decide +kernel, by decide +kernel⟩, List.mem_of_getElem? (i := 852) (by decide +kernel), List.mem_of_getElem? (i := 1063) (by decide +kernel), List.mem_of_getElem? (i := 1064) (by decide +kernel)⟩
def lw_privs_3 : List (MethodName × Nat) := [(⟨"PathListsModel", "isBefore", "(II)Z"⟩, 31), (⟨"PathListsModel", "slackOf", "(I)D"⟩, 31), (⟨"PathListsModel", "faultOf", "(I)I"⟩, 31), (⟨"PathListsModel", "isReduced", "(III)Z"⟩, 31), (⟨"PathListsModel", "isEdge", "(IZ)Z"⟩, 31)]
theorem lw_r3 : ∀ q ∈ lw_privs_3, lw_okq q := List.forall_mem_cons.mpr ⟨lw_p32, List.forall_mem_cons.mpr ⟨lw_p33, List.forall_mem_cons.mpr ⟨lw_p34, List.forall_mem_cons.mpr ⟨lw_p35, List.forall_mem_cons.mpr ⟨lw_p36, fun _ h => absurd h List.not_mem_nil⟩⟩⟩⟩⟩
def lw_privs : List (MethodName × Nat) := lw_privs_1 ++ (lw_privs_2 ++ (lw_privs_3))
def lw_tbl : List Cond := k2_sels lw_privs ++ tables_1
theorem lw_privs_ok : ∀ q ∈ lw_privs, lw_okq q := by
  show ∀ q ∈ lw_privs_1 ++ (lw_privs_2 ++ (lw_privs_3)), lw_okq q
  exact List.forall_mem_append.mpr ⟨lw_r1, List.forall_mem_append.mpr ⟨lw_r2, lw_r3⟩⟩
/-- the streams that the claim lets the run draw from -/
abbrev lw_cs : List Choice := [Jvm.Choice.named "NaN.bits"]
theorem lw_bits : nanBits ∈ lw_cs := by first | decide | exact List.mem_cons_self | simp [lw_cs, nanBits]

def RX0 : String := "PathLists$Change"
def TX0 : u_T := fun k => match k with
  | 0 => ("PathLists$Change", "arc", "LPathLists$Step;", true)
  | _ => ("PathLists$Change", "delay", "D", true)
def tyX0 : Nat → FieldType := fun k => match k with
  | 0 => .object "PathLists$Step"
  | _ => .double
abbrev wsX00 : List Cond := u_ws RX0 TX0 2
theorem nmX0 : ∀ a, a < 2 → ∀ b, b < 2 → a ≠ b → (TX0 a).2.1 ≠ (TX0 b).2.1 := by decide +kernel
theorem tyX0_ok : ∀ k, k < 2 → parseFieldDescriptor (TX0 k).2.2.1 = some (tyX0 k) := by decide +kernel
abbrev cX0_init : ByteArray := prog_2_method_1_code
def yX0_init : MethodName := ⟨RX0, "<init>", "(LPathLists$Step;D)V"⟩
def RX1 : String := "PathLists$Pin"
def TX1 : u_T := fun k => match k with
  | 0 => ("PathLists$Pin", "in", "Ljava/util/ArrayList;", true)
  | 1 => ("PathLists$Pin", "out", "Ljava/util/ArrayList;", true)
  | 2 => ("PathLists$Pin", "ways", "LPathLists$Ways;", true)
  | 3 => ("PathLists$Pin", "place", "I", false)
  | 4 => ("PathLists$Pin", "endCount", "I", false)
  | 5 => ("PathLists$Pin", "block", "I", false)
  | _ => ("PathLists$Pin", "reach", "D", false)
def tyX1 : Nat → FieldType := fun k => match k with
  | 0 => .object "java/util/ArrayList"
  | 1 => .object "java/util/ArrayList"
  | 2 => .object "PathLists$Ways"
  | 3 => .int
  | 4 => .int
  | 5 => .int
  | _ => .double
abbrev wsX10 : List Cond := u_ws RX1 TX1 7
theorem nmX1 : ∀ a, a < 7 → ∀ b, b < 7 → a ≠ b → (TX1 a).2.1 ≠ (TX1 b).2.1 := by decide +kernel
theorem tyX1_ok : ∀ k, k < 7 → parseFieldDescriptor (TX1 k).2.2.1 = some (tyX1 k) := by decide +kernel
abbrev cX1_init : ByteArray := prog_3_method_1_code
def yX1_init : MethodName := ⟨RX1, "<init>", "(II)V"⟩
def RX2 : String := "PathLists$Step"
def TX2 : u_T := fun k => match k with
  | 0 => ("PathLists$Step", "number", "I", true)
  | 1 => ("PathLists$Step", "from", "LPathLists$Pin;", true)
  | 2 => ("PathLists$Step", "to", "LPathLists$Pin;", true)
  | 3 => ("PathLists$Step", "cost", "D", false)
  | 4 => ("PathLists$Step", "group", "I", false)
  | _ => ("PathLists$Step", "next", "I", false)
def tyX2 : Nat → FieldType := fun k => match k with
  | 0 => .int
  | 1 => .object "PathLists$Pin"
  | 2 => .object "PathLists$Pin"
  | 3 => .double
  | 4 => .int
  | _ => .int
abbrev wsX20 : List Cond := u_ws RX2 TX2 6
theorem nmX2 : ∀ a, a < 6 → ∀ b, b < 6 → a ≠ b → (TX2 a).2.1 ≠ (TX2 b).2.1 := by decide +kernel
theorem tyX2_ok : ∀ k, k < 6 → parseFieldDescriptor (TX2 k).2.2.1 = some (tyX2 k) := by decide +kernel
abbrev cX2_init : ByteArray := prog_4_method_1_code
def yX2_init : MethodName := ⟨RX2, "<init>", "(ILPathLists$Pin;LPathLists$Pin;D)V"⟩
def RX3 : String := "PathLists$Ways"
def TX3 : u_T := fun k => match k with
  | 0 => ("PathLists$Ways", "left", "[D", true)
  | 1 => ("PathLists$Ways", "step", "[LPathLists$Step;", true)
  | 2 => ("PathLists$Ways", "rest", "[I", true)
  | 3 => ("PathLists$Ways", "group", "[I", true)
  | _ => ("PathLists$Ways", "size", "I", false)
def tyX3 : Nat → FieldType := fun k => match k with
  | 0 => .array .double
  | 1 => .array (.object "PathLists$Step")
  | 2 => .array .int
  | 3 => .array .int
  | _ => .int
abbrev wsX30 : List Cond := u_ws RX3 TX3 5
theorem nmX3 : ∀ a, a < 5 → ∀ b, b < 5 → a ≠ b → (TX3 a).2.1 ≠ (TX3 b).2.1 := by decide +kernel
theorem tyX3_ok : ∀ k, k < 5 → parseFieldDescriptor (TX3 k).2.2.1 = some (tyX3 k) := by decide +kernel
abbrev cX3_init : ByteArray := prog_5_method_1_code
def yX3_init : MethodName := ⟨RX3, "<init>", "(I)V"⟩
def RX4 : String := "PathLists"
def TX4 : u_T := fun k => match k with
  | 0 => ("PathLists", "pins", "Ljava/util/ArrayList;", true)
  | 1 => ("PathLists", "arcs", "Ljava/util/ArrayList;", true)
  | 2 => ("PathLists", "starts", "Ljava/util/ArrayList;", true)
  | 3 => ("PathLists", "ends", "Ljava/util/ArrayList;", true)
  | 4 => ("PathLists", "changes", "Ljava/util/ArrayList;", true)
  | 5 => ("PathLists", "sorted", "Ljava/util/ArrayList;", true)
  | 6 => ("PathLists", "throughPins", "[I", true)
  | 7 => ("PathLists", "source", "LPathLists$Pin;", true)
  | 8 => ("PathLists", "sink", "LPathLists$Pin;", true)
  | 9 => ("PathLists", "taken", "[I", true)
  | _ => ("PathLists", "isListed", "Z", false)
def tyX4 : Nat → FieldType := fun k => match k with
  | 0 => .object "java/util/ArrayList"
  | 1 => .object "java/util/ArrayList"
  | 2 => .object "java/util/ArrayList"
  | 3 => .object "java/util/ArrayList"
  | 4 => .object "java/util/ArrayList"
  | 5 => .object "java/util/ArrayList"
  | 6 => .array .int
  | 7 => .object "PathLists$Pin"
  | 8 => .object "PathLists$Pin"
  | 9 => .array .int
  | _ => .boolean
abbrev wsX40 : List Cond := u_ws RX4 TX4 11
theorem nmX4 : ∀ a, a < 11 → ∀ b, b < 11 → a ≠ b → (TX4 a).2.1 ≠ (TX4 b).2.1 := by decide +kernel
theorem tyX4_ok : ∀ k, k < 11 → parseFieldDescriptor (TX4 k).2.2.1 = some (tyX4 k) := by decide +kernel
abbrev cX4_init : ByteArray := prog_1_method_1_code
def yX4_init : MethodName := ⟨RX4, "<init>", "()V"⟩
abbrev cX4_pin : ByteArray := prog_1_method_2_code
def yX4_pin : MethodName := ⟨RX4, "pin", "()I"⟩
abbrev cX4_arc : ByteArray := prog_1_method_3_code
def yX4_arc : MethodName := ⟨RX4, "arc", "(IID)I"⟩
abbrev cX4_end : ByteArray := prog_1_method_4_code
def yX4_end : MethodName := ⟨RX4, "end", "(ID)I"⟩
abbrev cX4_start : ByteArray := prog_1_method_5_code
def yX4_start : MethodName := ⟨RX4, "start", "(ID)I"⟩
abbrev cX4_through : ByteArray := prog_1_method_6_code
def yX4_through : MethodName := ⟨RX4, "through", "(II)Z"⟩
abbrev cX4_run : ByteArray := prog_1_method_7_code
def yX4_run : MethodName := ⟨RX4, "run", "(I)I"⟩
abbrev cX4_slack : ByteArray := prog_1_method_8_code
def yX4_slack : MethodName := ⟨RX4, "slack", "(I)D"⟩
abbrev cX4_at : ByteArray := prog_1_method_9_code
def yX4_at : MethodName := ⟨RX4, "at", "(II)I"⟩
abbrev cX4_group : ByteArray := prog_1_method_10_code
def yX4_group : MethodName := ⟨RX4, "group", "(II)I"⟩
abbrev cX4_model : ByteArray := prog_1_method_11_code
def yX4_model : MethodName := ⟨RX4, "model", "(I)I"⟩
abbrev cX4_into : ByteArray := prog_1_method_12_code
def yX4_into : MethodName := ⟨RX4, "into", "(II)Z"⟩
abbrev cX4_reduced : ByteArray := prog_1_method_13_code
def yX4_reduced : MethodName := ⟨RX4, "reduced", "(III)D"⟩
abbrev cX4_budget : ByteArray := prog_1_method_14_code
def yX4_budget : MethodName := ⟨RX4, "budget", "(II)D"⟩
abbrev cX4_whatIf : ByteArray := prog_1_method_15_code
def yX4_whatIf : MethodName := ⟨RX4, "whatIf", "(ID)Z"⟩
abbrev cX4_back : ByteArray := prog_1_method_16_code
def yX4_back : MethodName := ⟨RX4, "back", "()Z"⟩
abbrev cX4_checkIndex : ByteArray := prog_1_method_17_code
def yX4_checkIndex : MethodName := ⟨RX4, "checkIndex", "(II)V"⟩
abbrev cX4_checkTime : ByteArray := prog_1_method_18_code
def yX4_checkTime : MethodName := ⟨RX4, "checkTime", "(D)V"⟩
abbrev cX4_checkListed : ByteArray := prog_1_method_19_code
def yX4_checkListed : MethodName := ⟨RX4, "checkListed", "()V"⟩
abbrev cX4_isTime : ByteArray := prog_1_method_20_code
def yX4_isTime : MethodName := ⟨RX4, "isTime", "(D)Z"⟩
abbrev cX4_isDelay : ByteArray := prog_1_method_21_code
def yX4_isDelay : MethodName := ⟨RX4, "isDelay", "(D)Z"⟩
abbrev cX4_spread : ByteArray := prog_1_method_22_code
def yX4_spread : MethodName := ⟨RX4, "spread", "(LPathLists$Pin;I)V"⟩
abbrev cX4_spreadFurther : ByteArray := prog_1_method_23_code
def yX4_spreadFurther : MethodName := ⟨RX4, "spreadFurther", "(LPathLists$Pin;I)V"⟩
abbrev cX4_placeReachedLast : ByteArray := prog_1_method_24_code
def yX4_placeReachedLast : MethodName := ⟨RX4, "placeReachedLast", "()V"⟩
abbrev cX4_throughRises : ByteArray := prog_1_method_25_code
def yX4_throughRises : MethodName := ⟨RX4, "throughRises", "()Z"⟩
abbrev cX4_placeOfOrder : ByteArray := prog_1_method_26_code
def yX4_placeOfOrder : MethodName := ⟨RX4, "placeOfOrder", "(I)I"⟩
abbrev cX4_leavesOut : ByteArray := prog_1_method_27_code
def yX4_leavesOut : MethodName := ⟨RX4, "leavesOut", "(LPathLists$Step;)Z"⟩
abbrev cX4_gather : ByteArray := prog_1_method_28_code
def yX4_gather : MethodName := ⟨RX4, "gather", "(LPathLists$Pin;I)V"⟩
abbrev cX4_firstOf : ByteArray := prog_1_method_29_code
def yX4_firstOf : MethodName := ⟨RX4, "firstOf", "(Ljava/util/ArrayList;I)LPathLists$Step;"⟩
abbrev cX4_hasNext : ByteArray := prog_1_method_30_code
def yX4_hasNext : MethodName := ⟨RX4, "hasNext", "(LPathLists$Step;I)Z"⟩
abbrev cX4_leftByNext : ByteArray := prog_1_method_31_code
def yX4_leftByNext : MethodName := ⟨RX4, "leftByNext", "(LPathLists$Step;)D"⟩
abbrev cX4_groupOfNext : ByteArray := prog_1_method_32_code
def yX4_groupOfNext : MethodName := ⟨RX4, "groupOfNext", "(LPathLists$Step;)I"⟩
abbrev cX4_take : ByteArray := prog_1_method_33_code
def yX4_take : MethodName := ⟨RX4, "take", "(LPathLists$Step;LPathLists$Ways;)V"⟩
abbrev cX4_stepOf : ByteArray := prog_1_method_34_code
def yX4_stepOf : MethodName := ⟨RX4, "stepOf", "(II)LPathLists$Step;"⟩
abbrev cX4_firstStep : ByteArray := prog_1_method_35_code
def yX4_firstStep : MethodName := ⟨RX4, "firstStep", "(LPathLists$Ways;I)LPathLists$Step;"⟩
abbrev cX4_isInput : ByteArray := prog_1_method_36_code
def yX4_isInput : MethodName := ⟨RX4, "isInput", "(LPathLists$Pin;I)Z"⟩
abbrev cX4_isOutput : ByteArray := prog_1_method_37_code
def yX4_isOutput : MethodName := ⟨RX4, "isOutput", "(LPathLists$Pin;I)Z"⟩
abbrev cX4_countReachedOutputs : ByteArray := prog_1_method_38_code
def yX4_countReachedOutputs : MethodName := ⟨RX4, "countReachedOutputs", "(I)I"⟩
def RX5 : String := "PathListsModel"
def TX5 : u_T := fun k => match k with
  | 0 => ("PathListsModel", "code", "I", false)
  | 1 => ("PathListsModel", "pins", "I", false)
  | 2 => ("PathListsModel", "blocks", "[I", true)
  | 3 => ("PathListsModel", "froms", "[I", true)
  | 4 => ("PathListsModel", "tos", "[I", true)
  | 5 => ("PathListsModel", "delays", "[D", true)
  | 6 => ("PathListsModel", "arcs", "I", false)
  | 7 => ("PathListsModel", "startPins", "[I", true)
  | 8 => ("PathListsModel", "arrivals", "[D", true)
  | 9 => ("PathListsModel", "starts", "I", false)
  | 10 => ("PathListsModel", "endPins", "[I", true)
  | 11 => ("PathListsModel", "requireds", "[D", true)
  | 12 => ("PathListsModel", "groups", "[I", true)
  | 13 => ("PathListsModel", "ends", "I", false)
  | 14 => ("PathListsModel", "throughs", "[I", true)
  | 15 => ("PathListsModel", "oldArcs", "[I", true)
  | 16 => ("PathListsModel", "oldDelays", "[D", true)
  | 17 => ("PathListsModel", "olds", "I", false)
  | 18 => ("PathListsModel", "rowBefore", "[I", true)
  | 19 => ("PathListsModel", "rowWhat", "[I", true)
  | 20 => ("PathListsModel", "rowTime", "[D", true)
  | 21 => ("PathListsModel", "rowCounts", "[I", true)
  | 22 => ("PathListsModel", "listRows", "[I", true)
  | 23 => ("PathListsModel", "listEnds", "[I", true)
  | 24 => ("PathListsModel", "listed", "I", false)
  | 25 => ("PathListsModel", "fresh", "Z", false)
  | 26 => ("PathListsModel", "reached", "[Z", true)
  | 27 => ("PathListsModel", "left", "[I", true)
  | 28 => ("PathListsModel", "right", "[I", true)
  | 29 => ("PathListsModel", "order", "[I", true)
  | _ => ("PathListsModel", "greatest", "[D", true)
def tyX5 : Nat → FieldType := fun k => match k with
  | 0 => .int
  | 1 => .int
  | 2 => .array .int
  | 3 => .array .int
  | 4 => .array .int
  | 5 => .array .double
  | 6 => .int
  | 7 => .array .int
  | 8 => .array .double
  | 9 => .int
  | 10 => .array .int
  | 11 => .array .double
  | 12 => .array .int
  | 13 => .int
  | 14 => .array .int
  | 15 => .array .int
  | 16 => .array .double
  | 17 => .int
  | 18 => .array .int
  | 19 => .array .int
  | 20 => .array .double
  | 21 => .array .int
  | 22 => .array .int
  | 23 => .array .int
  | 24 => .int
  | 25 => .boolean
  | 26 => .array .boolean
  | 27 => .array .int
  | 28 => .array .int
  | 29 => .array .int
  | _ => .array .double
abbrev wsX50 : List Cond := u_ws RX5 TX5 31
theorem nmX5 : ∀ a, a < 31 → ∀ b, b < 31 → a ≠ b → (TX5 a).2.1 ≠ (TX5 b).2.1 := by decide +kernel
theorem tyX5_ok : ∀ k, k < 31 → parseFieldDescriptor (TX5 k).2.2.1 = some (tyX5 k) := by decide +kernel
abbrev cX5_init : ByteArray := prog_7_method_1_code
def yX5_init : MethodName := ⟨RX5, "<init>", "()V"⟩
abbrev cX5_thrown : ByteArray := prog_7_method_2_code
def yX5_thrown : MethodName := ⟨RX5, "thrown", "()I"⟩
abbrev cX5_isPin : ByteArray := prog_7_method_3_code
def yX5_isPin : MethodName := ⟨RX5, "isPin", "(I)Z"⟩
abbrev cX5_isTime : ByteArray := prog_7_method_4_code
def yX5_isTime : MethodName := ⟨RX5, "isTime", "(DD)Z"⟩
abbrev cX5_pin : ByteArray := prog_7_method_5_code
def yX5_pin : MethodName := ⟨RX5, "pin", "()I"⟩
abbrev cX5_spread : ByteArray := prog_7_method_6_code
def yX5_spread : MethodName := ⟨RX5, "spread", "(II)V"⟩
abbrev cX5_arc : ByteArray := prog_7_method_7_code
def yX5_arc : MethodName := ⟨RX5, "arc", "(IID)I"⟩
abbrev cX5_end : ByteArray := prog_7_method_8_code
def yX5_end : MethodName := ⟨RX5, "end", "(ID)I"⟩
abbrev cX5_start : ByteArray := prog_7_method_9_code
def yX5_start : MethodName := ⟨RX5, "start", "(ID)I"⟩
abbrev cX5_through : ByteArray := prog_7_method_10_code
def yX5_through : MethodName := ⟨RX5, "through", "(II)Z"⟩
abbrev cX5_group : ByteArray := prog_7_method_11_code
def yX5_group : MethodName := ⟨RX5, "group", "(II)I"⟩
abbrev cX5_met : ByteArray := prog_7_method_12_code
def yX5_met : MethodName := ⟨RX5, "met", "(II)I"⟩
abbrev cX5_unroll : ByteArray := prog_7_method_13_code
def yX5_unroll : MethodName := ⟨RX5, "unroll", "(IZ)I"⟩
abbrev cX5_startOf : ByteArray := prog_7_method_14_code
def yX5_startOf : MethodName := ⟨RX5, "startOf", "(I)I"⟩
abbrev cX5_compareRows : ByteArray := prog_7_method_15_code
def yX5_compareRows : MethodName := ⟨RX5, "compareRows", "(II)I"⟩
abbrev cX5_come : ByteArray := prog_7_method_16_code
def yX5_come : MethodName := ⟨RX5, "come", "(IIIID)V"⟩
abbrev cX5_arrange : ByteArray := prog_7_method_17_code
def yX5_arrange : MethodName := ⟨RX5, "arrange", "()V"⟩
abbrev cX5_gather : ByteArray := prog_7_method_18_code
def yX5_gather : MethodName := ⟨RX5, "gather", "(I)V"⟩
abbrev cX5_slackOf : ByteArray := prog_7_method_19_code
def yX5_slackOf : MethodName := ⟨RX5, "slackOf", "(I)D"⟩
abbrev cX5_isBefore : ByteArray := prog_7_method_20_code
def yX5_isBefore : MethodName := ⟨RX5, "isBefore", "(II)Z"⟩
abbrev cX5_enlist : ByteArray := prog_7_method_21_code
def yX5_enlist : MethodName := ⟨RX5, "enlist", "(IIII)V"⟩
abbrev cX5_run : ByteArray := prog_7_method_22_code
def yX5_run : MethodName := ⟨RX5, "run", "(I)I"⟩
abbrev cX5_faultOf : ByteArray := prog_7_method_23_code
def yX5_faultOf : MethodName := ⟨RX5, "faultOf", "(I)I"⟩
abbrev cX5_slack : ByteArray := prog_7_method_24_code
def yX5_slack : MethodName := ⟨RX5, "slack", "(I)D"⟩
abbrev cX5_at : ByteArray := prog_7_method_25_code
def yX5_at : MethodName := ⟨RX5, "at", "(II)I"⟩
abbrev cX5_budget : ByteArray := prog_7_method_26_code
def yX5_budget : MethodName := ⟨RX5, "budget", "(II)D"⟩
abbrev cX5_isEdge : ByteArray := prog_7_method_27_code
def yX5_isEdge : MethodName := ⟨RX5, "isEdge", "(IZ)Z"⟩
abbrev cX5_isReduced : ByteArray := prog_7_method_28_code
def yX5_isReduced : MethodName := ⟨RX5, "isReduced", "(III)Z"⟩
abbrev cX5_model : ByteArray := prog_7_method_29_code
def yX5_model : MethodName := ⟨RX5, "model", "(I)I"⟩
abbrev cX5_reduced : ByteArray := prog_7_method_30_code
def yX5_reduced : MethodName := ⟨RX5, "reduced", "(III)D"⟩
abbrev cX5_into : ByteArray := prog_7_method_31_code
def yX5_into : MethodName := ⟨RX5, "into", "(II)Z"⟩
abbrev cX5_whatIf : ByteArray := prog_7_method_32_code
def yX5_whatIf : MethodName := ⟨RX5, "whatIf", "(ID)Z"⟩
abbrev cX5_back : ByteArray := prog_7_method_33_code
def yX5_back : MethodName := ⟨RX5, "back", "()Z"⟩
def RJ9 : String := "java/lang/Math"
def TJ9 : u_T := fun k => match k with
  | _ => ("", "", "", false)
def tyJ9 : Nat → FieldType := fun k => match k with
  | _ => .int
theorem nmJ9 : ∀ a, a < 0 → ∀ b, b < 0 → a ≠ b → (TJ9 a).2.1 ≠ (TJ9 b).2.1 := by decide +kernel
theorem tyJ9_ok : ∀ k, k < 0 → parseFieldDescriptor (TJ9 k).2.2.1 = some (tyJ9 k) := by decide +kernel
abbrev cJ9_max_7cf53 : ByteArray := prog_20_method_65_code
def yJ9_max_7cf53 : MethodName := ⟨RJ9, "max", "(II)I"⟩
abbrev cJ9_min_7cf53 : ByteArray := prog_20_method_69_code
def yJ9_min_7cf53 : MethodName := ⟨RJ9, "min", "(II)I"⟩
def RJ10 : String := "java/lang/System"
def TJ10 : u_T := fun k => match k with
  | _ => ("", "", "", false)
def tyJ10 : Nat → FieldType := fun k => match k with
  | _ => .int
theorem nmJ10 : ∀ a, a < 0 → ∀ b, b < 0 → a ≠ b → (TJ10 a).2.1 ≠ (TJ10 b).2.1 := by decide +kernel
theorem tyJ10_ok : ∀ k, k < 0 → parseFieldDescriptor (TJ10 k).2.2.1 = some (tyJ10 k) := by decide +kernel
def RJxa1e45 : String := "java/util/AbstractCollection"
def TJxa1e45 : u_T := fun k => match k with
  | _ => ("", "", "", false)
def tyJxa1e45 : Nat → FieldType := fun k => match k with
  | _ => .int
theorem nmJxa1e45 : ∀ a, a < 0 → ∀ b, b < 0 → a ≠ b → (TJxa1e45 a).2.1 ≠ (TJxa1e45 b).2.1 := by decide +kernel
theorem tyJxa1e45_ok : ∀ k, k < 0 → parseFieldDescriptor (TJxa1e45 k).2.2.1 = some (tyJxa1e45 k) := by decide +kernel
abbrev cJxa1e45_init_da8c8 : ByteArray := prog_31_method_1_code
def yJxa1e45_init_da8c8 : MethodName := ⟨RJxa1e45, "<init>", "()V"⟩
def RJxc12de : String := "java/util/AbstractList"
def TJxc12de : u_T := fun k => match k with
  | _ => ("", "", "", false)
def tyJxc12de : Nat → FieldType := fun k => match k with
  | _ => .int
theorem nmJxc12de : ∀ a, a < 0 → ∀ b, b < 0 → a ≠ b → (TJxc12de a).2.1 ≠ (TJxc12de b).2.1 := by decide +kernel
theorem tyJxc12de_ok : ∀ k, k < 0 → parseFieldDescriptor (TJxc12de k).2.2.1 = some (tyJxc12de k) := by decide +kernel
abbrev cJxc12de_init_da8c8 : ByteArray := prog_32_method_1_code
def yJxc12de_init_da8c8 : MethodName := ⟨RJxc12de, "<init>", "()V"⟩
def RJx4a65c : String := "java/util/ArrayList"
def TJx4a65c : u_T := fun k => match k with
  | 0 => ("java/util/AbstractList", "modCount", "I", false)
  | 1 => ("java/util/ArrayList", "elementData", "[Ljava/lang/Object;", false)
  | _ => ("java/util/ArrayList", "size", "I", false)
def tyJx4a65c : Nat → FieldType := fun k => match k with
  | 0 => .int
  | 1 => .array (.object "java/lang/Object")
  | _ => .int
abbrev wsJx4a65c0 : List Cond := u_ws RJx4a65c TJx4a65c 3
theorem nmJx4a65c : ∀ a, a < 3 → ∀ b, b < 3 → a ≠ b → (TJx4a65c a).2.1 ≠ (TJx4a65c b).2.1 := by decide +kernel
theorem tyJx4a65c_ok : ∀ k, k < 3 → parseFieldDescriptor (TJx4a65c k).2.2.1 = some (tyJx4a65c k) := by decide +kernel
abbrev cJx4a65c_init_da8c8 : ByteArray := prog_33_method_2_code
def yJx4a65c_init_da8c8 : MethodName := ⟨RJx4a65c, "<init>", "()V"⟩
abbrev cJx4a65c_grow_92f84 : ByteArray := prog_33_method_6_code
def yJx4a65c_grow_92f84 : MethodName := ⟨RJx4a65c, "grow", "(I)[Ljava/lang/Object;"⟩
abbrev cJx4a65c_grow_d5877 : ByteArray := prog_33_method_7_code
def yJx4a65c_grow_d5877 : MethodName := ⟨RJx4a65c, "grow", "()[Ljava/lang/Object;"⟩
abbrev cJx4a65c_size_8abf5 : ByteArray := prog_33_method_8_code
def yJx4a65c_size_8abf5 : MethodName := ⟨RJx4a65c, "size", "()I"⟩
abbrev cJx4a65c_isEmpty_aae02 : ByteArray := prog_33_method_9_code
def yJx4a65c_isEmpty_aae02 : MethodName := ⟨RJx4a65c, "isEmpty", "()Z"⟩
abbrev cJx4a65c_elementData_915e3 : ByteArray := prog_33_method_18_code
def yJx4a65c_elementData_915e3 : MethodName := ⟨RJx4a65c, "elementData", "(I)Ljava/lang/Object;"⟩
abbrev cJx4a65c_get_915e3 : ByteArray := prog_33_method_20_code
def yJx4a65c_get_915e3 : MethodName := ⟨RJx4a65c, "get", "(I)Ljava/lang/Object;"⟩
abbrev cJx4a65c_add_72be8 : ByteArray := prog_33_method_24_code
def yJx4a65c_add_72be8 : MethodName := ⟨RJx4a65c, "add", "(Ljava/lang/Object;[Ljava/lang/Object;I)V"⟩
abbrev cJx4a65c_add_9ea2d : ByteArray := prog_33_method_25_code
def yJx4a65c_add_9ea2d : MethodName := ⟨RJx4a65c, "add", "(Ljava/lang/Object;)Z"⟩
abbrev cJx4a65c_add_7a177 : ByteArray := prog_33_method_26_code
def yJx4a65c_add_7a177 : MethodName := ⟨RJx4a65c, "add", "(ILjava/lang/Object;)V"⟩
abbrev cJx4a65c_remove_915e3 : ByteArray := prog_33_method_29_code
def yJx4a65c_remove_915e3 : MethodName := ⟨RJx4a65c, "remove", "(I)Ljava/lang/Object;"⟩
abbrev cJx4a65c_fastRemove_b59b0 : ByteArray := prog_33_method_39_code
def yJx4a65c_fastRemove_b59b0 : MethodName := ⟨RJx4a65c, "fastRemove", "([Ljava/lang/Object;I)V"⟩
abbrev cJx4a65c_rangeCheckForAdd_d00df : ByteArray := prog_33_method_45_code
def yJx4a65c_rangeCheckForAdd_d00df : MethodName := ⟨RJx4a65c, "rangeCheckForAdd", "(I)V"⟩
abbrev cJx4a65c_outOfBoundsMsg_b52d3 : ByteArray := prog_33_method_46_code
def yJx4a65c_outOfBoundsMsg_b52d3 : MethodName := ⟨RJx4a65c, "outOfBoundsMsg", "(I)Ljava/lang/String;"⟩
def RJ7 : String := "java/util/Arrays"
def TJ7 : u_T := fun k => match k with
  | _ => ("", "", "", false)
def tyJ7 : Nat → FieldType := fun k => match k with
  | _ => .int
theorem nmJ7 : ∀ a, a < 0 → ∀ b, b < 0 → a ≠ b → (TJ7 a).2.1 ≠ (TJ7 b).2.1 := by decide +kernel
theorem tyJ7_ok : ∀ k, k < 0 → parseFieldDescriptor (TJ7 k).2.2.1 = some (tyJ7 k) := by decide +kernel
abbrev cJ7_fill_53178 : ByteArray := prog_34_method_103_code
def yJ7_fill_53178 : MethodName := ⟨RJ7, "fill", "([II)V"⟩
abbrev cJ7_copyOf_1904c : ByteArray := prog_34_method_119_code
def yJ7_copyOf_1904c : MethodName := ⟨RJ7, "copyOf", "([Ljava/lang/Object;I)[Ljava/lang/Object;"⟩
abbrev cJ7_copyOf_6403c : ByteArray := prog_34_method_120_code
def yJ7_copyOf_6403c : MethodName := ⟨RJ7, "copyOf", "([Ljava/lang/Object;ILjava/lang/Class;)[Ljava/lang/Object;"⟩
abbrev cJ7_copyOf_9075b : ByteArray := prog_34_method_121_code
def yJ7_copyOf_9075b : MethodName := ⟨RJ7, "copyOf", "([BI)[B"⟩
abbrev cJ7_checkLength_df160 : ByteArray := prog_34_method_131_code
def yJ7_checkLength_df160 : MethodName := ⟨RJ7, "checkLength", "(II)V"⟩
abbrev cJ7_copyOfRange_39247 : ByteArray := prog_34_method_132_code
def yJ7_copyOfRange_39247 : MethodName := ⟨RJ7, "copyOfRange", "([BII)[B"⟩
abbrev cJ7_copyOfRangeByte_39247 : ByteArray := prog_34_method_133_code
def yJ7_copyOfRangeByte_39247 : MethodName := ⟨RJ7, "copyOfRangeByte", "([BII)[B"⟩
def RJ15 : String := "java/util/Objects"
def TJ15 : u_T := fun k => match k with
  | _ => ("", "", "", false)
def tyJ15 : Nat → FieldType := fun k => match k with
  | _ => .int
theorem nmJ15 : ∀ a, a < 0 → ∀ b, b < 0 → a ≠ b → (TJ15 a).2.1 ≠ (TJ15 b).2.1 := by decide +kernel
theorem tyJ15_ok : ∀ k, k < 0 → parseFieldDescriptor (TJ15 k).2.2.1 = some (tyJ15 k) := by decide +kernel
abbrev cJ15_checkIndex_7cf53 : ByteArray := prog_37_method_17_code
def yJ15_checkIndex_7cf53 : MethodName := ⟨RJ15, "checkIndex", "(II)I"⟩
def RJ8 : String := "jdk/internal/util/ArraysSupport"
def TJ8 : u_T := fun k => match k with
  | _ => ("", "", "", false)
def tyJ8 : Nat → FieldType := fun k => match k with
  | _ => .int
theorem nmJ8 : ∀ a, a < 0 → ∀ b, b < 0 → a ≠ b → (TJ8 a).2.1 ≠ (TJ8 b).2.1 := by decide +kernel
theorem tyJ8_ok : ∀ k, k < 0 → parseFieldDescriptor (TJ8 k).2.2.1 = some (tyJ8 k) := by decide +kernel
abbrev cJ8_newLength_cabcc : ByteArray := prog_40_method_27_code
def yJ8_newLength_cabcc : MethodName := ⟨RJ8, "newLength", "(III)I"⟩
abbrev cJ8_hugeLength_7cf53 : ByteArray := prog_40_method_28_code
def yJ8_hugeLength_7cf53 : MethodName := ⟨RJ8, "hugeLength", "(II)I"⟩
def RJ3 : String := "jdk/internal/util/Preconditions"
def TJ3 : u_T := fun k => match k with
  | _ => ("", "", "", false)
def tyJ3 : Nat → FieldType := fun k => match k with
  | _ => .int
theorem nmJ3 : ∀ a, a < 0 → ∀ b, b < 0 → a ≠ b → (TJ3 a).2.1 ≠ (TJ3 b).2.1 := by decide +kernel
theorem tyJ3_ok : ∀ k, k < 0 → parseFieldDescriptor (TJ3 k).2.2.1 = some (tyJ3 k) := by decide +kernel
abbrev cJ3_checkIndex_8e157 : ByteArray := prog_41_method_11_code
def yJ3_checkIndex_8e157 : MethodName := ⟨RJ3, "checkIndex", "(IILjava/util/function/BiFunction;)I"⟩
abbrev cJ3_checkFromToIndex_8c36e : ByteArray := prog_41_method_12_code
def yJ3_checkFromToIndex_8c36e : MethodName := ⟨RJ3, "checkFromToIndex", "(IIILjava/util/function/BiFunction;)I"⟩
abbrev cJ3_checkFromIndexSize_8c36e : ByteArray := prog_41_method_13_code
def yJ3_checkFromIndexSize_8c36e : MethodName := ⟨RJ3, "checkFromIndexSize", "(IIILjava/util/function/BiFunction;)I"⟩
def RL : String := "PathListsLaw"
abbrev cL_pin : ByteArray := method_3_code
def yL_pin : MethodName := ⟨RL, "pin", "(LPathLists;[J)I"⟩
abbrev cL_arc : ByteArray := method_4_code
def yL_arc : MethodName := ⟨RL, "arc", "(LPathLists;IID[J)I"⟩
abbrev cL_end : ByteArray := method_5_code
def yL_end : MethodName := ⟨RL, "end", "(LPathLists;ID[J)I"⟩
abbrev cL_start : ByteArray := method_6_code
def yL_start : MethodName := ⟨RL, "start", "(LPathLists;ID[J)I"⟩
abbrev cL_through : ByteArray := method_7_code
def yL_through : MethodName := ⟨RL, "through", "(LPathLists;II[J)I"⟩
abbrev cL_run : ByteArray := method_8_code
def yL_run : MethodName := ⟨RL, "run", "(LPathLists;I[J)I"⟩
abbrev cL_slack : ByteArray := method_9_code
def yL_slack : MethodName := ⟨RL, "slack", "(LPathLists;I[D)I"⟩
abbrev cL_at : ByteArray := method_10_code
def yL_at : MethodName := ⟨RL, "at", "(LPathLists;II[J)I"⟩
abbrev cL_group : ByteArray := method_11_code
def yL_group : MethodName := ⟨RL, "group", "(LPathLists;II[J)I"⟩
abbrev cL_model : ByteArray := method_12_code
def yL_model : MethodName := ⟨RL, "model", "(LPathLists;I[J)I"⟩
abbrev cL_into : ByteArray := method_13_code
def yL_into : MethodName := ⟨RL, "into", "(LPathLists;II[J)I"⟩
abbrev cL_reduced : ByteArray := method_14_code
def yL_reduced : MethodName := ⟨RL, "reduced", "(LPathLists;III[D)I"⟩
abbrev cL_budget : ByteArray := method_15_code
def yL_budget : MethodName := ⟨RL, "budget", "(LPathLists;II[D)I"⟩
abbrev cL_whatIf : ByteArray := method_16_code
def yL_whatIf : MethodName := ⟨RL, "whatIf", "(LPathLists;ID[J)I"⟩
abbrev cL_law : ByteArray := code
def yL_law : MethodName := ⟨RL, "law", "([I)Z"⟩
theorem inX0 : ∀ w ∈ wsX00, w ∈ lw_tbl ∧ goodWord w = true := by decide +kernel
theorem inX1 : ∀ w ∈ wsX10, w ∈ lw_tbl ∧ goodWord w = true := by decide +kernel
theorem inX2 : ∀ w ∈ wsX20, w ∈ lw_tbl ∧ goodWord w = true := by decide +kernel
theorem inX3 : ∀ w ∈ wsX30, w ∈ lw_tbl ∧ goodWord w = true := by decide +kernel
theorem inX4 : ∀ w ∈ wsX40, w ∈ lw_tbl ∧ goodWord w = true := by decide +kernel
theorem inX5 : ∀ w ∈ wsX50, w ∈ lw_tbl ∧ goodWord w = true := by decide +kernel
theorem inJx4a65c : ∀ w ∈ wsJx4a65c0, w ∈ lw_tbl ∧ goodWord w = true := by decide +kernel
