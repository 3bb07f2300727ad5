section
-- ===== PART A: goes FIRST, ahead of the names: the tables' words, and 'selects' of the private methods out of them =====
/-- a private method of a class that the tables say can be made, by its rows of tables_1 -/
def lw_okq (q : MethodName × Nat) : Prop := (q.1.cls ≠ "java/lang/invoke/MethodHandle" ∧ q.1.cls ≠ "java/lang/invoke/VarHandle") ∧ Cond.instantiable q.1.cls q.2 ∈ tables_1 ∧ Cond.privateMethod q.1 ∈ tables_1 ∧ Cond.instanceMethod q.1 ∈ tables_1
theorem lw_p0 : lw_okq (⟨"java/lang/Throwable", "fillInStackTrace", "(I)Ljava/lang/Throwable;"⟩, 6) := ⟨⟨by decide +kernel, by decide +kernel⟩, List.mem_of_getElem? (i := 256) (by decide +kernel), List.mem_of_getElem? (i := 254) (by decide +kernel), List.mem_of_getElem? (i := 255) (by decide +kernel)⟩
theorem lw_p1 : lw_okq (⟨"StoreNotes$Heap", "filter", "()V"⟩, 13) := ⟨⟨by decide +kernel, by decide +kernel⟩, List.mem_of_getElem? (i := 28) (by decide +kernel), List.mem_of_getElem? (i := 308) (by decide +kernel), List.mem_of_getElem? (i := 309) (by decide +kernel)⟩
theorem lw_p2 : lw_okq (⟨"StoreNotes$Heap", "remember", "(I)V"⟩, 13) := ⟨⟨by decide +kernel, by decide +kernel⟩, List.mem_of_getElem? (i := 28) (by decide +kernel), List.mem_of_getElem? (i := 312) (by decide +kernel), List.mem_of_getElem? (i := 313) (by decide +kernel)⟩
theorem lw_p3 : lw_okq (⟨"StoreNotes$Heap", "putRowsAside", "()V"⟩, 13) := ⟨⟨by decide +kernel, by decide +kernel⟩, List.mem_of_getElem? (i := 28) (by decide +kernel), List.mem_of_getElem? (i := 332) (by decide +kernel), List.mem_of_getElem? (i := 333) (by decide +kernel)⟩
theorem lw_p4 : lw_okq (⟨"StoreNotes$Heap", "bringAll", "(LStoreNotes$Row;)V"⟩, 13) := ⟨⟨by decide +kernel, by decide +kernel⟩, List.mem_of_getElem? (i := 28) (by decide +kernel), List.mem_of_getElem? (i := 336) (by decide +kernel), List.mem_of_getElem? (i := 337) (by decide +kernel)⟩
theorem lw_p5 : lw_okq (⟨"StoreNotes$Heap", "brought", "(I)I"⟩, 13) := ⟨⟨by decide +kernel, by decide +kernel⟩, List.mem_of_getElem? (i := 28) (by decide +kernel), List.mem_of_getElem? (i := 340) (by decide +kernel), List.mem_of_getElem? (i := 341) (by decide +kernel)⟩
theorem lw_p6 : lw_okq (⟨"StoreNotes$Heap", "bringRemembered", "(LStoreNotes$Row;I)V"⟩, 13) := ⟨⟨by decide +kernel, by decide +kernel⟩, List.mem_of_getElem? (i := 28) (by decide +kernel), List.mem_of_getElem? (i := 364) (by decide +kernel), List.mem_of_getElem? (i := 365) (by decide +kernel)⟩
theorem lw_p7 : lw_okq (⟨"StoreNotes$Heap", "scan", "()V"⟩, 13) := ⟨⟨by decide +kernel, by decide +kernel⟩, List.mem_of_getElem? (i := 28) (by decide +kernel), List.mem_of_getElem? (i := 368) (by decide +kernel), List.mem_of_getElem? (i := 369) (by decide +kernel)⟩
theorem lw_p8 : lw_okq (⟨"StoreNotes$Heap", "leastUnscanned", "()LStoreNotes$Generation;"⟩, 13) := ⟨⟨by decide +kernel, by decide +kernel⟩, List.mem_of_getElem? (i := 28) (by decide +kernel), List.mem_of_getElem? (i := 372) (by decide +kernel), List.mem_of_getElem? (i := 373) (by decide +kernel)⟩
theorem lw_p9 : lw_okq (⟨"StoreNotes$Heap", "grantWishes", "()V"⟩, 13) := ⟨⟨by decide +kernel, by decide +kernel⟩, List.mem_of_getElem? (i := 28) (by decide +kernel), List.mem_of_getElem? (i := 376) (by decide +kernel), List.mem_of_getElem? (i := 377) (by decide +kernel)⟩
theorem lw_p10 : lw_okq (⟨"StoreNotes$Heap", "clearWeakPlaces", "()V"⟩, 13) := ⟨⟨by decide +kernel, by decide +kernel⟩, List.mem_of_getElem? (i := 28) (by decide +kernel), List.mem_of_getElem? (i := 380) (by decide +kernel), List.mem_of_getElem? (i := 381) (by decide +kernel)⟩
theorem lw_p11 : lw_okq (⟨"StoreNotes", "objectOf", "(I)I"⟩, 2) := ⟨⟨by decide +kernel, by decide +kernel⟩, List.mem_of_getElem? (i := 20) (by decide +kernel), List.mem_of_getElem? (i := 414) (by decide +kernel), List.mem_of_getElem? (i := 415) (by decide +kernel)⟩
theorem lw_p12 : lw_okq (⟨"StoreNotes", "lookAtField", "(II)V"⟩, 2) := ⟨⟨by decide +kernel, by decide +kernel⟩, List.mem_of_getElem? (i := 20) (by decide +kernel), List.mem_of_getElem? (i := 433) (by decide +kernel), List.mem_of_getElem? (i := 434) (by decide +kernel)⟩
theorem lw_p13 : lw_okq (⟨"StoreNotes$Machine", "isWrong", "()Z"⟩, 6) := ⟨⟨by decide +kernel, by decide +kernel⟩, List.mem_of_getElem? (i := 160) (by decide +kernel), List.mem_of_getElem? (i := 593) (by decide +kernel), List.mem_of_getElem? (i := 594) (by decide +kernel)⟩
theorem lw_p14 : lw_okq (⟨"StoreNotes$Machine", "isAsTold", "(CI)Z"⟩, 6) := ⟨⟨by decide +kernel, by decide +kernel⟩, List.mem_of_getElem? (i := 160) (by decide +kernel), List.mem_of_getElem? (i := 638) (by decide +kernel), List.mem_of_getElem? (i := 639) (by decide +kernel)⟩
theorem lw_p15 : lw_okq (⟨"StoreNotes$Machine", "endOfObject", "(II)I"⟩, 6) := ⟨⟨by decide +kernel, by decide +kernel⟩, List.mem_of_getElem? (i := 160) (by decide +kernel), List.mem_of_getElem? (i := 643) (by decide +kernel), List.mem_of_getElem? (i := 644) (by decide +kernel)⟩
def lw_privs_1 : List (MethodName × Nat) := [(⟨"java/lang/Throwable", "fillInStackTrace", "(I)Ljava/lang/Throwable;"⟩, 6), (⟨"StoreNotes$Heap", "filter", "()V"⟩, 13), (⟨"StoreNotes$Heap", "remember", "(I)V"⟩, 13), (⟨"StoreNotes$Heap", "putRowsAside", "()V"⟩, 13), (⟨"StoreNotes$Heap", "bringAll", "(LStoreNotes$Row;)V"⟩, 13), (⟨"StoreNotes$Heap", "brought", "(I)I"⟩, 13), (⟨"StoreNotes$Heap", "bringRemembered", "(LStoreNotes$Row;I)V"⟩, 13), (⟨"StoreNotes$Heap", "scan", "()V"⟩, 13), (⟨"StoreNotes$Heap", "leastUnscanned", "()LStoreNotes$Generation;"⟩, 13), (⟨"StoreNotes$Heap", "grantWishes", "()V"⟩, 13), (⟨"StoreNotes$Heap", "clearWeakPlaces", "()V"⟩, 13), (⟨"StoreNotes", "objectOf", "(I)I"⟩, 2), (⟨"StoreNotes", "lookAtField", "(II)V"⟩, 2), (⟨"StoreNotes$Machine", "isWrong", "()Z"⟩, 6), (⟨"StoreNotes$Machine", "isAsTold", "(CI)Z"⟩, 6), (⟨"StoreNotes$Machine", "endOfObject", "(II)I"⟩, 6)]
theorem lw_r1 : ∀ q ∈ lw_privs_1, lw_okq q := List.forall_mem_cons.mpr ⟨lw_p0, List.forall_mem_cons.mpr ⟨lw_p1, List.forall_mem_cons.mpr ⟨lw_p2, List.forall_mem_cons.mpr ⟨lw_p3, List.forall_mem_cons.mpr ⟨lw_p4, List.forall_mem_cons.mpr ⟨lw_p5, List.forall_mem_cons.mpr ⟨lw_p6, List.forall_mem_cons.mpr ⟨lw_p7, List.forall_mem_cons.mpr ⟨lw_p8, List.forall_mem_cons.mpr ⟨lw_p9, List.forall_mem_cons.mpr ⟨lw_p10, List.forall_mem_cons.mpr ⟨lw_p11, List.forall_mem_cons.mpr ⟨lw_p12, List.forall_mem_cons.mpr ⟨lw_p13, List.forall_mem_cons.mpr ⟨lw_p14, List.forall_mem_cons.mpr ⟨lw_p15, fun _ h => absurd h List.not_mem_nil⟩⟩⟩⟩⟩⟩⟩⟩⟩⟩⟩⟩⟩⟩⟩⟩
theorem lw_p16 : lw_okq (⟨"StoreNotes$Machine", "change", "(IIII)V"⟩, 6) := ⟨⟨by decide +kernel, by decide +kernel⟩, List.mem_of_getElem? (i := 160) (by decide +kernel), List.mem_of_getElem? (i := 654) (by decide +kernel), List.mem_of_getElem? (i := 655) (by decide +kernel)⟩
theorem lw_p17 : lw_okq (⟨"StoreNotes$Machine", "goesOnAt", "(IIII)I"⟩, 6) := ⟨⟨by decide +kernel, by decide +kernel⟩, List.mem_of_getElem? (i := 160) (by decide +kernel), List.mem_of_getElem? (i := 664) (by decide +kernel), List.mem_of_getElem? (i := 665) (by decide +kernel)⟩
theorem lw_p18 : lw_okq (⟨"StoreNotesModel", "object", "(IIZ)I"⟩, 37) := ⟨⟨by decide +kernel, by decide +kernel⟩, List.mem_of_getElem? (i := 681) (by decide +kernel), List.mem_of_getElem? (i := 816) (by decide +kernel), List.mem_of_getElem? (i := 817) (by decide +kernel)⟩
theorem lw_p19 : lw_okq (⟨"StoreNotesModel", "size", "(I)I"⟩, 37) := ⟨⟨by decide +kernel, by decide +kernel⟩, List.mem_of_getElem? (i := 681) (by decide +kernel), List.mem_of_getElem? (i := 820) (by decide +kernel), List.mem_of_getElem? (i := 821) (by decide +kernel)⟩
theorem lw_p20 : lw_okq (⟨"StoreNotesModel", "gather", "(I)I"⟩, 37) := ⟨⟨by decide +kernel, by decide +kernel⟩, List.mem_of_getElem? (i := 681) (by decide +kernel), List.mem_of_getElem? (i := 824) (by decide +kernel), List.mem_of_getElem? (i := 825) (by decide +kernel)⟩
theorem lw_p21 : lw_okq (⟨"StoreNotesModel", "filter", "()V"⟩, 37) := ⟨⟨by decide +kernel, by decide +kernel⟩, List.mem_of_getElem? (i := 681) (by decide +kernel), List.mem_of_getElem? (i := 828) (by decide +kernel), List.mem_of_getElem? (i := 829) (by decide +kernel)⟩
theorem lw_p22 : lw_okq (⟨"StoreNotesModel", "rememberIf", "(I)V"⟩, 37) := ⟨⟨by decide +kernel, by decide +kernel⟩, List.mem_of_getElem? (i := 681) (by decide +kernel), List.mem_of_getElem? (i := 832) (by decide +kernel), List.mem_of_getElem? (i := 833) (by decide +kernel)⟩
theorem lw_p23 : lw_okq (⟨"StoreNotesModel", "generation", "(I)I"⟩, 37) := ⟨⟨by decide +kernel, by decide +kernel⟩, List.mem_of_getElem? (i := 681) (by decide +kernel), List.mem_of_getElem? (i := 836) (by decide +kernel), List.mem_of_getElem? (i := 837) (by decide +kernel)⟩
theorem lw_p24 : lw_okq (⟨"StoreNotesModel", "remember", "(II)V"⟩, 37) := ⟨⟨by decide +kernel, by decide +kernel⟩, List.mem_of_getElem? (i := 681) (by decide +kernel), List.mem_of_getElem? (i := 840) (by decide +kernel), List.mem_of_getElem? (i := 841) (by decide +kernel)⟩
theorem lw_p25 : lw_okq (⟨"StoreNotesModel", "begin", "(II)I"⟩, 37) := ⟨⟨by decide +kernel, by decide +kernel⟩, List.mem_of_getElem? (i := 681) (by decide +kernel), List.mem_of_getElem? (i := 844) (by decide +kernel), List.mem_of_getElem? (i := 845) (by decide +kernel)⟩
theorem lw_p26 : lw_okq (⟨"StoreNotesModel", "bring", "(I)I"⟩, 37) := ⟨⟨by decide +kernel, by decide +kernel⟩, List.mem_of_getElem? (i := 681) (by decide +kernel), List.mem_of_getElem? (i := 848) (by decide +kernel), List.mem_of_getElem? (i := 849) (by decide +kernel)⟩
theorem lw_p27 : lw_okq (⟨"StoreNotesModel", "isFrom", "(I)Z"⟩, 37) := ⟨⟨by decide +kernel, by decide +kernel⟩, List.mem_of_getElem? (i := 681) (by decide +kernel), List.mem_of_getElem? (i := 852) (by decide +kernel), List.mem_of_getElem? (i := 853) (by decide +kernel)⟩
theorem lw_p28 : lw_okq (⟨"StoreNotesModel", "copy", "(I)I"⟩, 37) := ⟨⟨by decide +kernel, by decide +kernel⟩, List.mem_of_getElem? (i := 681) (by decide +kernel), List.mem_of_getElem? (i := 856) (by decide +kernel), List.mem_of_getElem? (i := 857) (by decide +kernel)⟩
theorem lw_p29 : lw_okq (⟨"StoreNotesModel", "fields", "(I)I"⟩, 37) := ⟨⟨by decide +kernel, by decide +kernel⟩, List.mem_of_getElem? (i := 681) (by decide +kernel), List.mem_of_getElem? (i := 860) (by decide +kernel), List.mem_of_getElem? (i := 861) (by decide +kernel)⟩
theorem lw_p30 : lw_okq (⟨"StoreNotesModel", "age", "(I)I"⟩, 37) := ⟨⟨by decide +kernel, by decide +kernel⟩, List.mem_of_getElem? (i := 681) (by decide +kernel), List.mem_of_getElem? (i := 864) (by decide +kernel), List.mem_of_getElem? (i := 865) (by decide +kernel)⟩
theorem lw_p31 : lw_okq (⟨"StoreNotesModel", "fits", "(II)Z"⟩, 37) := ⟨⟨by decide +kernel, by decide +kernel⟩, List.mem_of_getElem? (i := 681) (by decide +kernel), List.mem_of_getElem? (i := 868) (by decide +kernel), List.mem_of_getElem? (i := 869) (by decide +kernel)⟩
def lw_privs_2 : List (MethodName × Nat) := [(⟨"StoreNotes$Machine", "change", "(IIII)V"⟩, 6), (⟨"StoreNotes$Machine", "goesOnAt", "(IIII)I"⟩, 6), (⟨"StoreNotesModel", "object", "(IIZ)I"⟩, 37), (⟨"StoreNotesModel", "size", "(I)I"⟩, 37), (⟨"StoreNotesModel", "gather", "(I)I"⟩, 37), (⟨"StoreNotesModel", "filter", "()V"⟩, 37), (⟨"StoreNotesModel", "rememberIf", "(I)V"⟩, 37), (⟨"StoreNotesModel", "generation", "(I)I"⟩, 37), (⟨"StoreNotesModel", "remember", "(II)V"⟩, 37), (⟨"StoreNotesModel", "begin", "(II)I"⟩, 37), (⟨"StoreNotesModel", "bring", "(I)I"⟩, 37), (⟨"StoreNotesModel", "isFrom", "(I)Z"⟩, 37), (⟨"StoreNotesModel", "copy", "(I)I"⟩, 37), (⟨"StoreNotesModel", "fields", "(I)I"⟩, 37), (⟨"StoreNotesModel", "age", "(I)I"⟩, 37), (⟨"StoreNotesModel", "fits", "(II)Z"⟩, 37)]
theorem lw_r2 : ∀ q ∈ lw_privs_2, lw_okq q := List.forall_mem_cons.mpr ⟨lw_p16, List.forall_mem_cons.mpr ⟨lw_p17, List.forall_mem_cons.mpr ⟨lw_p18, List.forall_mem_cons.mpr ⟨lw_p19, List.forall_mem_cons.mpr ⟨lw_p20, List.forall_mem_cons.mpr ⟨lw_p21, List.forall_mem_cons.mpr ⟨lw_p22, List.forall_mem_cons.mpr ⟨lw_p23, List.forall_mem_cons.mpr ⟨lw_p24, List.forall_mem_cons.mpr ⟨lw_p25, List.forall_mem_cons.mpr ⟨lw_p26, List.forall_mem_cons.mpr ⟨lw_p27, List.forall_mem_cons.mpr ⟨lw_p28, List.forall_mem_cons.mpr ⟨lw_p29, List.forall_mem_cons.mpr ⟨lw_p30, List.forall_mem_cons.mpr ⟨lw_p31, fun _ h => absurd h List.not_mem_nil⟩⟩⟩⟩⟩⟩⟩⟩⟩⟩⟩⟩⟩⟩⟩⟩
theorem lw_p32 : lw_okq (⟨"StoreNotesModel", "bringRows", "(I)V"⟩, 37) := ⟨⟨by decide +kernel, by decide +kernel⟩, List.mem_of_getElem? (i := 681) (by decide +kernel), List.mem_of_getElem? (i := 872) (by decide +kernel), List.mem_of_getElem? (i := 873) (by decide +kernel)⟩
theorem lw_p33 : lw_okq (⟨"StoreNotesModel", "scan", "()V"⟩, 37) := ⟨⟨by decide +kernel, by decide +kernel⟩, List.mem_of_getElem? (i := 681) (by decide +kernel), List.mem_of_getElem? (i := 876) (by decide +kernel), List.mem_of_getElem? (i := 877) (by decide +kernel)⟩
theorem lw_p34 : lw_okq (⟨"StoreNotesModel", "grantWishes", "()V"⟩, 37) := ⟨⟨by decide +kernel, by decide +kernel⟩, List.mem_of_getElem? (i := 681) (by decide +kernel), List.mem_of_getElem? (i := 880) (by decide +kernel), List.mem_of_getElem? (i := 881) (by decide +kernel)⟩
theorem lw_p35 : lw_okq (⟨"StoreNotesModel", "store", "(II)V"⟩, 37) := ⟨⟨by decide +kernel, by decide +kernel⟩, List.mem_of_getElem? (i := 681) (by decide +kernel), List.mem_of_getElem? (i := 888) (by decide +kernel), List.mem_of_getElem? (i := 889) (by decide +kernel)⟩
theorem lw_p36 : lw_okq (⟨"StoreNotesModel", "hasField", "(II)Z"⟩, 37) := ⟨⟨by decide +kernel, by decide +kernel⟩, List.mem_of_getElem? (i := 681) (by decide +kernel), List.mem_of_getElem? (i := 896) (by decide +kernel), List.mem_of_getElem? (i := 897) (by decide +kernel)⟩
theorem lw_p37 : lw_okq (⟨"StoreNotesModel", "isKeen", "(I)Z"⟩, 37) := ⟨⟨by decide +kernel, by decide +kernel⟩, List.mem_of_getElem? (i := 681) (by decide +kernel), List.mem_of_getElem? (i := 940) (by decide +kernel), List.mem_of_getElem? (i := 941) (by decide +kernel)⟩
theorem lw_p38 : lw_okq (⟨"StoreNotesModel", "sizeOf", "(I)I"⟩, 37) := ⟨⟨by decide +kernel, by decide +kernel⟩, List.mem_of_getElem? (i := 681) (by decide +kernel), List.mem_of_getElem? (i := 952) (by decide +kernel), List.mem_of_getElem? (i := 953) (by decide +kernel)⟩
theorem lw_p39 : lw_okq (⟨"StoreNotesModel", "isPlace", "(I)Z"⟩, 37) := ⟨⟨by decide +kernel, by decide +kernel⟩, List.mem_of_getElem? (i := 681) (by decide +kernel), List.mem_of_getElem? (i := 968) (by decide +kernel), List.mem_of_getElem? (i := 969) (by decide +kernel)⟩
theorem lw_p40 : lw_okq (⟨"StoreNotesModel", "isRight", "(IIII)Z"⟩, 37) := ⟨⟨by decide +kernel, by decide +kernel⟩, List.mem_of_getElem? (i := 681) (by decide +kernel), List.mem_of_getElem? (i := 972) (by decide +kernel), List.mem_of_getElem? (i := 973) (by decide +kernel)⟩
theorem lw_p41 : lw_okq (⟨"StoreNotesModel", "hindered", "(IIII)I"⟩, 37) := ⟨⟨by decide +kernel, by decide +kernel⟩, List.mem_of_getElem? (i := 681) (by decide +kernel), List.mem_of_getElem? (i := 982) (by decide +kernel), List.mem_of_getElem? (i := 983) (by decide +kernel)⟩
theorem lw_p42 : lw_okq (⟨"StoreNotesModel", "does", "(IIIII)I"⟩, 37) := ⟨⟨by decide +kernel, by decide +kernel⟩, List.mem_of_getElem? (i := 681) (by decide +kernel), List.mem_of_getElem? (i := 986) (by decide +kernel), List.mem_of_getElem? (i := 987) (by decide +kernel)⟩
def lw_privs_3 : List (MethodName × Nat) := [(⟨"StoreNotesModel", "bringRows", "(I)V"⟩, 37), (⟨"StoreNotesModel", "scan", "()V"⟩, 37), (⟨"StoreNotesModel", "grantWishes", "()V"⟩, 37), (⟨"StoreNotesModel", "store", "(II)V"⟩, 37), (⟨"StoreNotesModel", "hasField", "(II)Z"⟩, 37), (⟨"StoreNotesModel", "isKeen", "(I)Z"⟩, 37), (⟨"StoreNotesModel", "sizeOf", "(I)I"⟩, 37), (⟨"StoreNotesModel", "isPlace", "(I)Z"⟩, 37), (⟨"StoreNotesModel", "isRight", "(IIII)Z"⟩, 37), (⟨"StoreNotesModel", "hindered", "(IIII)I"⟩, 37), (⟨"StoreNotesModel", "does", "(IIIII)I"⟩, 37)]
theorem lw_r3 : ∀ q ∈ lw_privs_3, lw_okq q := List.forall_mem_cons.mpr ⟨lw_p32, List.forall_mem_cons.mpr ⟨lw_p33, List.forall_mem_cons.mpr ⟨lw_p34, List.forall_mem_cons.mpr ⟨lw_p35, List.forall_mem_cons.mpr ⟨lw_p36, List.forall_mem_cons.mpr ⟨lw_p37, List.forall_mem_cons.mpr ⟨lw_p38, List.forall_mem_cons.mpr ⟨lw_p39, List.forall_mem_cons.mpr ⟨lw_p40, List.forall_mem_cons.mpr ⟨lw_p41, List.forall_mem_cons.mpr ⟨lw_p42, fun _ h => absurd h List.not_mem_nil⟩⟩⟩⟩⟩⟩⟩⟩⟩⟩⟩
def lw_privs : List (MethodName × Nat) := lw_privs_1 ++ (lw_privs_2 ++ (lw_privs_3))
def lw_tbl : List Cond := k2_sels lw_privs ++ tables_1
theorem lw_privs_ok : ∀ q ∈ lw_privs, lw_okq q := by
  show ∀ q ∈ lw_privs_1 ++ (lw_privs_2 ++ (lw_privs_3)), lw_okq q
  exact List.forall_mem_append.mpr ⟨lw_r1, List.forall_mem_append.mpr ⟨lw_r2, lw_r3⟩⟩
/-! ===== BEGIN words of one list among another's, by their places ===== -/
theorem goodIn_r {big : List Cond} (ws : List Cond) (ps : List Nat) (hp : ws = ps.filterMap (fun i => big[i]?)) (h : ws.all goodWord = true) : GoodIn big ws := by
  intro w hw
  have h1 := List.all_eq_true.mp h w hw
  rw [hp] at hw
  obtain ⟨i, -, hi⟩ := List.mem_filterMap.mp hw
  have hm : w ∈ big := by first | exact List.mem_of_getElem? hi | exact List.getElem?_mem hi
  exact ⟨hm, good_of_word h1⟩
theorem goodIn_app {big a b : List Cond} (ha : GoodIn big a) (hb : GoodIn big b) : GoodIn big (a ++ b) := fun w h => (List.mem_append.mp h).elim (ha w) (hb w)
theorem goodIn_ca {big a b : List Cond} {c : Cond} (ha : GoodIn big (c :: a)) (hb : GoodIn big b) : GoodIn big (c :: (a ++ b)) := fun w h => (List.mem_cons.mp h).elim (fun e => ha w (List.mem_cons.mpr (Or.inl e))) (fun h => (List.mem_append.mp h).elim (fun h => ha w (List.mem_cons.mpr (Or.inr h))) (hb w))
theorem goodIn_sub {big ws : List Cond} (hm : ∀ w ∈ ws, w ∈ big) (h : ws.all goodWord = true) : GoodIn big ws := fun w hw => ⟨hm w hw, good_of_word (List.all_eq_true.mp h w hw)⟩
/-! ===== END ===== -/

/-! ===== BEGIN exceptions that leave a method, and their catching by the caller (launches without stack traces) ===== -/
section VXA
/-! The laws vx_back, vx_callV, vx_callS, vx_callSW, vx_throw0, vx_throwS follow proofs of the library, with one case more: JvmDerived/Free/Laws.lean (Back.of_free), Shelf42/LK1.lean (callV, callS), Shelf/KitTraced.lean (throwNew0V, throwNewS). -/
/-- where a method has thrown q: the class by its name, the cell, what was written, the world -/
def vx_T (XC : String → State → State → Prop) (st : State) (q : Addr) (t : State) (mc ms : Nat) (free : Addr → Prop) : Prop :=
  ∃ (E : String) (ce : Cell) (L : List Loc), XC E st t ∧ t.heap[q]? = some ce ∧ ce.vm = .none ∧ st.vm.findClass E = some ce.cls ∧ st.WarmedH t.vm ∧ st.sameButNew ({ t with vm := st.vm } : State) L mc ms ∧ ∀ z ∈ L, free z.base
def vx_Q (Qc : Array Value → State → Outcome → State → Prop) (XC : String → State → State → Prop) (mc ms : Nat) (free : Addr → Prop) : Array Value → State → Outcome → State → Prop := fun a st o t =>
  (Qc a st o t ∧ ∃ L, FrameEnd st o t L mc ms ∧ ∀ q ∈ L, free q.base) ∨ ∃ q, o = .threw q ∧ vx_T XC st q t mc ms free
/-- a callee that returns or throws -/
def vx_Met (l : Launch) (y : MethodName) (ws : List Cond) (rm : Room) (Pc : Array Value → State → Prop) (Qc : Array Value → State → Outcome → State → Prop) (XC : String → State → State → Prop) (mc ms : Nat) (free : Addr → Prop) : Prop :=
  MetFree l y (headSpec ws rm) Pc (fun _ _ _ _ _ => True) (vx_Q Qc XC mc ms free)
def vx_Post (XC : String → State → State → Prop) (mc ms : Nat) (free : Addr → Prop) : Pt → Array Value → Addr → Pt → Prop := fun A a q B =>
  ∃ (g : JFrame) (mk : MethodId) (t : State) (L : List Loc) (E : String) (ce : Cell), B.U.heap = t.heap ∧ B.U.vm = t.vm ∧ XC E (A.U.calling g mk a) t ∧ t.heap[q]? = some ce ∧ ce.vm = .none ∧ A.U.vm.findClass E = some ce.cls ∧ B.locs = A.locs ++ L ∧ (∀ z ∈ L, free z.base) ∧ B.cells = A.cells + mc ∧ B.slots = A.slots + ms
def vx_Back (l : Launch) (R : Room) (p : Program) (e : Env) (below : List Frame) (s : State) (sargs : Array Value) (y : MethodName) (len W9 : Nat)
    (Pre : Pt → Array Value → Prop) (Post : Pt → Array Value → Option Value → Pt → Prop) (PostX : Pt → Array Value → Addr → Pt → Prop) : Prop :=
  ∀ (m : MethodId) (meth : Method) (c : Code) (A : Pt) (g : JFrame) (ig : Instr) (mk : MethodId) (a : Array Value),
    Stand p l e R s m sargs below meth c A.U A.locs A.cells A.slots → g.method = m → g.locals.size = c.maxLocals → decode c.code g.pc = .ok (ig, len) →
    2 * g.monitorRoom + (g.stack.map fun v => v.category).sum ≤ W9 → A.U.methodNamed? y = some mk → Pre A a →
    (∃ (v : Option Value) (B : Pt), Stand p l e R s m sargs below meth c B.U B.locs B.cells B.slots ∧ Post A a v B ∧
      Steps p.tables e below (doInvoke e (A.U.setTop g) [] mk a).1 (B.U.setTop { g with pc := g.pc + len, stack := v.toList ++ g.stack })) ∨
    (∃ (q : Addr) (B : Pt), Stand p l e R s m sargs below meth c B.U B.locs B.cells B.slots ∧ PostX A a q B ∧
      Steps p.tables e below (doInvoke e (A.U.setTop g) [] mk a).1 ((B.U.setTop g).pushFrame (.throwing q)))
section Payer
variable {l : Launch} {R : Room} {p : Program} {e : Env} {below : List Frame} {s : State} {sargs : Array Value} {y : MethodName} {len W9 : Nat}
theorem vx_back {ws : List Cond} {rm : Room} {Pc : Array Value → State → Prop} {Qc : Array Value → State → Outcome → State → Prop} {XC : String → State → State → Prop} {mc ms : Nat} {free : Addr → Prop} {bytes : ByteArray} {maxL : Nat} {ret : Option FieldType}
    (hM : vx_Met l y ws rm Pc Qc XC mc ms free) (hblind : FrameBlind Pc) (hrc : rm.cells = mc) (hrs : rm.slots = ms)
    (hframes : rm.frames + 1 ≤ R.frames) (hlocals : W9 + (maxL + 11) + rm.locals ≤ R.locals)
    (hws : ∀ w ∈ ws, ∀ a' U, s.WarmedH U.vm → w.before a' U = true) (hcode : Cond.code y bytes maxL ret ∈ ws) (hinit : ∀ a' U, s.WarmedH U.vm → (Cond.initialized y.cls).before a' U = true) :
    vx_Back l R p e below s sargs y len W9 (PreOf R mc ms Pc) (PostOf Qc mc ms free) (vx_Post XC mc ms free) := by
  intro m meth c A g ig mk a X hg hsize hdg hW hn hp
  have h1 : (headSpec ws rm).pre.before a A.U = true := atoms_intro fun w hw => hws w hw _ _ X.warmed
  have h2 : (Cond.code y bytes maxL ret).before a A.U = true := hws _ hcode _ _ X.warmed
  have h3 : (Cond.initialized y.cls).before a A.U = true := hinit _ _ X.warmed
  have h4 : A.cells + (headSpec ws rm).room.cells ≤ R.cells := by rw [show (headSpec ws rm).room.cells = mc from hrc]; exact hp.1
  have h5 : A.slots + (headSpec ws rm).room.slots ≤ R.slots := by rw [show (headSpec ws rm).room.slots = ms from hrs]; exact hp.2.1
  have hPc : Pc a (A.U.calling g mk a) := hblind _ _ _ _ hp.2.2
  obtain ⟨U, Ls, c0, s0⟩ := A
  dsimp only [Pt.U, Pt.locs, Pt.cells, Pt.slots] at h1 h2 h3 h4 h5 X hn hPc ⊢
  obtain ⟨methY, cY, hmY, hcY, -, hlY, -, -, -, -⟩ := Cond.code_spec hn h2
  obtain ⟨kY, hkY, -⟩ := className_of_methodNamed hn
  have hinitY : kY.init = .initialized := Cond.initialized_spec (findClass_of_methodNamed hn) hkY h3
  have h : At U g.method c below := by rw [hg]; exact X.here
  have hlocals9 : W9 + (maxL + 11) + (headSpec ws rm).room.locals ≤ R.locals := hlocals
  have happ : (headSpec ws rm).appliesLoose y e.platform (U.calling g mk a) = true :=
    Spec.appliesLoose_calling (g := g) h hdg hn hkY hinitY
      (X.room_calling (g := g) (R' := (headSpec ws rm).room) hsize hmY hcY hframes (by rw [hlY]; omega) h4 h5) h1
  obtain ⟨mid, hmid⟩ := h.above
  have hfr : (U.setTop g).frames = (.java g :: mid) ++ below := by rw [State.frames_setTop' g h.top, hmid]; rfl
  obtain ⟨o, s₂, hsteps, -, hend, hq⟩ := Steps.callFree hM p X.admits X.cas X.clock (acts := []) hfr happ hPc trivial
  have hq' : vx_Q Qc XC mc ms free a (U.calling g mk a) o s₂ := hq
  rw [State.frames_setTop' g h.top] at hend
  obtain ⟨g₀, hg0⟩ := Option.isSome_iff_exists.mp h.top
  obtain ⟨r, hr⟩ := State.topJava?_eq_some.mp hg0
  have hr' : (({ U with heap := s₂.heap, slotsUsed := s₂.slotsUsed } : State).setVm s₂.vm).frames = .java g₀ :: r := hr
  rcases hq' with ⟨hqc, L, hfe, hL⟩ | ⟨q, rfl, E, ce, L, hx, hce, hcv, hcl, hW₂, hsm, hL⟩
  · obtain ⟨⟨v, rfl⟩, hW₂, e2, q2, q3, q4, q5, q6⟩ := id hfe
    have e3 : s₂ = ({ (U.calling g mk a).setFrames s₂.frames with heap := s₂.heap, slotsUsed := s₂.slotsUsed } : State).setVm s₂.vm := by
      have : s₂ = ({ s₂ with vm := (U.calling g mk a).vm } : State).setVm s₂.vm := rfl
      rw [e2] at this
      exact this
    obtain ⟨c₂, i₂, len₂, hc₂, hd₂, hf₂⟩ := hend
    have hW' : U.WarmedH s₂.vm := hW₂
    have hcc : c₂ = c := by
      have h1 : s₂.code? g.method = U.code? g.method := by
        rw [State.code?_eq, State.code?_eq, hW'.alike.method?]
      exact Option.some.inj (hc₂.symm.trans (h1.trans h.code))
    subst hcc
    have hlen : len₂ = len := by rw [hdg] at hd₂; cases hd₂; rfl
    subst hlen
    have hs₂ : s₂ = (({ U with heap := s₂.heap, slotsUsed := s₂.slotsUsed } : State).setVm s₂.vm).setTop { g with pc := g.pc + len₂, stack := v.toList ++ g.stack } := by
      refine e3.trans ?_
      rw [hf₂, State.calling_eq h.top, State.setFrames_setFrames, State.setTop_of_frames _ hr', hr]
      rfl
    have hsame : U.sameButNew ({ U with heap := s₂.heap, slotsUsed := s₂.slotsUsed } : State) L mc ms := by
      refine ⟨?_, q2, q3, q4, q5, q6⟩
      obtain ⟨t, ht, -⟩ := State.frames_cons hr
      show ({ U with heap := s₂.heap, slotsUsed := s₂.slotsUsed } : State) = { U.setFrames U.frames with heap := s₂.heap, slotsUsed := s₂.slotsUsed }
      rw [State.setFrames_self ht]
    subst hg
    refine Or.inl ⟨v, ⟨(({ U with heap := s₂.heap, slotsUsed := s₂.slotsUsed } : State).setVm s₂.vm), Ls ++ L, c0 + mc, s0 + ms⟩,
      ⟨X.admits, X.cas, X.clock, X.frames, X.room, X.hears, X.method, X.code, (X.here.setHeapUsed s₂.heap s₂.slotsUsed).setVm hW'.alike, X.tail, State.WarmedH.trans X.warmed hW', X.limits, X.bytes, X.same.trans (hsame.setVm s.vm)⟩,
      ⟨g, mk, s₂, L, rfl, rfl, hqc, rfl, hL, rfl, rfl⟩, ?_⟩
    show Steps p.tables e below _ ((({ U with heap := s₂.heap, slotsUsed := s₂.slotsUsed } : State).setVm s₂.vm).setTop { g with pc := g.pc + len₂, stack := v.toList ++ g.stack })
    rw [← hs₂]
    exact hsteps
  · obtain ⟨e2, q2, q3, q4, q5, q6⟩ := id hsm
    have e3 : s₂ = ({ (U.calling g mk a).setFrames s₂.frames with heap := s₂.heap, slotsUsed := s₂.slotsUsed } : State).setVm s₂.vm := by
      have : s₂ = ({ s₂ with vm := (U.calling g mk a).vm } : State).setVm s₂.vm := rfl
      rw [e2] at this
      exact this
    have hf₂ : s₂.frames = .throwing q :: .java g :: U.frames.tail := hend
    have hW' : U.WarmedH s₂.vm := hW₂
    have hs₂ : s₂ = ((({ U with heap := s₂.heap, slotsUsed := s₂.slotsUsed } : State).setVm s₂.vm).setTop g).pushFrame (.throwing q) := by
      refine e3.trans ?_
      rw [hf₂, State.calling_eq h.top, State.setFrames_setFrames, State.pushFrame, State.frames_setTop _ hr', State.setTop_of_frames _ hr', State.setFrames_setFrames, hr]
      rfl
    have hsame : U.sameButNew ({ U with heap := s₂.heap, slotsUsed := s₂.slotsUsed } : State) L mc ms := by
      refine ⟨?_, q2, q3, q4, q5, q6⟩
      obtain ⟨t, ht, -⟩ := State.frames_cons hr
      show ({ U with heap := s₂.heap, slotsUsed := s₂.slotsUsed } : State) = { U.setFrames U.frames with heap := s₂.heap, slotsUsed := s₂.slotsUsed }
      rw [State.setFrames_self ht]
    subst hg
    refine Or.inr ⟨q, ⟨(({ U with heap := s₂.heap, slotsUsed := s₂.slotsUsed } : State).setVm s₂.vm), Ls ++ L, c0 + mc, s0 + ms⟩,
      ⟨X.admits, X.cas, X.clock, X.frames, X.room, X.hears, X.method, X.code, (X.here.setHeapUsed s₂.heap s₂.slotsUsed).setVm hW'.alike, X.tail, State.WarmedH.trans X.warmed hW', X.limits, X.bytes, X.same.trans (hsame.setVm s.vm)⟩,
      ⟨g, mk, s₂, L, E, ce, rfl, rfl, hx, hce, hcv, hcl, rfl, hL, rfl, rfl⟩, ?_⟩
    show Steps p.tables e below _ (((({ U with heap := s₂.heap, slotsUsed := s₂.slotsUsed } : State).setVm s₂.vm).setTop g).pushFrame (.throwing q))
    rw [← hs₂]
    exact hsteps
end Payer
section Calls
variable {p : Program} {l : Launch} {e : Env} {R : Room} {s : State} {m : MethodId} {args : Array Value} {below : List Frame} {meth : Method} {c : Code} {T : State} {locs : List Loc} {cells slots : Nat}
theorem vx_callV (X : Stand p l e R s m args below meth c T locs cells slots) (hexec : p.tables.exec = Jvm.exec) {own C : String} {index : Nat} {y : MethodName} {bytes : ByteArray} {maxL : Nat} {ret : Option FieldType}
    (hown : s.vm.findClass own = some m.cls) (hlink : (Cond.methodLink own index y).before args s = true) (hinst : (Cond.instanceMethod y).before args s = true) (hsel : (Cond.selects C y y).before args s = true)
    (hcode : (Cond.code y bytes maxL ret).before args s = true) (hy : y.cls ≠ "java/lang/invoke/MethodHandle" ∧ y.cls ≠ "java/lang/invoke/VarHandle")
    {W9 : Nat} {Pre : Pt → Array Value → Prop} {Post : Pt → Array Value → Option Value → Pt → Prop} {PostX : Pt → Array Value → Addr → Pt → Prop} (hK : vx_Back l R p e below s args y 3 W9 Pre Post PostX)
    {b : Addr} {cellB : Cell} (hcell : T.heap[b]? = some cellB) (hobj : cellB.vm.isStatics = false) (hcls : s.vm.findClass C = some cellB.cls)
    {g : JFrame} (hg : g.method = m) (hsize : g.locals.size = c.maxLocals) {argsL rest : List Value} (hlen : ∀ sig, parseMethodDescriptor y.desc = some sig → argsL.length = sig.parameters.length)
    (hstack : g.stack = argsL.reverse ++ .ref b :: rest) (hW : 2 * g.monitorRoom + (rest.map fun v => v.category).sum ≤ W9) (hdg : decode c.code g.pc = .ok (.invokevirtual index, 3))
    (hpre : ∀ vm₁, s.WarmedH vm₁ → Pre ⟨T.setVm vm₁, locs, cells, slots⟩ (Value.ref b :: argsL).toArray) :
    (∃ (v : Option Value) (vm₁ : Vm) (B : Pt), s.WarmedH vm₁ ∧ Stand p l e R s m args below meth c B.U B.locs B.cells B.slots ∧ Post ⟨T.setVm vm₁, locs, cells, slots⟩ (Value.ref b :: argsL).toArray v B ∧
      ∀ target, Steps p.tables e below (B.U.setTop { g with pc := g.pc + 3, stack := v.toList ++ rest }) target → Steps p.tables e below (T.setTop g) target) ∨
    (∃ (q : Addr) (vm₁ : Vm) (B : Pt), s.WarmedH vm₁ ∧ Stand p l e R s m args below meth c B.U B.locs B.cells B.slots ∧ PostX ⟨T.setVm vm₁, locs, cells, slots⟩ (Value.ref b :: argsL).toArray q B ∧
      Steps p.tables e below (T.setTop g) ((B.U.setTop { g with stack := rest }).pushFrame (.throwing q))) := by
  obtain ⟨mk, methM, hnamed, hmethM, hstM, habM⟩ := Cond.instanceMethod_spec hinst
  obtain ⟨methM', cM, hmethM', -, -, -, -, -, -, hsigM⟩ := Cond.code_spec hnamed hcode
  cases hmethM.symm.trans hmethM'
  obtain ⟨c2, r2, m2, q1, q2, q3, q4, kP, hkP, hkPi⟩ := Cond.selects_spec hsel
  cases hcls.symm.trans q1
  cases (State.methodFound?_of_named hnamed hy).symm.trans q2
  cases hnamed.symm.trans q3
  have hselP : selectMethod e.platform s.vm cellB.cls mk = .method mk := by rw [Launch.admits_selectMethod X.admits]; exact q4
  obtain ⟨vm₁, X₁, hstep₁⟩ := X.invokevirtual hexec hown hlink hnamed hmethM hstM hkP hkPi hy (a := b) (cell := cellB) hcell
    (fun z h => by rw [h] at hobj; cases hobj) hselP hmethM habM hkP hkPi (g := g) hg (argsL := argsL) (rest := rest) (hlen _ hsigM) hstack hdg
  rcases hK m meth c ⟨T.setVm vm₁, locs, cells, slots⟩ { g with stack := rest } (.invokevirtual index) mk (Value.ref b :: argsL).toArray X₁ hg hsize hdg hW (X₁.named hnamed) (hpre vm₁ X₁.warmed) with ⟨v, B, X', hpost, hsteps⟩ | ⟨q, B, X', hpost, hsteps⟩
  · exact Or.inl ⟨v, vm₁, B, X₁.warmed, X', hpost, fun target h => hstep₁ _ fun acts => by rw [doInvoke_state]; exact hsteps.trans h⟩
  · exact Or.inr ⟨q, vm₁, B, X₁.warmed, X', hpost, hstep₁ _ fun acts => by rw [doInvoke_state]; exact hsteps⟩
theorem vx_callS (X : Stand p l e R s m args below meth c T locs cells slots) (hexec : p.tables.exec = Jvm.exec) {own : String} {index : Nat} {y : MethodName} {bytes : ByteArray} {maxL : Nat} {ret : Option FieldType}
    (hown : s.vm.findClass own = some m.cls) (hlink : (Cond.methodLink own index y).before args s = true) (hstat : (Cond.static y).before args s = true) (hinit : (Cond.initialized y.cls).before args s = true)
    (hcode : (Cond.code y bytes maxL ret).before args s = true) (hy : y.cls ≠ "java/lang/invoke/MethodHandle" ∧ y.cls ≠ "java/lang/invoke/VarHandle")
    {W9 : Nat} {Pre : Pt → Array Value → Prop} {Post : Pt → Array Value → Option Value → Pt → Prop} {PostX : Pt → Array Value → Addr → Pt → Prop} (hK : vx_Back l R p e below s args y 3 W9 Pre Post PostX)
    {g : JFrame} (hg : g.method = m) (hsize : g.locals.size = c.maxLocals) {argsL rest : List Value} (hlen : ∀ sig, parseMethodDescriptor y.desc = some sig → argsL.length = sig.parameters.length)
    (hstack : g.stack = argsL.reverse ++ rest) (hW : 2 * g.monitorRoom + (rest.map fun v => v.category).sum ≤ W9) (hdg : decode c.code g.pc = .ok (.invokestatic index, 3))
    (hpre : ∀ vm₁, s.WarmedH vm₁ → Pre ⟨T.setVm vm₁, locs, cells, slots⟩ argsL.toArray) :
    (∃ (v : Option Value) (vm₁ : Vm) (B : Pt), s.WarmedH vm₁ ∧ Stand p l e R s m args below meth c B.U B.locs B.cells B.slots ∧ Post ⟨T.setVm vm₁, locs, cells, slots⟩ argsL.toArray v B ∧
      ∀ target, Steps p.tables e below (B.U.setTop { g with pc := g.pc + 3, stack := v.toList ++ rest }) target → Steps p.tables e below (T.setTop g) target) ∨
    (∃ (q : Addr) (vm₁ : Vm) (B : Pt), s.WarmedH vm₁ ∧ Stand p l e R s m args below meth c B.U B.locs B.cells B.slots ∧ PostX ⟨T.setVm vm₁, locs, cells, slots⟩ argsL.toArray q B ∧
      Steps p.tables e below (T.setTop g) ((B.U.setTop { g with stack := rest }).pushFrame (.throwing q))) := by
  obtain ⟨mk, hnamed⟩ := Cond.code_named hcode
  obtain ⟨methM, cM, hmethM, -, -, -, -, -, -, hsigM⟩ := Cond.code_spec hnamed hcode
  have hstatic : methM.isStatic = true := Cond.static_spec hnamed hmethM hstat
  obtain ⟨kP, hkP, -⟩ := className_of_methodNamed hnamed
  have hinitP : kP.init = .initialized := Cond.initialized_spec (findClass_of_methodNamed hnamed) hkP hinit
  obtain ⟨vm₁, X₁, hstep₁⟩ := X.invokestatic hexec hown hlink hnamed hmethM hstatic hkP hinitP hy (g := g) hg (argsL := argsL) (rest := rest) (hlen _ hsigM) hstack hdg
  rcases hK m meth c ⟨T.setVm vm₁, locs, cells, slots⟩ { g with stack := rest } (.invokestatic index) mk argsL.toArray X₁ hg hsize hdg hW (X₁.named hnamed) (hpre vm₁ X₁.warmed) with ⟨v, B, X', hpost, hsteps⟩ | ⟨q, B, X', hpost, hsteps⟩
  · exact Or.inl ⟨v, vm₁, B, X₁.warmed, X', hpost, fun target h => hstep₁ _ fun acts => by rw [doInvoke_state]; exact hsteps.trans h⟩
  · exact Or.inr ⟨q, vm₁, B, X₁.warmed, X', hpost, hstep₁ _ fun acts => by rw [doInvoke_state]; exact hsteps⟩
end Calls
theorem vx_cls {s : State} {T : State} {vm₁ : Vm} {E : String} {k : ClassId} (hW : s.WarmedH vm₁) (h : (T.setVm vm₁).vm.findClass E = some k) : s.vm.findClass E = some k := by
  have h1 : vm₁.findClass E = some k := h
  rw [hW.alike.findClass] at h1
  exact h1
/-- the method's frame g, with q thrown over it -/
def vx_W (p : Program) (l : Launch) (e : Env) (R : Room) (s : State) (m : MethodId) (args : Array Value) (below : List Frame) (meth : Method) (c : Code) (H : Heap) (locs : List Loc) (cells slots : Nat) (Q : State → Prop) (g : JFrame) (q : Addr) : Prop :=
  ∀ T : State, T.heap = H → Stand p l e R s m args below meth c T locs cells slots → ∃ t, Steps p.tables e below ((T.setTop g).pushFrame (.throwing q)) t ∧ Q t
def vx_Run (p : Program) (l : Launch) (e : Env) (R : Room) (s : State) (m : MethodId) (args : Array Value) (below : List Frame) (meth : Method) (c : Code) (H : Heap) (locs : List Loc) (cells slots mc ms : Nat) (g : JFrame) (rest : List Value) (Qa : State → Outcome → State → Prop) (XC : String → State → State → Prop) (free : Addr → Prop) : Prop :=
  ∀ T : State, T.heap = H → Stand p l e R s m args below meth c T locs cells slots →
    (∃ (v : Option Value) (st₀ t T' : State) (L : List Loc), st₀.heap = H ∧ Stand p l e R s m args below meth c T' (locs ++ L) (cells + mc) (slots + ms) ∧ (∀ q ∈ L, free q.base) ∧ T'.heap = t.heap ∧ T'.vm = t.vm ∧ Qa st₀ (.returned v) t ∧
      Goes p e below T g T' { g with pc := g.pc + 3, stack := v.toList ++ rest }) ∨
    (∃ (q : Addr) (st₀ t T' : State) (L : List Loc) (E : String) (ce : Cell), st₀.heap = H ∧ Stand p l e R s m args below meth c T' (locs ++ L) (cells + mc) (slots + ms) ∧ (∀ z ∈ L, free z.base) ∧ T'.heap = t.heap ∧ T'.vm = t.vm ∧ XC E st₀ t ∧ t.heap[q]? = some ce ∧ ce.vm = .none ∧ s.vm.findClass E = some ce.cls ∧
      Steps p.tables e below (T.setTop g) ((T'.setTop { g with stack := rest }).pushFrame (.throwing q)))
def vx_X {S : Type} (px : S → Prop) (B : String → S → State → Prop) (A : Nat → Prop) : String → State → State → Prop := fun E st t => ∃ u : S, px u ∧ B E u t ∧ va_F A st t
section Runs
variable {p : Program} {l : Launch} {e : Env} {R : Room} {s : State} {m : MethodId} {args : Array Value} {below : List Frame} {meth : Method} {c : Code} {H : Heap} {locs : List Loc} {cells slots : Nat}
variable {y : MethodName} {bytes cc : ByteArray} {maxL nL mc ms n index : Nat} {ret : Option FieldType} {ws : List Cond} {rm : Room} {Pc : Array Value → State → Prop} {Qc : Array Value → State → Outcome → State → Prop} {XC : String → State → State → Prop} {free : Addr → Prop} {Ts : List Cond} {own C : String} {b : Addr} {As rest : List Value} {g : JFrame}
theorem vx_callBack (cb : CallB R s args own index y bytes maxL ret ws rm mc ms n) (hM : vx_Met l y ws rm Pc Qc XC mc ms free) (hbl : FrameBlind Pc) : vx_Back l R p e below s args y 3 8 (PreOf R mc ms Pc) (PostOf Qc mc ms free) (vx_Post XC mc ms free) := by
  obtain ⟨hrc, hrs, hfr, hlo, hws, hcw, -, hini, -⟩ := cb
  exact vx_back (bytes := bytes) (maxL := maxL) (ret := ret) hM hbl hrc hrs hfr hlo hws hcw (fun a' U hW => word_at hW (Or.inl (by first | rfl | simp [Cond.onTables, Cond.keeps, Cond.steady])) hini)
theorem vx_runV (S : CallFix p m c cc nL s args Ts own) (hM : vx_Met l y ws rm Pc Qc XC mc ms free) (cw : CallW R s args own C index y bytes maxL ret ws rm mc ms n) (hp : PreV s H C b Pc As)
    (hg : g.method = m) (hn : As.length = n) (hsize : g.locals.size = nL) (hstack : g.stack = As.reverse ++ .ref b :: rest) (hW : 2 * g.monitorRoom + (rest.map fun v => v.category).sum ≤ 8) (hdg : decode cc g.pc = .ok (.invokevirtual index, 3)) (hf : cells + mc ≤ R.cells ∧ slots + ms ≤ R.slots) :
    vx_Run p l e R s m args below meth c H locs cells slots mc ms g rest (Qc (Value.ref b :: As).toArray) XC free := by
  have hK : vx_Back l R p e below s args y 3 8 (PreOf R mc ms Pc) (PostOf Qc mc ms free) (vx_Post XC mc ms free) := vx_callBack cw.1 hM hp.1
  obtain ⟨⟨-, -, -, -, -, -, hcode, -, hy, hlen, hl⟩, hin, hse⟩ := cw
  obtain ⟨hx, hb, hml, ho, -⟩ := S
  obtain ⟨-, ⟨cellB, hcB, hoB, hclB⟩, hPc⟩ := hp
  intro T hT X
  rcases vx_callV X hx (C := C) (bytes := bytes) (maxL := maxL) (ret := ret) ho hl hin hse hcode hy hK (by rw [hT]; exact hcB) hoB hclB hg (hsize.trans hml.symm) (argsL := As) (rest := rest) (fun sig h => hn.trans (hlen sig h)) hstack hW (by rw [hb]; exact hdg)
    (fun vm₁ hW₁ => ⟨hf.1, hf.2, hPc (T.setVm vm₁) hT hW₁⟩) with ⟨v, vm₁, ⟨U', l2, c2, s2⟩, hW₁, X', ⟨g', mk, t, L, e1, e2, hq, h1, hL, h2, h3⟩, st⟩ | ⟨q, vm₁, ⟨U', l2, c2, s2⟩, hW₁, X', ⟨g', mk, t, L, E, ce, e1, e2, hq, hce, hcv, hcl, h1, hL, h2, h3⟩, st⟩
  · dsimp only [Pt.U, Pt.locs, Pt.cells, Pt.slots] at X' e1 e2 h1 h2 h3 st
    subst h1; subst h2; subst h3
    exact Or.inl ⟨v, (T.setVm vm₁).calling g' mk (Value.ref b :: As).toArray, t, U', L, hT, X', hL, e1, e2, hq, st⟩
  · dsimp only [Pt.U, Pt.locs, Pt.cells, Pt.slots] at X' e1 e2 h1 h2 h3 st hcl
    subst h1; subst h2; subst h3
    exact Or.inr ⟨q, (T.setVm vm₁).calling g' mk (Value.ref b :: As).toArray, t, U', L, E, ce, hT, X', hL, e1, e2, hq, hce, hcv, vx_cls hW₁ hcl, st⟩
theorem vx_runS (S : CallFix p m c cc nL s args Ts own) (hM : vx_Met l y ws rm Pc Qc XC mc ms free) (cw : CallB R s args own index y bytes maxL ret ws rm mc ms n ∧ (Cond.static y).before args s = true) (hp : PreS s H Pc As)
    (hg : g.method = m) (hn : As.length = n) (hsize : g.locals.size = nL) (hstack : g.stack = As.reverse ++ rest) (hW : 2 * g.monitorRoom + (rest.map fun v => v.category).sum ≤ 8) (hdg : decode cc g.pc = .ok (.invokestatic index, 3)) (hf : cells + mc ≤ R.cells ∧ slots + ms ≤ R.slots) :
    vx_Run p l e R s m args below meth c H locs cells slots mc ms g rest (Qc As.toArray) XC free := by
  have hK : vx_Back l R p e below s args y 3 8 (PreOf R mc ms Pc) (PostOf Qc mc ms free) (vx_Post XC mc ms free) := vx_callBack cw.1 hM hp.1
  obtain ⟨⟨-, -, -, -, -, -, hcode, hini, hy, hlen, hl⟩, hstt⟩ := cw
  obtain ⟨hx, hb, hml, ho, -⟩ := S
  intro T hT X
  rcases vx_callS X hx (bytes := bytes) (maxL := maxL) (ret := ret) ho hl hstt hini hcode hy hK hg (hsize.trans hml.symm) (argsL := As) (rest := rest) (fun sig h => hn.trans (hlen sig h)) hstack hW (by rw [hb]; exact hdg)
    (fun vm₁ hW₁ => ⟨hf.1, hf.2, hp.2 (T.setVm vm₁) hT hW₁⟩) with ⟨v, vm₁, ⟨U', l2, c2, s2⟩, hW₁, X', ⟨g', mk, t, L, e1, e2, hq, h1, hL, h2, h3⟩, st⟩ | ⟨q, vm₁, ⟨U', l2, c2, s2⟩, hW₁, X', ⟨g', mk, t, L, E, ce, e1, e2, hq, hce, hcv, hcl, h1, hL, h2, h3⟩, st⟩
  · dsimp only [Pt.U, Pt.locs, Pt.cells, Pt.slots] at X' e1 e2 h1 h2 h3 st
    subst h1; subst h2; subst h3
    exact Or.inl ⟨v, (T.setVm vm₁).calling g' mk As.toArray, t, U', L, hT, X', hL, e1, e2, hq, st⟩
  · dsimp only [Pt.U, Pt.locs, Pt.cells, Pt.slots] at X' e1 e2 h1 h2 h3 st hcl
    subst h1; subst h2; subst h3
    exact Or.inr ⟨q, (T.setVm vm₁).calling g' mk As.toArray, t, U', L, E, ce, hT, X', hL, e1, e2, hq, hce, hcv, vx_cls hW₁ hcl, st⟩
end Runs
section Rows
variable {p : Program} {l : Launch} {e : Env} {R : Room} {s : State} {m : MethodId} {args : Array Value} {below : List Frame} {meth : Method} {c : Code} {H : Heap} {locs : List Loc} {cells slots : Nat} {Q : State → Prop}
variable {mc ms : Nat} {free : Addr → Prop} {A0 A1 : Nat → Prop} {H0 : Heap} {a : Array Value} {pc : Nat} {ls : Array Slot} {st0 rest : List Value}
theorem vx_keep {st₀ t T' : State} {L : List Loc} (h0 : st₀.heap = H) (e1 : T'.heap = t.heap) (hS : va_S A0 H0 H locs) (hA : ∀ q, q < H.size → A1 q → A0 q) (hf : ∀ q, free q → A0 q) (hL : ∀ q ∈ L, free q.base) (hF : va_F A1 st₀ t) :
    H.size ≤ T'.heap.size ∧ (∀ q : Nat, q < H.size → ¬ A1 q → T'.heap[q]? = H[q]?) ∧ va_S A0 H0 T'.heap (locs ++ L) := by
  obtain ⟨hz, hk⟩ := hF
  rw [h0] at hz hk
  exact ⟨by rw [e1]; exact hz, fun q h1 h2 => by rw [e1]; exact hk q h1 h2,
    ⟨Nat.le_trans hS.1 (by rw [e1]; exact hz), fun q h1 h2 => by rw [e1, hk q (Nat.lt_of_lt_of_le h1 hS.1) (fun z => h2 (hA q (Nat.lt_of_lt_of_le h1 hS.1) z))]; exact hS.2.1 q h1 h2, fun q hq => by
      rcases List.mem_append.mp hq with h | h
      · exact hS.2.2 q h
      · exact hf _ (hL q h)⟩⟩
theorem vx_calli {S SX : Type} {post : Int32 → S → Prop} {px : SX → Prop} {B : S → State → Prop} {BX : String → SX → State → Prop} {AX : Nat → Prop} (hr : vx_Run p l e R s m args below meth c H locs cells slots mc ms (F0 m pc ls st0) rest (va_Qi post B A1 a) (vx_X px BX AX) free) (hS : va_S A0 H0 H locs) (hA : ∀ q, q < H.size → A1 q → A0 q) (hf : ∀ q, free q → A0 q) (hAX : ∀ q, q < H.size → AX q → A0 q)
    (kx : ∀ (E : String) (ce : Cell) (q9 : Addr) (u : SX) (t : State) (H1 : Heap) (locs1 : List Loc), t.heap = H1 → s.vm.Alike t.vm → px u → BX E u t → H.size ≤ H1.size → (∀ q : Nat, q < H.size → ¬ AX q → H1[q]? = H[q]?) → va_S A0 H0 H1 locs1 → H1[q9]? = some ce → ce.vm = .none → s.vm.findClass E = some ce.cls → vx_W p l e R s m args below meth c H1 locs1 (cells + mc) (slots + ms) Q (F0 m pc ls rest) q9)
    (kk : ∀ (r : Int32) (u : S) (t : State) (H1 : Heap) (locs1 : List Loc), t.heap = H1 → s.vm.Alike t.vm → post r u → B u t → H.size ≤ H1.size → (∀ q : Nat, q < H.size → ¬ A1 q → H1[q]? = H[q]?) → va_S A0 H0 H1 locs1 → W p l e R s m args below meth c H1 locs1 (cells + mc) (slots + ms) Q (F0 m (pc + 3) ls (.int r :: rest))) : W p l e R s m args below meth c H locs cells slots Q (F0 m pc ls st0) := by
  intro T hT X
  rcases hr T hT X with ⟨v, st₀, t, T', L, h0, X', hL, e1, e2, ⟨⟨r, u, hv, hp, hb⟩, hF⟩, st⟩ | ⟨q, st₀, t, T', L, E, ce, h0, X', hL, e1, e2, ⟨u, hp, hb, hF⟩, hce, hcv, hcl, st⟩
  · cases hv
    obtain ⟨k1, k2, k3⟩ := vx_keep h0 e1 hS hA hf hL hF
    obtain ⟨t2, a1, b1⟩ := kk r u t T'.heap (locs ++ L) e1.symm (by rw [← e2]; exact X'.warmed.alike) hp hb k1 k2 k3 T' rfl X'
    exact ⟨t2, st t2 a1, b1⟩
  · obtain ⟨k1, k2, k3⟩ := vx_keep h0 e1 hS hAX hf hL hF
    obtain ⟨t2, a1, b1⟩ := kx E ce q u t T'.heap (locs ++ L) e1.symm (by rw [← e2]; exact X'.warmed.alike) hp hb k1 k2 k3 (by rw [e1]; exact hce) hcv hcl T' rfl X'
    exact ⟨t2, st.trans a1, b1⟩
theorem vx_calll {S SX : Type} {post : Int64 → S → Prop} {px : SX → Prop} {B : S → State → Prop} {BX : String → SX → State → Prop} {AX : Nat → Prop} (hr : vx_Run p l e R s m args below meth c H locs cells slots mc ms (F0 m pc ls st0) rest (va_Ql post B A1 a) (vx_X px BX AX) free) (hS : va_S A0 H0 H locs) (hA : ∀ q, q < H.size → A1 q → A0 q) (hf : ∀ q, free q → A0 q) (hAX : ∀ q, q < H.size → AX q → A0 q)
    (kx : ∀ (E : String) (ce : Cell) (q9 : Addr) (u : SX) (t : State) (H1 : Heap) (locs1 : List Loc), t.heap = H1 → s.vm.Alike t.vm → px u → BX E u t → H.size ≤ H1.size → (∀ q : Nat, q < H.size → ¬ AX q → H1[q]? = H[q]?) → va_S A0 H0 H1 locs1 → H1[q9]? = some ce → ce.vm = .none → s.vm.findClass E = some ce.cls → vx_W p l e R s m args below meth c H1 locs1 (cells + mc) (slots + ms) Q (F0 m pc ls rest) q9)
    (kk : ∀ (r : Int64) (u : S) (t : State) (H1 : Heap) (locs1 : List Loc), t.heap = H1 → s.vm.Alike t.vm → post r u → B u t → H.size ≤ H1.size → (∀ q : Nat, q < H.size → ¬ A1 q → H1[q]? = H[q]?) → va_S A0 H0 H1 locs1 → W p l e R s m args below meth c H1 locs1 (cells + mc) (slots + ms) Q (F0 m (pc + 3) ls (.long r :: rest))) : W p l e R s m args below meth c H locs cells slots Q (F0 m pc ls st0) := by
  intro T hT X
  rcases hr T hT X with ⟨v, st₀, t, T', L, h0, X', hL, e1, e2, ⟨⟨r, u, hv, hp, hb⟩, hF⟩, st⟩ | ⟨q, st₀, t, T', L, E, ce, h0, X', hL, e1, e2, ⟨u, hp, hb, hF⟩, hce, hcv, hcl, st⟩
  · cases hv
    obtain ⟨k1, k2, k3⟩ := vx_keep h0 e1 hS hA hf hL hF
    obtain ⟨t2, a1, b1⟩ := kk r u t T'.heap (locs ++ L) e1.symm (by rw [← e2]; exact X'.warmed.alike) hp hb k1 k2 k3 T' rfl X'
    exact ⟨t2, st t2 a1, b1⟩
  · obtain ⟨k1, k2, k3⟩ := vx_keep h0 e1 hS hAX hf hL hF
    obtain ⟨t2, a1, b1⟩ := kx E ce q u t T'.heap (locs ++ L) e1.symm (by rw [← e2]; exact X'.warmed.alike) hp hb k1 k2 k3 (by rw [e1]; exact hce) hcv hcl T' rfl X'
    exact ⟨t2, st.trans a1, b1⟩
theorem vx_callf {S SX : Type} {post : UInt32 → S → Prop} {px : SX → Prop} {B : S → State → Prop} {BX : String → SX → State → Prop} {AX : Nat → Prop} (hr : vx_Run p l e R s m args below meth c H locs cells slots mc ms (F0 m pc ls st0) rest (va_Qf post B A1 a) (vx_X px BX AX) free) (hS : va_S A0 H0 H locs) (hA : ∀ q, q < H.size → A1 q → A0 q) (hf : ∀ q, free q → A0 q) (hAX : ∀ q, q < H.size → AX q → A0 q)
    (kx : ∀ (E : String) (ce : Cell) (q9 : Addr) (u : SX) (t : State) (H1 : Heap) (locs1 : List Loc), t.heap = H1 → s.vm.Alike t.vm → px u → BX E u t → H.size ≤ H1.size → (∀ q : Nat, q < H.size → ¬ AX q → H1[q]? = H[q]?) → va_S A0 H0 H1 locs1 → H1[q9]? = some ce → ce.vm = .none → s.vm.findClass E = some ce.cls → vx_W p l e R s m args below meth c H1 locs1 (cells + mc) (slots + ms) Q (F0 m pc ls rest) q9)
    (kk : ∀ (r : UInt32) (u : S) (t : State) (H1 : Heap) (locs1 : List Loc), t.heap = H1 → s.vm.Alike t.vm → post r u → B u t → H.size ≤ H1.size → (∀ q : Nat, q < H.size → ¬ A1 q → H1[q]? = H[q]?) → va_S A0 H0 H1 locs1 → W p l e R s m args below meth c H1 locs1 (cells + mc) (slots + ms) Q (F0 m (pc + 3) ls (.float r :: rest))) : W p l e R s m args below meth c H locs cells slots Q (F0 m pc ls st0) := by
  intro T hT X
  rcases hr T hT X with ⟨v, st₀, t, T', L, h0, X', hL, e1, e2, ⟨⟨r, u, hv, hp, hb⟩, hF⟩, st⟩ | ⟨q, st₀, t, T', L, E, ce, h0, X', hL, e1, e2, ⟨u, hp, hb, hF⟩, hce, hcv, hcl, st⟩
  · cases hv
    obtain ⟨k1, k2, k3⟩ := vx_keep h0 e1 hS hA hf hL hF
    obtain ⟨t2, a1, b1⟩ := kk r u t T'.heap (locs ++ L) e1.symm (by rw [← e2]; exact X'.warmed.alike) hp hb k1 k2 k3 T' rfl X'
    exact ⟨t2, st t2 a1, b1⟩
  · obtain ⟨k1, k2, k3⟩ := vx_keep h0 e1 hS hAX hf hL hF
    obtain ⟨t2, a1, b1⟩ := kx E ce q u t T'.heap (locs ++ L) e1.symm (by rw [← e2]; exact X'.warmed.alike) hp hb k1 k2 k3 (by rw [e1]; exact hce) hcv hcl T' rfl X'
    exact ⟨t2, st.trans a1, b1⟩
theorem vx_calld {S SX : Type} {post : UInt64 → S → Prop} {px : SX → Prop} {B : S → State → Prop} {BX : String → SX → State → Prop} {AX : Nat → Prop} (hr : vx_Run p l e R s m args below meth c H locs cells slots mc ms (F0 m pc ls st0) rest (va_Qd post B A1 a) (vx_X px BX AX) free) (hS : va_S A0 H0 H locs) (hA : ∀ q, q < H.size → A1 q → A0 q) (hf : ∀ q, free q → A0 q) (hAX : ∀ q, q < H.size → AX q → A0 q)
    (kx : ∀ (E : String) (ce : Cell) (q9 : Addr) (u : SX) (t : State) (H1 : Heap) (locs1 : List Loc), t.heap = H1 → s.vm.Alike t.vm → px u → BX E u t → H.size ≤ H1.size → (∀ q : Nat, q < H.size → ¬ AX q → H1[q]? = H[q]?) → va_S A0 H0 H1 locs1 → H1[q9]? = some ce → ce.vm = .none → s.vm.findClass E = some ce.cls → vx_W p l e R s m args below meth c H1 locs1 (cells + mc) (slots + ms) Q (F0 m pc ls rest) q9)
    (kk : ∀ (r : UInt64) (u : S) (t : State) (H1 : Heap) (locs1 : List Loc), t.heap = H1 → s.vm.Alike t.vm → post r u → B u t → H.size ≤ H1.size → (∀ q : Nat, q < H.size → ¬ A1 q → H1[q]? = H[q]?) → va_S A0 H0 H1 locs1 → W p l e R s m args below meth c H1 locs1 (cells + mc) (slots + ms) Q (F0 m (pc + 3) ls (.double r :: rest))) : W p l e R s m args below meth c H locs cells slots Q (F0 m pc ls st0) := by
  intro T hT X
  rcases hr T hT X with ⟨v, st₀, t, T', L, h0, X', hL, e1, e2, ⟨⟨r, u, hv, hp, hb⟩, hF⟩, st⟩ | ⟨q, st₀, t, T', L, E, ce, h0, X', hL, e1, e2, ⟨u, hp, hb, hF⟩, hce, hcv, hcl, st⟩
  · cases hv
    obtain ⟨k1, k2, k3⟩ := vx_keep h0 e1 hS hA hf hL hF
    obtain ⟨t2, a1, b1⟩ := kk r u t T'.heap (locs ++ L) e1.symm (by rw [← e2]; exact X'.warmed.alike) hp hb k1 k2 k3 T' rfl X'
    exact ⟨t2, st t2 a1, b1⟩
  · obtain ⟨k1, k2, k3⟩ := vx_keep h0 e1 hS hAX hf hL hF
    obtain ⟨t2, a1, b1⟩ := kx E ce q u t T'.heap (locs ++ L) e1.symm (by rw [← e2]; exact X'.warmed.alike) hp hb k1 k2 k3 (by rw [e1]; exact hce) hcv hcl T' rfl X'
    exact ⟨t2, st.trans a1, b1⟩
theorem vx_callv {S SX : Type} {post : S → Prop} {px : SX → Prop} {B : S → State → Prop} {BX : String → SX → State → Prop} {AX : Nat → Prop} (hr : vx_Run p l e R s m args below meth c H locs cells slots mc ms (F0 m pc ls st0) rest (va_Qv post B A1 a) (vx_X px BX AX) free) (hS : va_S A0 H0 H locs) (hA : ∀ q, q < H.size → A1 q → A0 q) (hf : ∀ q, free q → A0 q) (hAX : ∀ q, q < H.size → AX q → A0 q)
    (kx : ∀ (E : String) (ce : Cell) (q9 : Addr) (u : SX) (t : State) (H1 : Heap) (locs1 : List Loc), t.heap = H1 → s.vm.Alike t.vm → px u → BX E u t → H.size ≤ H1.size → (∀ q : Nat, q < H.size → ¬ AX q → H1[q]? = H[q]?) → va_S A0 H0 H1 locs1 → H1[q9]? = some ce → ce.vm = .none → s.vm.findClass E = some ce.cls → vx_W p l e R s m args below meth c H1 locs1 (cells + mc) (slots + ms) Q (F0 m pc ls rest) q9)
    (kk : ∀ (u : S) (t : State) (H1 : Heap) (locs1 : List Loc), t.heap = H1 → s.vm.Alike t.vm → post u → B u t → H.size ≤ H1.size → (∀ q : Nat, q < H.size → ¬ A1 q → H1[q]? = H[q]?) → va_S A0 H0 H1 locs1 → W p l e R s m args below meth c H1 locs1 (cells + mc) (slots + ms) Q (F0 m (pc + 3) ls (rest))) : W p l e R s m args below meth c H locs cells slots Q (F0 m pc ls st0) := by
  intro T hT X
  rcases hr T hT X with ⟨v, st₀, t, T', L, h0, X', hL, e1, e2, ⟨⟨u, hv, hp, hb⟩, hF⟩, st⟩ | ⟨q, st₀, t, T', L, E, ce, h0, X', hL, e1, e2, ⟨u, hp, hb, hF⟩, hce, hcv, hcl, st⟩
  · cases hv
    obtain ⟨k1, k2, k3⟩ := vx_keep h0 e1 hS hA hf hL hF
    obtain ⟨t2, a1, b1⟩ := kk u t T'.heap (locs ++ L) e1.symm (by rw [← e2]; exact X'.warmed.alike) hp hb k1 k2 k3 T' rfl X'
    exact ⟨t2, st t2 a1, b1⟩
  · obtain ⟨k1, k2, k3⟩ := vx_keep h0 e1 hS hAX hf hL hF
    obtain ⟨t2, a1, b1⟩ := kx E ce q u t T'.heap (locs ++ L) e1.symm (by rw [← e2]; exact X'.warmed.alike) hp hb k1 k2 k3 (by rw [e1]; exact hce) hcv hcl T' rfl X'
    exact ⟨t2, st.trans a1, b1⟩
/-- caught by the row x of this method's table; the rows ahead don't take it -/
theorem vx_catch {own name : String} {E : String} {ce : Cell} {q : Addr} (hown : s.vm.findClass own = some m.cls) (pre : List ExceptionTableEntry) (x : ExceptionTableEntry) (suf : List ExceptionTableEntry) (hsplit : c.exceptionTable.toList = pre ++ x :: suf)
    (hpass : ∀ z ∈ pre, covers z pc = false ∨ (z.catchType ≠ 0 ∧ ∃ nm : String, (Cond.classLink own z.catchType nm).before args s = true ∧ va_Nc E nm s)) (hx : covers x pc = true) (h0 : x.catchType ≠ 0)
    (hlink : (Cond.classLink own x.catchType name).before args s = true) (hcast : (Cond.castable E name).before args s = true) (hcell : H[q]? = some ce) (hv : ce.vm = .none) (hcl : s.vm.findClass E = some ce.cls)
    (kk : W p l e R s m args below meth c H locs cells slots Q (F0 m x.handlerPc ls [.ref q])) : vx_W p l e R s m args below meth c H locs cells slots Q (F0 m pc ls rest) q := by
  intro T hT X
  have hpl : e.platform.magicAccessors = ({} : Platform).magicAccessors := by rw [X.admits.platform]
  obtain ⟨c3, c4, hc3, hc4, hasg⟩ := Cond.castable_spec hcast
  cases Option.some.inj (hc3.symm.trans hcl)
  obtain ⟨c5, hc5, hcl5⟩ := Cond.classLink_spec hown hlink e.platform hpl
  cases Option.some.inj (hc4.symm.trans hc5)
  obtain ⟨vm', X', st⟩ := X.thenCaughtThrough q (g := F0 m pc ls rest) rfl (Steps.refl _) (by rw [hT]; exact hcell) (by rw [hv]; rfl) (by obtain ⟨k9, h9, -⟩ := Vm.findClass_spec hcl; exact ⟨k9, h9⟩) pre x suf hsplit
    (fun z hz => by
      rcases hpass z hz with h | ⟨hz0, nm, hl1, hn1⟩
      · exact Or.inl h
      · obtain ⟨c6, hc6, hcl6⟩ := Cond.classLink_spec hown hl1 e.platform hpl
        obtain ⟨a8, b8, h1, h2, h3⟩ := hn1
        cases Option.some.inj (h1.symm.trans hcl)
        cases Option.some.inj (h2.symm.trans hc6)
        exact Or.inr ⟨hz0, _, hcl6, h3⟩) hx (Or.inr ⟨h0, c4, hcl5, hasg⟩)
  obtain ⟨t, a1, b1⟩ := kk (T.setVm vm') hT X'
  exact ⟨t, st.trans a1, b1⟩
end Rows
section Ends
variable {p : Program} {l : Launch} {e : Env} {R : Room} {s : State} {m : MethodId} {args : Array Value} {below : List Frame} {meth : Method} {c : Code} {H : Heap} {locs : List Loc} {cells slots : Nat} {Q : State → Prop}
variable {mc ms : Nat} {free : Addr → Prop} {A0 A1 : Nat → Prop} {H0 : Heap} {a : Array Value} {ls : Array Slot} {st0 rest : List Value}
variable {Qc : Array Value → State → Outcome → State → Prop} {XC : String → State → State → Prop}
/-- what a body that may throw owes at its end -/
def vx_MQ (below : List Frame) (Qc : Array Value → State → Outcome → State → Prop) (XC : String → State → State → Prop) (a : Array Value) (s : State) (mc ms : Nat) (free : Addr → Prop) : State → Prop := fun t =>
  ∃ o, t.status = .running ∧ Ended t below o ∧ vx_Q Qc XC mc ms free a s o t
theorem vx_ret {g : JFrame} {mc ms : Nat} (k : W p l e R s m args below meth c H locs cells slots (MQ below Qc args s mc ms free) g) : W p l e R s m args below meth c H locs cells slots (vx_MQ below Qc XC args s mc ms free) g := by
  intro T hT X
  obtain ⟨t, a1, o, b1, b2, b3, b4⟩ := k T hT X
  exact ⟨t, a1, o, b1, b2, Or.inl ⟨b3, b4⟩⟩
/-- not caught here: it goes on to the caller -/
theorem vx_widen {g : JFrame} {q : Addr} {k n : Nat} (h1 : cells ≤ k) (h2 : slots ≤ n) (kk : vx_W p l e R s m args below meth c H locs k n Q g q) : vx_W p l e R s m args below meth c H locs cells slots Q g q := fun T hT X => kk T hT (stand_widen X h1 h2)
theorem vx_out {pc : Nat} {E : String} {ce : Cell} {q : Addr} {mc ms : Nat} (hout : ∀ x ∈ c.exceptionTable.toList, covers x pc = false) (hlocks : meth.locks = false) (hcell : H[q]? = some ce) (hv : ce.vm = .none) (hcl : s.vm.findClass E = some ce.cls)
    (hx : ∀ t : State, t.heap = H → s.vm.Alike t.vm → XC E s t) (hf : ∀ z ∈ locs, free z.base) (hc : cells ≤ mc) (hs : slots ≤ ms) :
    vx_W p l e R s m args below meth c H locs cells slots (vx_MQ below Qc XC args s mc ms free) (F0 m pc ls rest) q := by
  intro T hT X
  obtain ⟨st1, hrun, hend, hW, hsm⟩ := X.leaveThrown q (g := F0 m pc ls rest) rfl rfl rfl hout hlocks
  have hcell9 : (T.setFrames (.throwing q :: below)).heap[q]? = some ce := by
    show T.heap[q]? = some ce
    rw [hT]; exact hcell
  exact ⟨_, st1, .threw q, hrun, hend, Or.inr ⟨q, rfl, E, ce, locs, hx _ hT hW.alike, hcell9, hv, hcl, hW, hsm.mono hc hs, hf⟩⟩
theorem vx_frame {U : State} {k n : Nat} (h : s.sameButNew ({ U with vm := s.vm } : State) locs k n) : s.heap.size ≤ U.heap.size ∧ ∀ q : Nat, q < s.heap.size → (∀ z ∈ locs, z.base ≠ q) → U.heap[q]? = s.heap[q]? := by
  obtain ⟨-, h2, -, -, -, h6⟩ := h
  refine ⟨h2, fun q hq hz => ?_⟩
  obtain ⟨c9, e1, e2, e3, e4⟩ := h6 q _ (Array.getElem?_eq_getElem hq)
  have hs : c9.slots = (s.heap[q]).slots := Array.ext_getElem? fun i => e4 i fun hm => hz _ hm rfl
  have h9 : c9 = s.heap[q] := by
    rw [hs] at e2
    exact e2
  have e5 : U.heap[q]? = some c9 := e1
  rw [e5, h9, Array.getElem?_eq_getElem hq]
/-- the words of a throw but the four that speak of the heap -/
def vx_no (w : Cond) : Bool := decide (w ≠ .isRef (.static Bundle.tN "UNASSIGNED_STACK" Bundle.steD)) && decide (w ≠ .isRef (.static Bundle.tN "SUPPRESSED_SENTINEL" Bundle.listD)) && decide (w ≠ .laysStatic Bundle.tN "UNASSIGNED_STACK" Bundle.steD) && decide (w ≠ .laysStatic Bundle.tN "SUPPRESSED_SENTINEL" Bundle.listD)
def vx_at0 (own : String) (ic : Nat) (X : String) (names : List String) : List Cond := (Bundle.ownAtoms0 own ic X names).filter vx_no
def vx_atS (own : String) (ic : Nat) (X : String) (names : List String) : List Cond := (Bundle.ownAtoms own ic X names).filter vx_no
/-- a word that the tables alone decide, or a good one -/
def vx_ot (w : Cond) : Bool := w.onTables || goodWord w
theorem vx_ot_at {args a' : Array Value} {s U : State} {w : Cond} (hW : s.WarmedH U.vm) (hvm : s.vm = U.vm) (hg : vx_ot w = true) (h : w.before args s = true) : w.before a' U = true := by
  simp only [vx_ot, Bool.or_eq_true] at hg
  rcases hg with hg | hg
  · exact va_tabs hg hvm h
  · exact word_at hW (good_of_word hg) h
/-- a list's words: the good ones out of the method's own list, the others by premises of their own -/
theorem vx_hat {args : Array Value} {s : State} {L B : List Cond} (h1 : ∀ w ∈ L.filter goodWord, w.before args s = true) (h2 : ∀ w ∈ L.filter (fun w => !goodWord w), w ∈ B) (h3 : ∀ w ∈ B, w.before args s = true) : ∀ w ∈ L, w.before args s = true := by
  intro w hw
  by_cases g : goodWord w = true
  · exact h1 w (List.mem_filter.mpr ⟨hw, g⟩)
  · refine h3 w (h2 w (List.mem_filter.mpr ⟨hw, ?_⟩))
    show (!goodWord w) = true
    cases hgw : goodWord w
    · rfl
    · exact absurd hgw g
theorem vx_c {args : Array Value} {s : State} {w : Cond} {B : List Cond} (h : w.before args s = true) (t : ∀ w ∈ B, w.before args s = true) : ∀ w' ∈ w :: B, w'.before args s = true := fun w' h' => (List.mem_cons.mp h').elim (fun e => by rw [e]; exact h) (t w')
theorem vx_n {args : Array Value} {s : State} : ∀ w ∈ ([] : List Cond), w.before args s = true := fun _ h => nomatch h
theorem vx_own {args : Array Value} {s : State} {L : List Cond} (h1 : ∀ w ∈ L.filter vx_no, w.before args s = true)
    (hU : (Cond.isRef (.static Bundle.tN "UNASSIGNED_STACK" Bundle.steD)).before args s = true) (hN : (Cond.isRef (.static Bundle.tN "SUPPRESSED_SENTINEL" Bundle.listD)).before args s = true)
    (lU : (Cond.laysStatic Bundle.tN "UNASSIGNED_STACK" Bundle.steD).before args s = true) (lN : (Cond.laysStatic Bundle.tN "SUPPRESSED_SENTINEL" Bundle.listD).before args s = true) : ∀ w ∈ L, w.before args s = true := by
  intro w hw
  by_cases e1 : w = .isRef (.static Bundle.tN "UNASSIGNED_STACK" Bundle.steD)
  · rw [e1]; exact hU
  · by_cases e2 : w = .isRef (.static Bundle.tN "SUPPRESSED_SENTINEL" Bundle.listD)
    · rw [e2]; exact hN
    · by_cases e3 : w = .laysStatic Bundle.tN "UNASSIGNED_STACK" Bundle.steD
      · rw [e3]; exact lU
      · by_cases e4 : w = .laysStatic Bundle.tN "SUPPRESSED_SENTINEL" Bundle.listD
        · rw [e4]; exact lN
        · exact h1 w (List.mem_filter.mpr ⟨hw, by unfold vx_no; rw [decide_eq_true e1, decide_eq_true e2, decide_eq_true e3, decide_eq_true e4]; rfl⟩)
/-- where a static field lies, its class's statics cell in H -/
def vx_L (C n d : String) (A : Nat → Prop) (U : State) (H : Heap) : Prop := ∃ (c : ClassId) (k : Class) (i : Nat) (f : Field) (a : Nat) (cell : Cell), U.vm.findClass C = some c ∧ U.fieldFound? C n d = some (c, k, i, f) ∧ f.isStatic = true ∧ k.statics = some a ∧ H[a]? = some cell ∧ cell.vm.isStatics = true ∧ cell.cls = c ∧ f.slot < cell.slots.size ∧ k.staticTypes[f.slot]? = some f.type ∧ ¬ A a
theorem vx_L.moved {C n d : String} {A : Nat → Prop} {u U : State} {H : Heap} (hvm : u.vm.Alike U.vm) (h : vx_L C n d A u H) : vx_L C n d A U H := by
  obtain ⟨c, k, i, f, a, cell, h1, h2, h3, h4, h5, h6, h7, h8, h9, h10⟩ := h
  obtain ⟨k', hi', he⟩ := State.fieldFound?_setVm hvm h2
  exact ⟨c, k', i, f, a, cell, by rw [hvm.findClass]; exact h1, hi', h3, by rw [he]; exact h4, h5, h6, h7, h8, by rw [he]; exact h9, h10⟩
theorem vx_L.kept {C n d : String} {A : Nat → Prop} {U : State} {H H1 : Heap} (h : vx_L C n d A U H) (hq : ∀ a : Nat, a < H.size → ¬ A a → H1[a]? = H[a]?) : vx_L C n d A U H1 := by
  obtain ⟨c, k, i, f, a, cell, h1, h2, h3, h4, h5, h6, h7, h8, h9, h10⟩ := h
  exact ⟨c, k, i, f, a, cell, h1, h2, h3, h4, by rw [hq a (Array.getElem?_eq_some_iff.mp h5).1 h10]; exact h5, h6, h7, h8, h9, h10⟩
theorem vx_L.narrow {C n d : String} {A B : Nat → Prop} {U : State} {H : Heap} (h : vx_L C n d A U H) (hAB : ∀ q, B q → A q) : vx_L C n d B U H := by
  obtain ⟨c, k, i, f, a, cell, h1, h2, h3, h4, h5, h6, h7, h8, h9, h10⟩ := h
  exact ⟨c, k, i, f, a, cell, h1, h2, h3, h4, h5, h6, h7, h8, h9, fun z => h10 (hAB _ z)⟩
theorem vx_L.word {C n d : String} {A : Nat → Prop} {s : State} {args : Array Value} (h : vx_L C n d A s s.heap) : (Cond.laysStatic C n d).before args s = true := by
  obtain ⟨c, k, i, f, a, cell, h1, h2, h3, h4, h5, h6, h7, h8, h9, -⟩ := h
  show (Cond.laysStatic C n d).holds args s none s [] = true
  exact Cond.laysStatic_of h1 h2 h3 h4 h5 h6 h7 h8 h9
/-- .. and what it holds: null or some reference -/
def vx_Zq (C n d : String) (A : Nat → Prop) (U : State) (H : Heap) : Prop := va_Zq C n d A U H ∧ vx_L C n d A U H
theorem vx_Zq.moved {C n d : String} {A : Nat → Prop} {u U : State} {H : Heap} (hvm : u.vm.Alike U.vm) (h : vx_Zq C n d A u H) : vx_Zq C n d A U H := ⟨va_Zq.moved hvm h.1, vx_L.moved hvm h.2⟩
theorem vx_Zq.kept {C n d : String} {A : Nat → Prop} {U : State} {H H1 : Heap} (h : vx_Zq C n d A U H) (hq : ∀ a : Nat, a < H.size → ¬ A a → H1[a]? = H[a]?) : vx_Zq C n d A U H1 := ⟨va_Zq.kept h.1 hq, vx_L.kept h.2 hq⟩
theorem vx_Zq.narrow {C n d : String} {A B : Nat → Prop} {U : State} {H : Heap} (h : vx_Zq C n d A U H) (hAB : ∀ q, B q → A q) : vx_Zq C n d B U H := ⟨va_Zq.narrow h.1 hAB, vx_L.narrow h.2 hAB⟩
theorem vx_Zqof {args : Array Value} {s : State} {C n d : String} {A : Nat → Prop} (hl : (Cond.laysStatic C n d).before args s = true) (hini : (Cond.initialized C).before args s = true) (h : (Cond.isRef (.static C n d)).before args s = true) (hA : ∀ a : Nat, a < s.heap.size → ¬ A a) : vx_Zq C n d A s s.heap := by
  refine ⟨va_Zqof hl hini h hA, ?_⟩
  obtain ⟨c, k, i, f, a, cell, h1, h2, h3, h4, h5, h6, h7, h8, h9⟩ := Cond.laysStatic_spec hl
  exact ⟨c, k, i, f, a, cell, h1, h2, h3, h4, h5, h6, h7, h8, h9, hA a (Array.getElem?_eq_some_iff.mp h5).1⟩
theorem vx_isRef {C n d : String} {v : Value} {A : Nat → Prop} {s : State} {args : Array Value} (h : va_Z C n d v A s s.heap) (hv : v.isRef = true) : (Cond.isRef (.static C n d)).before args s = true := by
  obtain ⟨cf, kf, fi, f, a, cell, h1, h2, h3, h4, h5, h6, h7, -⟩ := h
  have he : (Term.static C n d).eval args s none [] s = some v := by
    simp [Term.eval, State.fieldNamed?, h1, h2, h4, h5, h6, h7]
  simp only [Cond.before, Cond.holds, Cond.value, he]
  cases v <;> simp_all [Value.isRef]
theorem vx_isRefq {C n d : String} {A : Nat → Prop} {s : State} {args : Array Value} (h : va_Zq C n d A s s.heap) : (Cond.isRef (.static C n d)).before args s = true := by
  rcases h with h | ⟨t, h⟩
  · exact vx_isRef h rfl
  · exact vx_isRef h rfl
/-- the same frame, seen from here: as if the method were called anew in this heap -/
theorem vx_rebase {T : State} (X : Stand p l e R s m args below meth c T locs cells slots) {R' : Room} (hf : R'.frames ≤ R.frames) (hl : R'.locals ≤ R.locals) (hc : cells + R'.cells ≤ R.cells) (hs : slots + R'.slots ≤ R.slots) :
    Stand p l e R' ((T.setVm s.vm).setFrames (.invoking m args :: below)) m args below meth c T [] 0 0 := by
  have htop : (T.setVm s.vm).topJava?.isSome := X.here.top
  have hF : ((T.setVm s.vm).setFrames (.invoking m args :: below)).frames = .invoking m args :: below := State.frames_setFrames _ (State.cur_lt_of_top htop)
  obtain ⟨g₀, hg0⟩ := Option.isSome_iff_exists.mp htop
  obtain ⟨r, hr⟩ := State.topJava?_eq_some.mp hg0
  have hl9 : e.platform.stackLimits (T.setVm s.vm).me = e.platform.stackLimits s.me := X.limits
  have hb9 : (T.setVm s.vm).me.stackBytes = s.me.stackBytes := X.bytes
  refine ⟨X.admits, X.cas, X.clock, hF, ?_, X.hears, X.method, X.code, X.here, X.tail, X.warmed, ?_, ?_, ?_⟩
  · have h := X.room
    have hU : ((T.setVm s.vm).setFrames (.invoking m args :: below)).localsInUse = s.localsInUse := by
      rw [State.localsInUse_invoking hF (meth := meth) (c := c) X.method X.code, State.localsInUse_invoking X.frames X.method X.code]
    simp only [State.hasRoom, Bool.and_eq_true, decide_eq_true_eq] at h ⊢
    obtain ⟨⟨⟨⟨h1, h2, h3, h4, h5, h6⟩, h7⟩, h8⟩, h9⟩ := h
    rw [X.frames, List.length_cons] at h2 h3
    have q1 := X.heapSize
    have q2 := X.used
    simp only [hF, hU, List.length_cons, State.stackLimits_setFrames, State.stackBytes_setFrames, hl9, hb9]
    refine ⟨⟨⟨⟨by omega, by omega, by omega, by omega, by omega, h6⟩, ?_⟩, ?_⟩, X.book⟩
    · show T.heap.size + R'.cells ≤ e.platform.maxCells
      omega
    · show T.slotsUsed + R'.slots ≤ e.platform.maxSlots
      omega
  · rw [State.stackLimits_setFrames]; rfl
  · rw [State.stackBytes_setFrames]; rfl
  · refine ⟨?_, Nat.le_refl _, Nat.le_refl _, ?_, ?_, fun a c9 h9 => ⟨c9, h9, rfl, rfl, fun _ _ => rfl⟩⟩
    · obtain ⟨t, ht, -⟩ := State.frames_cons hr
      show T.setVm s.vm = { ((T.setVm s.vm).setFrames (.invoking m args :: below)).setFrames (T.setVm s.vm).frames with heap := T.heap, slotsUsed := T.slotsUsed }
      rw [State.setFrames_setFrames, State.setFrames_self ht]
      rfl
    · show T.slotsUsed = T.slotsUsed + ((T.heap.toList.drop T.heap.size).map (·.slots.size)).sum
      rw [List.drop_eq_nil_of_le (Nat.le_of_eq Array.length_toList)]
      rfl
    · show ((T.heap.toList.drop T.heap.size).map (·.slots.size)).sum ≤ 0
      rw [List.drop_eq_nil_of_le (Nat.le_of_eq Array.length_toList)]
      exact Nat.le_refl _
/-- 'throw new E()': new; dup; invokespecial; athrow -/
theorem vx_throw0 {cc : ByteArray} {pc : Nat} (hexec : p.tables.exec = Jvm.exec) (hb : c.code = cc) (hl : l.stackTraces = false) {own cls : String} {names : List String} {ik ic mc ms : Nat} {A : Nat → Prop}
    (hown : s.vm.findClass own = some m.cls) (hcls : Bundle.fit cls = true) (hnames : ∀ n ∈ names, Bundle.fit n = true)
    (hk : (Cond.classLink own ik cls).before args s = true) (hini : (Cond.initialized cls).before args s = true) (hat : ∀ w ∈ vx_at0 own ic cls names, w.before args s = true)
    (hgood : ∀ w ∈ Cond.classLink own ik cls :: Cond.initialized cls :: vx_at0 own ic cls names, vx_ot w = true)
    (hU : vx_Zq Bundle.tN "UNASSIGNED_STACK" Bundle.steD A s s.heap) (hN : vx_Zq Bundle.tN "SUPPRESSED_SENTINEL" Bundle.listD A s s.heap) (hS : va_S A s.heap H locs) (hsize : ls.size = c.maxLocals)
    (d0 : decode cc pc = .ok (.new ik, 3)) (d3 : decode cc (pc + 3) = .ok (.dup, 1)) (d4 : decode cc (pc + 4) = .ok (.invokespecial ic, 3)) (d7 : decode cc (pc + 7) = .ok (.athrow, 1))
    (hout : ∀ x ∈ c.exceptionTable.toList, covers x (pc + 7) = false)
    (hRframes : names.length + 3 < R.frames) (hRlocals : (rest.map fun v => v.category).sum + (13 * (names.length + 1) + 42) ≤ R.locals) (hRcells : cells + 1 ≤ R.cells) (hRslots : slots + 6 ≤ R.slots) (hlocks : meth.locks = false)
    (hx : ∀ t : State, s.vm.Alike t.vm → H.size ≤ t.heap.size → (∀ q : Nat, q < H.size → t.heap[q]? = H[q]?) → XC cls s t)
    (hf : ∀ z ∈ locs, free z.base) (hc : cells + 1 ≤ mc) (hs : slots + 6 ≤ ms) :
    W p l e R s m args below meth c H locs cells slots (vx_MQ below Qc XC args s mc ms free) (F0 m pc ls rest) := by
  intro T hT X
  have htr : e.platform.stackTraces = false := (show e.platform.stackTraces = l.stackTraces by rw [X.admits.platform]).trans hl
  have Y := vx_rebase X (R' := { frames := R.frames, locals := R.locals, cells := 1, slots := 6 }) (Nat.le_refl _) (Nat.le_refl _) hRcells hRslots
  obtain ⟨s', hA⟩ : ∃ z, z = (T.setVm s.vm).setFrames (.invoking m args :: below) := ⟨_, rfl⟩
  rw [← hA] at Y
  have hvm : s'.vm = s.vm := by rw [hA]; rfl
  have hhp : s'.heap = H := by rw [hA]; exact hT
  have hW0 : s.WarmedH s'.vm := by rw [hvm]; exact State.WarmedH.refl s
  have hat' : ∀ w ∈ vx_at0 own ic cls names, w.before args s' = true := fun w hw => vx_ot_at hW0 hvm.symm (hgood w (List.mem_cons_of_mem _ (List.mem_cons_of_mem _ hw))) (hat w hw)
  have hk' : (Cond.classLink own ik cls).before args s' = true := vx_ot_at hW0 hvm.symm (hgood _ List.mem_cons_self) hk
  have hini' : (Cond.initialized cls).before args s' = true := vx_ot_at hW0 hvm.symm (hgood _ (List.mem_cons_of_mem _ List.mem_cons_self)) hini
  have hU' : vx_Zq Bundle.tN "UNASSIGNED_STACK" Bundle.steD A s' s'.heap := by rw [hhp]; exact vx_Zq.moved hW0.alike (hU.kept hS.2.1)
  have hN' : vx_Zq Bundle.tN "SUPPRESSED_SENTINEL" Bundle.listD A s' s'.heap := by rw [hhp]; exact vx_Zq.moved hW0.alike (hN.kept hS.2.1)
  have h : ∀ w ∈ Bundle.ownAtoms0 own ic cls names, w.before args s' = true := vx_own hat' (vx_isRefq hU'.1) (vx_isRefq hN'.1) hU'.2.word hN'.2.word
  have hown' : s'.vm.findClass own = some m.cls := by rw [hvm]; exact hown
  have hins : (Cond.instantiable cls 6).before args s' = true := h _ (by simp [Bundle.ownAtoms0])
  obtain ⟨vm₁, cX, kX, hfX, hkX, -, -, X₁, st1⟩ := Y.newCold hexec (own := own) (C := cls) (index := ik) (n := 6) hown' hk' hins hini'
    (g := F0 m pc ls rest) rfl (by rw [hb]; exact d0) (Nat.le_refl _) (Nat.le_refl _)
  generalize hT1 : (T.setVm vm₁).pushCell { cls := cX, slots := kX.instanceTypes.map defaultValue, vm := .none } = T1 at X₁ st1
  have hcat : (Value.ref T.heap.size).category = 1 := rfl
  have hcellA : T1.heap[T.heap.size]? = some (freshCell cX kX) := by rw [← hT1]; exact State.heap_pushCell_size _ _
  have d3' : decode c.code (pc + 3) = .ok (.dup, 1) := by rw [hb]; exact d3
  obtain ⟨U, hsteps, hrun, hend, hW, hsame, ce, hce, hO⟩ := X₁.ctorThrow0 hexec htr (own := own) (cls := cls) (names := names) (ic := ic) hown' hcls hnames h (fun x hx => nomatch hx) hfX hkX hcellA (by rw [hhp, hT]; exact Nat.le_refl _)
    (g := { method := m, pc := pc + 4, locals := ls, stack := .ref T.heap.size :: .ref T.heap.size :: rest, locked := none }) rfl hsize rfl rfl (rest := rest) rfl
    (by rw [hb]; exact d4) (by rw [hb]; exact d7) hout hRframes (by simp only [List.map_cons, List.sum_cons, hcat]; omega) hlocks
  obtain ⟨f1, f2⟩ := vx_frame hsame
  rw [hhp] at f1 f2
  have hWs : s.WarmedH U.vm := State.WarmedH.trans hW0 hW
  have hcl : s.vm.findClass cls = some ce.cls := by
    have h9 := hO.cls
    rw [hvm] at h9
    exact h9
  have hall : s.sameButNew ({ U with vm := s.vm } : State) locs mc ms := by
    subst hA
    obtain ⟨e1, e2⟩ := hsame
    rw [State.setFrames_setFrames] at e1
    have h2 : (T.setVm s.vm).sameButNew ({ U with vm := s.vm } : State) [] (0 + 1) (0 + 6) := ⟨e1, e2⟩
    have h3 := X.same.trans h2
    rw [List.append_nil] at h3
    exact h3.mono hc hs
  refine ⟨U, ?_, .threw T.heap.size, hrun, hend, Or.inr ⟨T.heap.size, rfl, cls, ce, locs, hx U hWs.alike f1 (fun q hq => f2 q hq (fun z hz => nomatch hz)), hce, hO.vm, hcl, hWs, hall, hf⟩⟩
  refine st1 _ ?_
  show Steps p.tables e below (T1.setTop { method := m, pc := pc + 3, locals := ls, stack := .ref T.heap.size :: rest, locked := none }) _
  jvm_step X₁.here [X₁.here.top, hexec, d3', Value.category]
  exact hsteps
/-- 'throw new E("text")': new; dup; ldc; invokespecial; athrow -/
theorem vx_throwS {cc : ByteArray} {pc : Nat} (hexec : p.tables.exec = Jvm.exec) (hb : c.code = cc) (hl : l.stackTraces = false) {own cls text : String} {names : List String} {ik is ic mc ms sa : Nat} {A : Nat → Prop}
    (hown : s.vm.findClass own = some m.cls) (hcls : Bundle.fit cls = true) (hnames : ∀ n ∈ names, Bundle.fit n = true)
    (hk : (Cond.classLink own ik cls).before args s = true) (hini : (Cond.initialized cls).before args s = true) (hstr : vk_R own is text sa s) (hat : ∀ w ∈ vx_atS own ic cls names, w.before args s = true)
    (hgood : ∀ w ∈ Cond.classLink own ik cls :: Cond.initialized cls :: vx_atS own ic cls names, vx_ot w = true)
    (hU : vx_Zq Bundle.tN "UNASSIGNED_STACK" Bundle.steD A s s.heap) (hN : vx_Zq Bundle.tN "SUPPRESSED_SENTINEL" Bundle.listD A s s.heap) (hS : va_S A s.heap H locs) (hsize : ls.size = c.maxLocals)
    (d0 : decode cc pc = .ok (.new ik, 3)) (d3 : decode cc (pc + 3) = .ok (.dup, 1)) (d4 : decode cc (pc + 4) = .ok (.ldc is, 2)) (d6 : decode cc (pc + 6) = .ok (.invokespecial ic, 3)) (d9 : decode cc (pc + 9) = .ok (.athrow, 1))
    (hout : ∀ x ∈ c.exceptionTable.toList, covers x (pc + 9) = false)
    (hRframes : names.length + 3 < R.frames) (hRlocals : (rest.map fun v => v.category).sum + (13 * (names.length + 1) + 43) ≤ R.locals) (hRcells : cells + 1 ≤ R.cells) (hRslots : slots + 6 ≤ R.slots) (hlocks : meth.locks = false)
    (hx : ∀ t : State, s.vm.Alike t.vm → H.size ≤ t.heap.size → (∀ q : Nat, q < H.size → t.heap[q]? = H[q]?) → XC cls s t)
    (hf : ∀ z ∈ locs, free z.base) (hc : cells + 1 ≤ mc) (hs : slots + 6 ≤ ms) :
    W p l e R s m args below meth c H locs cells slots (vx_MQ below Qc XC args s mc ms free) (F0 m pc ls rest) := by
  intro T hT X
  have htr : e.platform.stackTraces = false := (show e.platform.stackTraces = l.stackTraces by rw [X.admits.platform]).trans hl
  have Y := vx_rebase X (R' := { frames := R.frames, locals := R.locals, cells := 1, slots := 6 }) (Nat.le_refl _) (Nat.le_refl _) hRcells hRslots
  obtain ⟨s', hA⟩ : ∃ z, z = (T.setVm s.vm).setFrames (.invoking m args :: below) := ⟨_, rfl⟩
  rw [← hA] at Y
  have hvm : s'.vm = s.vm := by rw [hA]; rfl
  have hhp : s'.heap = H := by rw [hA]; exact hT
  have hW0 : s.WarmedH s'.vm := by rw [hvm]; exact State.WarmedH.refl s
  have hat' : ∀ w ∈ vx_atS own ic cls names, w.before args s' = true := fun w hw => vx_ot_at hW0 hvm.symm (hgood w (List.mem_cons_of_mem _ (List.mem_cons_of_mem _ hw))) (hat w hw)
  have hk' : (Cond.classLink own ik cls).before args s' = true := vx_ot_at hW0 hvm.symm (hgood _ List.mem_cons_self) hk
  have hini' : (Cond.initialized cls).before args s' = true := vx_ot_at hW0 hvm.symm (hgood _ (List.mem_cons_of_mem _ List.mem_cons_self)) hini
  have hU' : vx_Zq Bundle.tN "UNASSIGNED_STACK" Bundle.steD A s' s'.heap := by rw [hhp]; exact vx_Zq.moved hW0.alike (hU.kept hS.2.1)
  have hN' : vx_Zq Bundle.tN "SUPPRESSED_SENTINEL" Bundle.listD A s' s'.heap := by rw [hhp]; exact vx_Zq.moved hW0.alike (hN.kept hS.2.1)
  have h : ∀ w ∈ Bundle.ownAtoms own ic cls names, w.before args s' = true := vx_own hat' (vx_isRefq hU'.1) (vx_isRefq hN'.1) hU'.2.word hN'.2.word
  have hown' : s'.vm.findClass own = some m.cls := by rw [hvm]; exact hown
  have hins : (Cond.instantiable cls 6).before args s' = true := h _ (by simp [Bundle.ownAtoms])
  obtain ⟨vm₁, cX, kX, hfX, hkX, -, -, X₁, st1⟩ := Y.newCold hexec (own := own) (C := cls) (index := ik) (n := 6) hown' hk' hins hini'
    (g := F0 m pc ls rest) rfl (by rw [hb]; exact d0) (Nat.le_refl _) (Nat.le_refl _)
  generalize hT1 : (T.setVm vm₁).pushCell { cls := cX, slots := kX.instanceTypes.map defaultValue, vm := .none } = T1 at X₁ st1
  have hcat : (Value.ref T.heap.size).category = 1 := rfl
  have hcellA : T1.heap[T.heap.size]? = some (freshCell cX kX) := by rw [← hT1]; exact State.heap_pushCell_size _ _
  have d3' : decode c.code (pc + 3) = .ok (.dup, 1) := by rw [hb]; exact d3
  have d4' : decode c.code (pc + 4) = .ok (.ldc is, 2) := by rw [hb]; exact d4
  have hstr' : vk_R own is text sa s' := vk_R.warm hW0 hstr
  obtain ⟨U, hsteps, hrun, hend, hW, hsame, ce, hce, hO⟩ := X₁.ctorThrowS hexec htr (own := own) (cls := cls) (names := names) (ic := ic) hown' hcls hnames h (fun x hx => nomatch hx) hfX hkX hcellA (by rw [hhp, hT]; exact Nat.le_refl _) (msg := .ref sa) rfl
    (g := { method := m, pc := pc + 6, locals := ls, stack := .ref sa :: .ref T.heap.size :: .ref T.heap.size :: rest, locked := none }) rfl hsize rfl rfl (rest := rest) rfl
    (by rw [hb]; exact d6) (by rw [hb]; exact d9) hout hRframes (by simp only [List.map_cons, List.sum_cons, hcat]; omega) hlocks
  obtain ⟨f1, f2⟩ := vx_frame hsame
  rw [hhp] at f1 f2
  have hWs : s.WarmedH U.vm := State.WarmedH.trans hW0 hW
  have hcl : s.vm.findClass cls = some ce.cls := by
    have h9 := hO.cls
    rw [hvm] at h9
    exact h9
  have hall : s.sameButNew ({ U with vm := s.vm } : State) locs mc ms := by
    subst hA
    obtain ⟨e1, e2⟩ := hsame
    rw [State.setFrames_setFrames] at e1
    have h2 : (T.setVm s.vm).sameButNew ({ U with vm := s.vm } : State) [] (0 + 1) (0 + 6) := ⟨e1, e2⟩
    have h3 := X.same.trans h2
    rw [List.append_nil] at h3
    exact h3.mono hc hs
  refine ⟨U, ?_, .threw T.heap.size, hrun, hend, Or.inr ⟨T.heap.size, rfl, cls, ce, locs, hx U hWs.alike f1 (fun q hq => f2 q hq (fun z hz => nomatch hz)), hce, hO.vm, hcl, hWs, hall, hf⟩⟩
  refine st1 _ ?_
  show Steps p.tables e below (T1.setTop { method := m, pc := pc + 3, locals := ls, stack := .ref T.heap.size :: rest, locked := none }) _
  jvm_step X₁.here [X₁.here.top, hexec, d3', Value.category]
  exact X₁.ldcString hexec (own := own) (text := text) (index := is) (a := sa) hown' hstr'.1 hstr'.2
    (g := { method := m, pc := pc + 4, locals := ls, stack := .ref T.heap.size :: .ref T.heap.size :: rest, locked := none }) rfl d4' _ hsteps
/-- 'throw new E("text")', the text by a wide index -/
theorem vx_throwSW {cc : ByteArray} {pc : Nat} (hexec : p.tables.exec = Jvm.exec) (hb : c.code = cc) (hl : l.stackTraces = false) {own cls text : String} {names : List String} {ik is ic mc ms sa : Nat} {A : Nat → Prop}
    (hown : s.vm.findClass own = some m.cls) (hcls : Bundle.fit cls = true) (hnames : ∀ n ∈ names, Bundle.fit n = true)
    (hk : (Cond.classLink own ik cls).before args s = true) (hini : (Cond.initialized cls).before args s = true) (hstr : vk_R own is text sa s) (hat : ∀ w ∈ vx_atS own ic cls names, w.before args s = true)
    (hgood : ∀ w ∈ Cond.classLink own ik cls :: Cond.initialized cls :: vx_atS own ic cls names, vx_ot w = true)
    (hU : vx_Zq Bundle.tN "UNASSIGNED_STACK" Bundle.steD A s s.heap) (hN : vx_Zq Bundle.tN "SUPPRESSED_SENTINEL" Bundle.listD A s s.heap) (hS : va_S A s.heap H locs) (hsize : ls.size = c.maxLocals)
    (d0 : decode cc pc = .ok (.new ik, 3)) (d3 : decode cc (pc + 3) = .ok (.dup, 1)) (d4 : decode cc (pc + 4) = .ok (.ldc_w is, 3)) (d7 : decode cc (pc + 7) = .ok (.invokespecial ic, 3)) (d10 : decode cc (pc + 10) = .ok (.athrow, 1))
    (hout : ∀ x ∈ c.exceptionTable.toList, covers x (pc + 10) = false)
    (hRframes : names.length + 3 < R.frames) (hRlocals : (rest.map fun v => v.category).sum + (13 * (names.length + 1) + 43) ≤ R.locals) (hRcells : cells + 1 ≤ R.cells) (hRslots : slots + 6 ≤ R.slots) (hlocks : meth.locks = false)
    (hx : ∀ t : State, s.vm.Alike t.vm → H.size ≤ t.heap.size → (∀ q : Nat, q < H.size → t.heap[q]? = H[q]?) → XC cls s t)
    (hf : ∀ z ∈ locs, free z.base) (hc : cells + 1 ≤ mc) (hs : slots + 6 ≤ ms) :
    W p l e R s m args below meth c H locs cells slots (vx_MQ below Qc XC args s mc ms free) (F0 m pc ls rest) := by
  intro T hT X
  have htr : e.platform.stackTraces = false := (show e.platform.stackTraces = l.stackTraces by rw [X.admits.platform]).trans hl
  have Y := vx_rebase X (R' := { frames := R.frames, locals := R.locals, cells := 1, slots := 6 }) (Nat.le_refl _) (Nat.le_refl _) hRcells hRslots
  obtain ⟨s', hA⟩ : ∃ z, z = (T.setVm s.vm).setFrames (.invoking m args :: below) := ⟨_, rfl⟩
  rw [← hA] at Y
  have hvm : s'.vm = s.vm := by rw [hA]; rfl
  have hhp : s'.heap = H := by rw [hA]; exact hT
  have hW0 : s.WarmedH s'.vm := by rw [hvm]; exact State.WarmedH.refl s
  have hat' : ∀ w ∈ vx_atS own ic cls names, w.before args s' = true := fun w hw => vx_ot_at hW0 hvm.symm (hgood w (List.mem_cons_of_mem _ (List.mem_cons_of_mem _ hw))) (hat w hw)
  have hk' : (Cond.classLink own ik cls).before args s' = true := vx_ot_at hW0 hvm.symm (hgood _ List.mem_cons_self) hk
  have hini' : (Cond.initialized cls).before args s' = true := vx_ot_at hW0 hvm.symm (hgood _ (List.mem_cons_of_mem _ List.mem_cons_self)) hini
  have hU' : vx_Zq Bundle.tN "UNASSIGNED_STACK" Bundle.steD A s' s'.heap := by rw [hhp]; exact vx_Zq.moved hW0.alike (hU.kept hS.2.1)
  have hN' : vx_Zq Bundle.tN "SUPPRESSED_SENTINEL" Bundle.listD A s' s'.heap := by rw [hhp]; exact vx_Zq.moved hW0.alike (hN.kept hS.2.1)
  have h : ∀ w ∈ Bundle.ownAtoms own ic cls names, w.before args s' = true := vx_own hat' (vx_isRefq hU'.1) (vx_isRefq hN'.1) hU'.2.word hN'.2.word
  have hown' : s'.vm.findClass own = some m.cls := by rw [hvm]; exact hown
  have hins : (Cond.instantiable cls 6).before args s' = true := h _ (by simp [Bundle.ownAtoms])
  obtain ⟨vm₁, cX, kX, hfX, hkX, -, -, X₁, st1⟩ := Y.newCold hexec (own := own) (C := cls) (index := ik) (n := 6) hown' hk' hins hini'
    (g := F0 m pc ls rest) rfl (by rw [hb]; exact d0) (Nat.le_refl _) (Nat.le_refl _)
  generalize hT1 : (T.setVm vm₁).pushCell { cls := cX, slots := kX.instanceTypes.map defaultValue, vm := .none } = T1 at X₁ st1
  have hcat : (Value.ref T.heap.size).category = 1 := rfl
  have hcellA : T1.heap[T.heap.size]? = some (freshCell cX kX) := by rw [← hT1]; exact State.heap_pushCell_size _ _
  have d3' : decode c.code (pc + 3) = .ok (.dup, 1) := by rw [hb]; exact d3
  have d4' : decode c.code (pc + 4) = .ok (.ldc_w is, 3) := by rw [hb]; exact d4
  have hstr' : vk_R own is text sa s' := vk_R.warm hW0 hstr
  obtain ⟨U, hsteps, hrun, hend, hW, hsame, ce, hce, hO⟩ := X₁.ctorThrowS hexec htr (own := own) (cls := cls) (names := names) (ic := ic) hown' hcls hnames h (fun x hx => nomatch hx) hfX hkX hcellA (by rw [hhp, hT]; exact Nat.le_refl _) (msg := .ref sa) rfl
    (g := { method := m, pc := pc + 7, locals := ls, stack := .ref sa :: .ref T.heap.size :: .ref T.heap.size :: rest, locked := none }) rfl hsize rfl rfl (rest := rest) rfl
    (by rw [hb]; exact d7) (by rw [hb]; exact d10) hout hRframes (by simp only [List.map_cons, List.sum_cons, hcat]; omega) hlocks
  obtain ⟨f1, f2⟩ := vx_frame hsame
  rw [hhp] at f1 f2
  have hWs : s.WarmedH U.vm := State.WarmedH.trans hW0 hW
  have hcl : s.vm.findClass cls = some ce.cls := by
    have h9 := hO.cls
    rw [hvm] at h9
    exact h9
  have hall : s.sameButNew ({ U with vm := s.vm } : State) locs mc ms := by
    subst hA
    obtain ⟨e1, e2⟩ := hsame
    rw [State.setFrames_setFrames] at e1
    have h2 : (T.setVm s.vm).sameButNew ({ U with vm := s.vm } : State) [] (0 + 1) (0 + 6) := ⟨e1, e2⟩
    have h3 := X.same.trans h2
    rw [List.append_nil] at h3
    exact h3.mono hc hs
  refine ⟨U, ?_, .threw T.heap.size, hrun, hend, Or.inr ⟨T.heap.size, rfl, cls, ce, locs, hx U hWs.alike f1 (fun q hq => f2 q hq (fun z hz => nomatch hz)), hce, hO.vm, hcl, hWs, hall, hf⟩⟩
  refine st1 _ ?_
  show Steps p.tables e below (T1.setTop { method := m, pc := pc + 3, locals := ls, stack := .ref T.heap.size :: rest, locked := none }) _
  jvm_step X₁.here [X₁.here.top, hexec, d3', Value.category]
  exact X₁.ldcStringW hexec (own := own) (text := text) (index := is) (a := sa) hown' hstr'.1 hstr'.2
    (g := { method := m, pc := pc + 4, locals := ls, stack := .ref T.heap.size :: .ref T.heap.size :: rest, locked := none }) rfl d4' _ hsteps
end Ends
section Bodies
variable {l : Launch}
theorem vx_ofW {y : MethodName} {ws ws' : List Cond} {rm : Room} {Pc : Array Value → State → Prop} {Qc : Array Value → State → Outcome → State → Prop} {XC : String → State → State → Prop} {mc ms : Nat} {free : Addr → Prop} {cc : ByteArray} {maxL : Nat} {ret : Option FieldType}
    (hy : plainName y.cls = true) (hw : ws = Cond.code y cc maxL ret :: ws')
    (body : ∀ p e s m args below meth c s₁, BodyLoose p l y (headSpec ws rm) cc maxL ret e s m args below meth c s₁ → c.maxLocals = maxL → (∀ x ∈ c.exceptionTable.toList, False) → Pc args s →
      W p l e (headSpec ws rm).room s m args below meth c s.heap [] 0 0 (vx_MQ below Qc XC args s mc ms free) (entryFrame m args maxL)) : vx_Met l y ws rm Pc Qc XC mc ms free := by
  refine MetFree.of_bodyS (code := cc) (maxLocals := maxL) (ret := ret) hy ?_ ?_
  · intro args s m h hn
    obtain ⟨meth, c, h1, h2, h3, h4, h5, h6, -, -⟩ := Cond.code_spec hn (atoms_spec (ws := ws) h _ (by rw [hw]; exact List.mem_cons_self))
    exact ⟨meth, c, h1, h2, h3, h4, h5, h6⟩
  · intro p e s m args below meth c s₁ B hml hP _
    have hh0 : s₁.heap = s.heap := by rw [B.state]; rfl
    have ht : ∀ x ∈ c.exceptionTable.toList, False := by
      obtain ⟨meth9, c9, h1, h2, -, -, -, -, h7, -⟩ := Cond.code_spec B.named (atoms_spec (ws := ws) B.pre _ (by rw [hw]; exact List.mem_cons_self))
      cases Option.some.inj (h1.symm.trans B.method)
      cases Option.some.inj (h2.symm.trans (Stand.of_body B).code)
      intro x hx
      rw [Array.isEmpty_iff.mp h7] at hx
      cases hx
    obtain ⟨t, a1, o, b1, b2, b3⟩ := body p e s m args below meth c s₁ B hml ht hP s₁ hh0 (Stand.of_body B)
    exact ⟨t, o, a1, b1, b2, b3⟩
/-- the table of a body with handlers -/
theorem vx_table {p : Program} {x y : MethodName} {S : Spec} {cc bytes : ByteArray} {maxL maxL' : Nat} {ret ret' : Option FieldType} {e : Env} {s s₁ : State} {m : MethodId} {args : Array Value} {below : List Frame} {meth : Method} {c : Code} {hh : List (Nat × Nat × Nat × Nat)}
    (B : BodyLoose p l y S cc maxL ret e s m args below meth c s₁) (h : (Cond.codeWith y bytes maxL' ret' hh).before args s = true) : c.exceptionTable.toList = tableOf hh := by
  obtain ⟨m9, meth9, c9, hn9, h1, h2, -, -, h6, -⟩ := Cond.codeWith_spec h
  cases Option.some.inj (hn9.symm.trans B.named)
  cases Option.some.inj (h1.symm.trans B.method)
  cases Option.some.inj (h2.symm.trans (Stand.of_body B).code)
  rw [← h6, table_eq]
end Bodies
end VXA
/-! ===== END ===== -/
/-! ===== BEGIN a static call of a method with an exception table ===== -/
section VXS
variable {p : Program} {l : Launch} {e : Env} {R : Room} {s : State} {m : MethodId} {args : Array Value} {below : List Frame} {meth : Method} {c : Code} {T : State} {H : Heap} {locs : List Loc} {cells slots : Nat}
abbrev vx_CSW (R : Room) (s : State) (args : Array Value) (own : String) (index : Nat) (y : MethodName) (bytes : ByteArray) (maxL : Nat) (ret : Option FieldType) (hh : List (Nat × Nat × Nat × Nat)) (ws : List Cond) (rm : Room) (mc ms n : Nat) : Prop :=
  (rm.cells = mc ∧ rm.slots = ms ∧ rm.frames + 1 ≤ R.frames ∧ 8 + (maxL + 11) + rm.locals ≤ R.locals ∧ (∀ w ∈ ws, ∀ (a' : Array Value) (U : State), s.WarmedH U.vm → w.before a' U = true) ∧ Cond.codeWith y bytes maxL ret hh ∈ ws) ∧
  (Cond.codeWith y bytes maxL ret hh).before args s = true ∧ (Cond.initialized y.cls).before args s = true ∧ (y.cls ≠ "java/lang/invoke/MethodHandle" ∧ y.cls ≠ "java/lang/invoke/VarHandle") ∧
  (∀ sig, parseMethodDescriptor y.desc = some sig → n = sig.parameters.length) ∧ (Cond.methodLink own index y).before args s = true ∧ (Cond.static y).before args s = true
theorem vx_cwSW {own : String} {index maxL mc ms : Nat} {y : MethodName} {bytes : ByteArray} {ret : Option FieldType} {hh : List (Nat × Nat × Nat × Nat)} {Ts ws ws' : List Cond} {rm : Room} (n : Nat) (ht : ∀ w ∈ Ts, w.before args s = true) (hT : GoodIn Ts (va_wsS own index y ws)) (hw : ws = Cond.codeWith y bytes maxL ret hh :: ws') (hrc : rm.cells = mc) (hrs : rm.slots = ms)
    (hd : y.cls ≠ "java/lang/invoke/MethodHandle" ∧ y.cls ≠ "java/lang/invoke/VarHandle" ∧ (parseMethodDescriptor y.desc).map (fun d => d.parameters.length) = some n) (hR : rm.frames + 1 ≤ R.frames ∧ 8 + (maxL + 11) + rm.locals ≤ R.locals) :
    vx_CSW R s args own index y bytes maxL ret hh ws rm mc ms n := by
  have ok : ∀ w ∈ va_wsS own index y ws, w.before args s = true := fun w h => ht w (hT w h).1
  have hG : GoodIn Ts ws := fun w h => hT w (by unfold va_wsS; exact List.mem_append_right _ h)
  have hc : Cond.codeWith y bytes maxL ret hh ∈ ws := by rw [hw]; exact List.mem_cons_self
  refine ⟨⟨hrc, hrs, hR.1, hR.2, pay_in ht hG, hc⟩, ht _ (hG _ hc).1, ok _ (by simp [va_wsS]), ⟨hd.1, hd.2.1⟩, fun sig h => ?_, ok _ (by simp [va_wsS]), ok _ (by simp [va_wsS])⟩
  have h2 := hd.2.2
  rw [h] at h2
  exact (Option.some.inj h2).symm
theorem vx_callSW (X : Stand p l e R s m args below meth c T locs cells slots) (hexec : p.tables.exec = Jvm.exec) {own : String} {index : Nat} {y : MethodName} {bytes : ByteArray} {maxL : Nat} {ret : Option FieldType} {hh : List (Nat × Nat × Nat × Nat)}
    (hown : s.vm.findClass own = some m.cls) (hlink : (Cond.methodLink own index y).before args s = true) (hstat : (Cond.static y).before args s = true) (hinit : (Cond.initialized y.cls).before args s = true)
    (hcode : (Cond.codeWith y bytes maxL ret hh).before args s = true) (hy : y.cls ≠ "java/lang/invoke/MethodHandle" ∧ y.cls ≠ "java/lang/invoke/VarHandle")
    {W9 : Nat} {Pre : Pt → Array Value → Prop} {Post : Pt → Array Value → Option Value → Pt → Prop} (hK : Back l R p e below s args y 3 W9 Pre Post)
    {g : JFrame} (hg : g.method = m) (hsize : g.locals.size = c.maxLocals) {argsL rest : List Value} (hlen : ∀ sig, parseMethodDescriptor y.desc = some sig → argsL.length = sig.parameters.length)
    (hstack : g.stack = argsL.reverse ++ rest) (hW : 2 * g.monitorRoom + (rest.map fun v => v.category).sum ≤ W9) (hdg : decode c.code g.pc = .ok (.invokestatic index, 3))
    (hpre : ∀ vm₁, s.WarmedH vm₁ → Pre ⟨T.setVm vm₁, locs, cells, slots⟩ argsL.toArray) :
    ∃ (v : Option Value) (vm₁ : Vm) (B : Pt), s.WarmedH vm₁ ∧ Stand p l e R s m args below meth c B.U B.locs B.cells B.slots ∧ Post ⟨T.setVm vm₁, locs, cells, slots⟩ argsL.toArray v B ∧
      ∀ target, Steps p.tables e below (B.U.setTop { g with pc := g.pc + 3, stack := v.toList ++ rest }) target → Steps p.tables e below (T.setTop g) target := by
  obtain ⟨mk, methM, cM, hnamed, hmethM, -, -, -, -, -, -, hsigM⟩ := Cond.codeWith_spec hcode
  have hstatic : methM.isStatic = true := Cond.static_spec hnamed hmethM hstat
  obtain ⟨kP, hkP, -⟩ := className_of_methodNamed hnamed
  have hinitP : kP.init = .initialized := Cond.initialized_spec (findClass_of_methodNamed hnamed) hkP hinit
  obtain ⟨vm₁, X₁, hstep₁⟩ := X.invokestatic hexec hown hlink hnamed hmethM hstatic hkP hinitP hy (g := g) hg (argsL := argsL) (rest := rest) (hlen _ hsigM) hstack hdg
  obtain ⟨v, B, X', hpost, hsteps⟩ := hK m meth c ⟨T.setVm vm₁, locs, cells, slots⟩ { g with stack := rest } (.invokestatic index) mk argsL.toArray X₁ hg hsize hdg hW (X₁.named hnamed) (hpre vm₁ X₁.warmed)
  exact ⟨v, vm₁, B, X₁.warmed, X', hpost, fun target h => hstep₁ _ fun acts => by rw [doInvoke_state]; exact hsteps.trans h⟩
theorem vx_runSW {y : MethodName} {bytes cc : ByteArray} {maxL nL mc ms n index : Nat} {ret : Option FieldType} {hh : List (Nat × Nat × Nat × Nat)} {ws : List Cond} {rm : Room} {Pc : Array Value → State → Prop} {Qc : Array Value → State → Outcome → State → Prop} {free : Addr → Prop} {Ts : List Cond} {own : String} {As rest : List Value} {g : JFrame}
    (S : CallFix p m c cc nL s args Ts own) (hM : Met l y ws rm Pc Qc mc ms free) (cw : vx_CSW R s args own index y bytes maxL ret hh ws rm mc ms n) (hp : PreS s H Pc As)
    (hg : g.method = m) (hn : As.length = n) (hsize : g.locals.size = nL) (hstack : g.stack = As.reverse ++ rest) (hW : 2 * g.monitorRoom + (rest.map fun v => v.category).sum ≤ 8) (hdg : decode cc g.pc = .ok (.invokestatic index, 3)) (hf : cells + mc ≤ R.cells ∧ slots + ms ≤ R.slots) :
    va_Run p l e R s m args below meth c H locs cells slots mc ms g rest (Qc As.toArray) (free) := by
  obtain ⟨⟨hrc, hrs, hfr, hlo, hws, hcw⟩, hcode, hini, hy, hlen, hl, hstt⟩ := cw
  have hK : Back l R p e below s args y 3 8 (PreOf R mc ms Pc) (PostOf Qc mc ms free) := va_backW (hh := hh) (bytes := bytes) (maxL := maxL) (ret := ret) hM hp.1 hrc hrs hfr hlo hws hcw (fun a' U hW => word_at hW (Or.inl (by first | rfl | simp [Cond.onTables, Cond.keeps, Cond.steady])) hini)
  obtain ⟨hx, hb, hml, ho, -⟩ := S
  intro T hT X
  obtain ⟨v, vm₁, ⟨U', l2, c2, s2⟩, hW₁, X', ⟨g', mk, t, L, e1, e2, hq, h1, hL, h2, h3⟩, st⟩ := vx_callSW X hx (hh := hh) (bytes := bytes) (maxL := maxL) (ret := ret) ho hl hstt hini hcode hy hK hg (hsize.trans hml.symm) (argsL := As) (rest := rest) (fun sig h => hn.trans (hlen sig h)) hstack hW (by rw [hb]; exact hdg)
    (fun vm₁ hW₁ => ⟨hf.1, hf.2, hp.2 (T.setVm vm₁) hT hW₁⟩)
  dsimp only [Pt.U, Pt.locs, Pt.cells, Pt.slots] at X' e1 e2 h1 h2 h3 st
  subst h1; subst h2; subst h3
  exact ⟨v, (T.setVm vm₁).calling g' mk As.toArray, t, U', L, hT, X', hL, e1, e2, hq, st⟩
/-- not caught here, past rows that name other classes: it goes on to the caller -/
theorem vx_outP {p : Program} {l : Launch} {e : Env} {R : Room} {s : State} {m : MethodId} {args : Array Value} {below : List Frame} {meth : Method} {c : Code} {H : Heap} {locs : List Loc} {cells slots : Nat} {free : Addr → Prop} {ls : Array Slot} {rest : List Value} {Qc : Array Value → State → Outcome → State → Prop} {XC : String → State → State → Prop}
    {pc : Nat} {own E : String} {ce : Cell} {q : Addr} {mc ms : Nat} (hown : s.vm.findClass own = some m.cls) (hlocks : meth.locks = false)
    (hpass : ∀ z ∈ c.exceptionTable.toList, covers z pc = false ∨ (z.catchType ≠ 0 ∧ ∃ nm : String, (Cond.classLink own z.catchType nm).before args s = true ∧ va_Nc E nm s)) (hcell : H[q]? = some ce) (hv : ce.vm = .none) (hcl : s.vm.findClass E = some ce.cls)
    (hx : ∀ t : State, t.heap = H → s.vm.Alike t.vm → XC E s t) (hf : ∀ z ∈ locs, free z.base) (hc : cells ≤ mc) (hs : slots ≤ ms) :
    vx_W p l e R s m args below meth c H locs cells slots (vx_MQ below Qc XC args s mc ms free) (F0 m pc ls rest) q := by
  intro T hT X
  have hpl : e.platform.magicAccessors = ({} : Platform).magicAccessors := by rw [X.admits.platform]
  obtain ⟨vm', hW', X', st⟩ := X.outThrough hlocks q (g := F0 m pc ls rest) rfl rfl rfl (cell := ce) (by rw [hT]; exact hcell) (by rw [hv]; rfl)
    (by obtain ⟨k9, h9, -⟩ := Vm.findClass_spec hcl; exact ⟨k9, h9⟩) (fun z hz => by
      rcases hpass z hz with h | ⟨hz0, nm, hl1, hn1⟩
      · exact Or.inl h
      · obtain ⟨c6, hc6, hcl6⟩ := Cond.classLink_spec hown hl1 e.platform hpl
        obtain ⟨a8, b8, h1, h2, h3⟩ := hn1
        cases Option.some.inj (h1.symm.trans hcl)
        cases Option.some.inj (h2.symm.trans hc6)
        exact Or.inr ⟨hz0, _, hcl6, h3⟩)
  obtain ⟨g₀, hfr⟩ := X'.frames_eq
  have hcell9 : ((T.setVm vm').setFrames (.throwing q :: below)).heap[q]? = some ce := by
    show T.heap[q]? = some ce
    rw [hT]; exact hcell
  have hend : Ended ((T.setVm vm').setFrames (.throwing q :: below)) below (.threw q) := State.frames_setFrames _ (State.cur_lt_of_frames hfr)
  refine ⟨(T.setVm vm').setFrames (.throwing q :: below), ?_, .threw q, X'.here.running, hend, Or.inr ⟨q, rfl, E, ce, locs, hx _ hT (X'.ends _).1.alike, hcell9, hv, hcl, (X'.ends _).1, (X'.ends _).2.mono hc hs, hf⟩⟩
  rw [X.pushThrowing_eq]
  exact st
/-- a thing of a world lies in the heap -/
theorem vx_lt {D : va_G} {cl : List vw_C} {ws : va_W} {H1 : Heap} (h : va_P D cl ws H1) {k : Nat} {q : Nat × va_E} (hk : ws[k]? = some q) : q.1 < H1.size := (h k q hk).lt
end VXS
/-! ===== END ===== -/
/-! ===== BEGIN methods with a table of their own: called by a name, returning or throwing ===== -/
section VXH
/-! vx_backW, vx_callVX, vx_callSX, vx_callVW, vx_runVW, vx_runVX, vx_runSX, vx_ofWH follow the same proofs as their sisters above (Free/Laws.lean, Shelf42/LK1.lean); vx_outP calls Shelf42/NT130.lean (outThrough). -/
section
variable {l : Launch} {R : Room} {p : Program} {e : Env} {below : List Frame} {s : State} {sargs : Array Value} {y : MethodName} {len W9 : Nat}
theorem vx_backW {ws : List Cond} {rm : Room} {Pc : Array Value → State → Prop} {Qc : Array Value → State → Outcome → State → Prop} {XC : String → State → State → Prop} {mc ms : Nat} {free : Addr → Prop} {bytes : ByteArray} {maxL : Nat} {ret : Option FieldType} {hh : List (Nat × Nat × Nat × Nat)}
    (hM : vx_Met l y ws rm Pc Qc XC mc ms free) (hblind : FrameBlind Pc) (hrc : rm.cells = mc) (hrs : rm.slots = ms)
    (hframes : rm.frames + 1 ≤ R.frames) (hlocals : W9 + (maxL + 11) + rm.locals ≤ R.locals)
    (hws : ∀ w ∈ ws, ∀ a' U, s.WarmedH U.vm → w.before a' U = true) (hcode : Cond.codeWith y bytes maxL ret hh ∈ ws) (hinit : ∀ a' U, s.WarmedH U.vm → (Cond.initialized y.cls).before a' U = true) :
    vx_Back l R p e below s sargs y len W9 (PreOf R mc ms Pc) (PostOf Qc mc ms free) (vx_Post XC mc ms free) := by
  intro m meth c A g ig mk a X hg hsize hdg hW hn hp
  have h1 : (headSpec ws rm).pre.before a A.U = true := atoms_intro fun w hw => hws w hw _ _ X.warmed
  have h2 : (Cond.codeWith y bytes maxL ret hh).before a A.U = true := hws _ hcode _ _ X.warmed
  have h3 : (Cond.initialized y.cls).before a A.U = true := hinit _ _ X.warmed
  have h4 : A.cells + (headSpec ws rm).room.cells ≤ R.cells := by rw [show (headSpec ws rm).room.cells = mc from hrc]; exact hp.1
  have h5 : A.slots + (headSpec ws rm).room.slots ≤ R.slots := by rw [show (headSpec ws rm).room.slots = ms from hrs]; exact hp.2.1
  have hPc : Pc a (A.U.calling g mk a) := hblind _ _ _ _ hp.2.2
  obtain ⟨U, Ls, c0, s0⟩ := A
  dsimp only [Pt.U, Pt.locs, Pt.cells, Pt.slots] at h1 h2 h3 h4 h5 X hn hPc ⊢
  obtain ⟨m9, methY, cY, hn9, hmY, hcY, -, hlY, -⟩ := Cond.codeWith_spec h2
  cases Option.some.inj (hn9.symm.trans hn)
  obtain ⟨kY, hkY, -⟩ := className_of_methodNamed hn
  have hinitY : kY.init = .initialized := Cond.initialized_spec (findClass_of_methodNamed hn) hkY h3
  have h : At U g.method c below := by rw [hg]; exact X.here
  have hlocals9 : W9 + (maxL + 11) + (headSpec ws rm).room.locals ≤ R.locals := hlocals
  have happ : (headSpec ws rm).appliesLoose y e.platform (U.calling g mk a) = true :=
    Spec.appliesLoose_calling (g := g) h hdg hn hkY hinitY
      (X.room_calling (g := g) (R' := (headSpec ws rm).room) hsize hmY hcY hframes (by rw [hlY]; omega) h4 h5) h1
  obtain ⟨mid, hmid⟩ := h.above
  have hfr : (U.setTop g).frames = (.java g :: mid) ++ below := by rw [State.frames_setTop' g h.top, hmid]; rfl
  obtain ⟨o, s₂, hsteps, -, hend, hq⟩ := Steps.callFree hM p X.admits X.cas X.clock (acts := []) hfr happ hPc trivial
  have hq' : vx_Q Qc XC mc ms free a (U.calling g mk a) o s₂ := hq
  rw [State.frames_setTop' g h.top] at hend
  obtain ⟨g₀, hg0⟩ := Option.isSome_iff_exists.mp h.top
  obtain ⟨r, hr⟩ := State.topJava?_eq_some.mp hg0
  have hr' : (({ U with heap := s₂.heap, slotsUsed := s₂.slotsUsed } : State).setVm s₂.vm).frames = .java g₀ :: r := hr
  rcases hq' with ⟨hqc, L, hfe, hL⟩ | ⟨q, rfl, E, ce, L, hx, hce, hcv, hcl, hW₂, hsm, hL⟩
  · obtain ⟨⟨v, rfl⟩, hW₂, e2, q2, q3, q4, q5, q6⟩ := id hfe
    have e3 : s₂ = ({ (U.calling g mk a).setFrames s₂.frames with heap := s₂.heap, slotsUsed := s₂.slotsUsed } : State).setVm s₂.vm := by
      have : s₂ = ({ s₂ with vm := (U.calling g mk a).vm } : State).setVm s₂.vm := rfl
      rw [e2] at this
      exact this
    obtain ⟨c₂, i₂, len₂, hc₂, hd₂, hf₂⟩ := hend
    have hW' : U.WarmedH s₂.vm := hW₂
    have hcc : c₂ = c := by
      have h1 : s₂.code? g.method = U.code? g.method := by
        rw [State.code?_eq, State.code?_eq, hW'.alike.method?]
      exact Option.some.inj (hc₂.symm.trans (h1.trans h.code))
    subst hcc
    have hlen : len₂ = len := by rw [hdg] at hd₂; cases hd₂; rfl
    subst hlen
    have hs₂ : s₂ = (({ U with heap := s₂.heap, slotsUsed := s₂.slotsUsed } : State).setVm s₂.vm).setTop { g with pc := g.pc + len₂, stack := v.toList ++ g.stack } := by
      refine e3.trans ?_
      rw [hf₂, State.calling_eq h.top, State.setFrames_setFrames, State.setTop_of_frames _ hr', hr]
      rfl
    have hsame : U.sameButNew ({ U with heap := s₂.heap, slotsUsed := s₂.slotsUsed } : State) L mc ms := by
      refine ⟨?_, q2, q3, q4, q5, q6⟩
      obtain ⟨t, ht, -⟩ := State.frames_cons hr
      show ({ U with heap := s₂.heap, slotsUsed := s₂.slotsUsed } : State) = { U.setFrames U.frames with heap := s₂.heap, slotsUsed := s₂.slotsUsed }
      rw [State.setFrames_self ht]
    subst hg
    refine Or.inl ⟨v, ⟨(({ U with heap := s₂.heap, slotsUsed := s₂.slotsUsed } : State).setVm s₂.vm), Ls ++ L, c0 + mc, s0 + ms⟩,
      ⟨X.admits, X.cas, X.clock, X.frames, X.room, X.hears, X.method, X.code, (X.here.setHeapUsed s₂.heap s₂.slotsUsed).setVm hW'.alike, X.tail, State.WarmedH.trans X.warmed hW', X.limits, X.bytes, X.same.trans (hsame.setVm s.vm)⟩,
      ⟨g, mk, s₂, L, rfl, rfl, hqc, rfl, hL, rfl, rfl⟩, ?_⟩
    show Steps p.tables e below _ ((({ U with heap := s₂.heap, slotsUsed := s₂.slotsUsed } : State).setVm s₂.vm).setTop { g with pc := g.pc + len₂, stack := v.toList ++ g.stack })
    rw [← hs₂]
    exact hsteps
  · obtain ⟨e2, q2, q3, q4, q5, q6⟩ := id hsm
    have e3 : s₂ = ({ (U.calling g mk a).setFrames s₂.frames with heap := s₂.heap, slotsUsed := s₂.slotsUsed } : State).setVm s₂.vm := by
      have : s₂ = ({ s₂ with vm := (U.calling g mk a).vm } : State).setVm s₂.vm := rfl
      rw [e2] at this
      exact this
    have hf₂ : s₂.frames = .throwing q :: .java g :: U.frames.tail := hend
    have hW' : U.WarmedH s₂.vm := hW₂
    have hs₂ : s₂ = ((({ U with heap := s₂.heap, slotsUsed := s₂.slotsUsed } : State).setVm s₂.vm).setTop g).pushFrame (.throwing q) := by
      refine e3.trans ?_
      rw [hf₂, State.calling_eq h.top, State.setFrames_setFrames, State.pushFrame, State.frames_setTop _ hr', State.setTop_of_frames _ hr', State.setFrames_setFrames, hr]
      rfl
    have hsame : U.sameButNew ({ U with heap := s₂.heap, slotsUsed := s₂.slotsUsed } : State) L mc ms := by
      refine ⟨?_, q2, q3, q4, q5, q6⟩
      obtain ⟨t, ht, -⟩ := State.frames_cons hr
      show ({ U with heap := s₂.heap, slotsUsed := s₂.slotsUsed } : State) = { U.setFrames U.frames with heap := s₂.heap, slotsUsed := s₂.slotsUsed }
      rw [State.setFrames_self ht]
    subst hg
    refine Or.inr ⟨q, ⟨(({ U with heap := s₂.heap, slotsUsed := s₂.slotsUsed } : State).setVm s₂.vm), Ls ++ L, c0 + mc, s0 + ms⟩,
      ⟨X.admits, X.cas, X.clock, X.frames, X.room, X.hears, X.method, X.code, (X.here.setHeapUsed s₂.heap s₂.slotsUsed).setVm hW'.alike, X.tail, State.WarmedH.trans X.warmed hW', X.limits, X.bytes, X.same.trans (hsame.setVm s.vm)⟩,
      ⟨g, mk, s₂, L, E, ce, rfl, rfl, hx, hce, hcv, hcl, rfl, hL, rfl, rfl⟩, ?_⟩
    show Steps p.tables e below _ (((({ U with heap := s₂.heap, slotsUsed := s₂.slotsUsed } : State).setVm s₂.vm).setTop g).pushFrame (.throwing q))
    rw [← hs₂]
    exact hsteps
end
variable {p : Program} {l : Launch} {e : Env} {R : Room} {s : State} {m : MethodId} {args : Array Value} {below : List Frame} {meth : Method} {c : Code} {T : State} {H : Heap} {locs : List Loc} {cells slots : Nat}
theorem vx_callVX (X : Stand p l e R s m args below meth c T locs cells slots) (hexec : p.tables.exec = Jvm.exec) {own C : String} {index : Nat} {y : MethodName} {bytes : ByteArray} {maxL : Nat} {ret : Option FieldType} {hh : List (Nat × Nat × Nat × Nat)}
    (hown : s.vm.findClass own = some m.cls) (hlink : (Cond.methodLink own index y).before args s = true) (hinst : (Cond.instanceMethod y).before args s = true) (hsel : (Cond.selects C y y).before args s = true)
    (hcode : (Cond.codeWith y bytes maxL ret hh).before args s = true) (hy : y.cls ≠ "java/lang/invoke/MethodHandle" ∧ y.cls ≠ "java/lang/invoke/VarHandle")
    {W9 : Nat} {Pre : Pt → Array Value → Prop} {Post : Pt → Array Value → Option Value → Pt → Prop} {PostX : Pt → Array Value → Addr → Pt → Prop} (hK : vx_Back l R p e below s args y 3 W9 Pre Post PostX)
    {b : Addr} {cellB : Cell} (hcell : T.heap[b]? = some cellB) (hobj : cellB.vm.isStatics = false) (hcls : s.vm.findClass C = some cellB.cls)
    {g : JFrame} (hg : g.method = m) (hsize : g.locals.size = c.maxLocals) {argsL rest : List Value} (hlen : ∀ sig, parseMethodDescriptor y.desc = some sig → argsL.length = sig.parameters.length)
    (hstack : g.stack = argsL.reverse ++ .ref b :: rest) (hW : 2 * g.monitorRoom + (rest.map fun v => v.category).sum ≤ W9) (hdg : decode c.code g.pc = .ok (.invokevirtual index, 3))
    (hpre : ∀ vm₁, s.WarmedH vm₁ → Pre ⟨T.setVm vm₁, locs, cells, slots⟩ (Value.ref b :: argsL).toArray) :
    (∃ (v : Option Value) (vm₁ : Vm) (B : Pt), s.WarmedH vm₁ ∧ Stand p l e R s m args below meth c B.U B.locs B.cells B.slots ∧ Post ⟨T.setVm vm₁, locs, cells, slots⟩ (Value.ref b :: argsL).toArray v B ∧
      ∀ target, Steps p.tables e below (B.U.setTop { g with pc := g.pc + 3, stack := v.toList ++ rest }) target → Steps p.tables e below (T.setTop g) target) ∨
    (∃ (q : Addr) (vm₁ : Vm) (B : Pt), s.WarmedH vm₁ ∧ Stand p l e R s m args below meth c B.U B.locs B.cells B.slots ∧ PostX ⟨T.setVm vm₁, locs, cells, slots⟩ (Value.ref b :: argsL).toArray q B ∧
      Steps p.tables e below (T.setTop g) ((B.U.setTop { g with stack := rest }).pushFrame (.throwing q))) := by
  obtain ⟨mk, methM, hnamed, hmethM, hstM, habM⟩ := Cond.instanceMethod_spec hinst
  obtain ⟨m8, methM', cM, hn8, hmethM', -, -, -, -, -, -, hsigM⟩ := Cond.codeWith_spec hcode
  cases Option.some.inj (hn8.symm.trans hnamed)
  cases hmethM.symm.trans hmethM'
  obtain ⟨c2, r2, m2, q1, q2, q3, q4, kP, hkP, hkPi⟩ := Cond.selects_spec hsel
  cases hcls.symm.trans q1
  cases (State.methodFound?_of_named hnamed hy).symm.trans q2
  cases hnamed.symm.trans q3
  have hselP : selectMethod e.platform s.vm cellB.cls mk = .method mk := by rw [Launch.admits_selectMethod X.admits]; exact q4
  obtain ⟨vm₁, X₁, hstep₁⟩ := X.invokevirtual hexec hown hlink hnamed hmethM hstM hkP hkPi hy (a := b) (cell := cellB) hcell
    (fun z h => by rw [h] at hobj; cases hobj) hselP hmethM habM hkP hkPi (g := g) hg (argsL := argsL) (rest := rest) (hlen _ hsigM) hstack hdg
  rcases hK m meth c ⟨T.setVm vm₁, locs, cells, slots⟩ { g with stack := rest } (.invokevirtual index) mk (Value.ref b :: argsL).toArray X₁ hg hsize hdg hW (X₁.named hnamed) (hpre vm₁ X₁.warmed) with ⟨v, B, X', hpost, hsteps⟩ | ⟨q, B, X', hpost, hsteps⟩
  · exact Or.inl ⟨v, vm₁, B, X₁.warmed, X', hpost, fun target h => hstep₁ _ fun acts => by rw [doInvoke_state]; exact hsteps.trans h⟩
  · exact Or.inr ⟨q, vm₁, B, X₁.warmed, X', hpost, hstep₁ _ fun acts => by rw [doInvoke_state]; exact hsteps⟩
theorem vx_callSX (X : Stand p l e R s m args below meth c T locs cells slots) (hexec : p.tables.exec = Jvm.exec) {own : String} {index : Nat} {y : MethodName} {bytes : ByteArray} {maxL : Nat} {ret : Option FieldType} {hh : List (Nat × Nat × Nat × Nat)}
    (hown : s.vm.findClass own = some m.cls) (hlink : (Cond.methodLink own index y).before args s = true) (hstat : (Cond.static y).before args s = true) (hinit : (Cond.initialized y.cls).before args s = true)
    (hcode : (Cond.codeWith y bytes maxL ret hh).before args s = true) (hy : y.cls ≠ "java/lang/invoke/MethodHandle" ∧ y.cls ≠ "java/lang/invoke/VarHandle")
    {W9 : Nat} {Pre : Pt → Array Value → Prop} {Post : Pt → Array Value → Option Value → Pt → Prop} {PostX : Pt → Array Value → Addr → Pt → Prop} (hK : vx_Back l R p e below s args y 3 W9 Pre Post PostX)
    {g : JFrame} (hg : g.method = m) (hsize : g.locals.size = c.maxLocals) {argsL rest : List Value} (hlen : ∀ sig, parseMethodDescriptor y.desc = some sig → argsL.length = sig.parameters.length)
    (hstack : g.stack = argsL.reverse ++ rest) (hW : 2 * g.monitorRoom + (rest.map fun v => v.category).sum ≤ W9) (hdg : decode c.code g.pc = .ok (.invokestatic index, 3))
    (hpre : ∀ vm₁, s.WarmedH vm₁ → Pre ⟨T.setVm vm₁, locs, cells, slots⟩ argsL.toArray) :
    (∃ (v : Option Value) (vm₁ : Vm) (B : Pt), s.WarmedH vm₁ ∧ Stand p l e R s m args below meth c B.U B.locs B.cells B.slots ∧ Post ⟨T.setVm vm₁, locs, cells, slots⟩ argsL.toArray v B ∧
      ∀ target, Steps p.tables e below (B.U.setTop { g with pc := g.pc + 3, stack := v.toList ++ rest }) target → Steps p.tables e below (T.setTop g) target) ∨
    (∃ (q : Addr) (vm₁ : Vm) (B : Pt), s.WarmedH vm₁ ∧ Stand p l e R s m args below meth c B.U B.locs B.cells B.slots ∧ PostX ⟨T.setVm vm₁, locs, cells, slots⟩ argsL.toArray q B ∧
      Steps p.tables e below (T.setTop g) ((B.U.setTop { g with stack := rest }).pushFrame (.throwing q))) := by
  obtain ⟨mk, methM, cM, hnamed, hmethM, -, -, -, -, -, -, hsigM⟩ := Cond.codeWith_spec hcode
  have hstatic : methM.isStatic = true := Cond.static_spec hnamed hmethM hstat
  obtain ⟨kP, hkP, -⟩ := className_of_methodNamed hnamed
  have hinitP : kP.init = .initialized := Cond.initialized_spec (findClass_of_methodNamed hnamed) hkP hinit
  obtain ⟨vm₁, X₁, hstep₁⟩ := X.invokestatic hexec hown hlink hnamed hmethM hstatic hkP hinitP hy (g := g) hg (argsL := argsL) (rest := rest) (hlen _ hsigM) hstack hdg
  rcases hK m meth c ⟨T.setVm vm₁, locs, cells, slots⟩ { g with stack := rest } (.invokestatic index) mk argsL.toArray X₁ hg hsize hdg hW (X₁.named hnamed) (hpre vm₁ X₁.warmed) with ⟨v, B, X', hpost, hsteps⟩ | ⟨q, B, X', hpost, hsteps⟩
  · exact Or.inl ⟨v, vm₁, B, X₁.warmed, X', hpost, fun target h => hstep₁ _ fun acts => by rw [doInvoke_state]; exact hsteps.trans h⟩
  · exact Or.inr ⟨q, vm₁, B, X₁.warmed, X', hpost, hstep₁ _ fun acts => by rw [doInvoke_state]; exact hsteps⟩
theorem vx_callVW (X : Stand p l e R s m args below meth c T locs cells slots) (hexec : p.tables.exec = Jvm.exec) {own C : String} {index : Nat} {y : MethodName} {bytes : ByteArray} {maxL : Nat} {ret : Option FieldType} {hh : List (Nat × Nat × Nat × Nat)}
    (hown : s.vm.findClass own = some m.cls) (hlink : (Cond.methodLink own index y).before args s = true) (hinst : (Cond.instanceMethod y).before args s = true) (hsel : (Cond.selects C y y).before args s = true)
    (hcode : (Cond.codeWith y bytes maxL ret hh).before args s = true) (hy : y.cls ≠ "java/lang/invoke/MethodHandle" ∧ y.cls ≠ "java/lang/invoke/VarHandle")
    {W9 : Nat} {Pre : Pt → Array Value → Prop} {Post : Pt → Array Value → Option Value → Pt → Prop} (hK : Back l R p e below s args y 3 W9 Pre Post)
    {b : Addr} {cellB : Cell} (hcell : T.heap[b]? = some cellB) (hobj : cellB.vm.isStatics = false) (hcls : s.vm.findClass C = some cellB.cls)
    {g : JFrame} (hg : g.method = m) (hsize : g.locals.size = c.maxLocals) {argsL rest : List Value} (hlen : ∀ sig, parseMethodDescriptor y.desc = some sig → argsL.length = sig.parameters.length)
    (hstack : g.stack = argsL.reverse ++ .ref b :: rest) (hW : 2 * g.monitorRoom + (rest.map fun v => v.category).sum ≤ W9) (hdg : decode c.code g.pc = .ok (.invokevirtual index, 3))
    (hpre : ∀ vm₁, s.WarmedH vm₁ → Pre ⟨T.setVm vm₁, locs, cells, slots⟩ (Value.ref b :: argsL).toArray) :
    ∃ (v : Option Value) (vm₁ : Vm) (B : Pt), s.WarmedH vm₁ ∧ Stand p l e R s m args below meth c B.U B.locs B.cells B.slots ∧ Post ⟨T.setVm vm₁, locs, cells, slots⟩ (Value.ref b :: argsL).toArray v B ∧
      ∀ target, Steps p.tables e below (B.U.setTop { g with pc := g.pc + 3, stack := v.toList ++ rest }) target → Steps p.tables e below (T.setTop g) target := by
  obtain ⟨mk, methM, hnamed, hmethM, hstM, habM⟩ := Cond.instanceMethod_spec hinst
  obtain ⟨m8, methM', cM, hn8, hmethM', -, -, -, -, -, -, hsigM⟩ := Cond.codeWith_spec hcode
  cases Option.some.inj (hn8.symm.trans hnamed)
  cases hmethM.symm.trans hmethM'
  obtain ⟨c2, r2, m2, q1, q2, q3, q4, kP, hkP, hkPi⟩ := Cond.selects_spec hsel
  cases hcls.symm.trans q1
  cases (State.methodFound?_of_named hnamed hy).symm.trans q2
  cases hnamed.symm.trans q3
  have hselP : selectMethod e.platform s.vm cellB.cls mk = .method mk := by rw [Launch.admits_selectMethod X.admits]; exact q4
  obtain ⟨vm₁, X₁, hstep₁⟩ := X.invokevirtual hexec hown hlink hnamed hmethM hstM hkP hkPi hy (a := b) (cell := cellB) hcell
    (fun z h => by rw [h] at hobj; cases hobj) hselP hmethM habM hkP hkPi (g := g) hg (argsL := argsL) (rest := rest) (hlen _ hsigM) hstack hdg
  obtain ⟨v, B, X', hpost, hsteps⟩ := hK m meth c ⟨T.setVm vm₁, locs, cells, slots⟩ { g with stack := rest } (.invokevirtual index) mk (Value.ref b :: argsL).toArray X₁ hg hsize hdg hW (X₁.named hnamed) (hpre vm₁ X₁.warmed)
  exact ⟨v, vm₁, B, X₁.warmed, X', hpost, fun target h => hstep₁ _ fun acts => by rw [doInvoke_state]; exact hsteps.trans h⟩
abbrev vx_CVW (R : Room) (s : State) (args : Array Value) (own C : String) (index : Nat) (y : MethodName) (bytes : ByteArray) (maxL : Nat) (ret : Option FieldType) (hh : List (Nat × Nat × Nat × Nat)) (ws : List Cond) (rm : Room) (mc ms n : Nat) : Prop :=
  (rm.cells = mc ∧ rm.slots = ms ∧ rm.frames + 1 ≤ R.frames ∧ 8 + (maxL + 11) + rm.locals ≤ R.locals ∧ (∀ w ∈ ws, ∀ (a' : Array Value) (U : State), s.WarmedH U.vm → w.before a' U = true) ∧ Cond.codeWith y bytes maxL ret hh ∈ ws) ∧
  (Cond.codeWith y bytes maxL ret hh).before args s = true ∧ (Cond.initialized y.cls).before args s = true ∧ (y.cls ≠ "java/lang/invoke/MethodHandle" ∧ y.cls ≠ "java/lang/invoke/VarHandle") ∧
  (∀ sig, parseMethodDescriptor y.desc = some sig → n = sig.parameters.length) ∧ (Cond.methodLink own index y).before args s = true ∧ (Cond.instanceMethod y).before args s = true ∧ (Cond.selects C y y).before args s = true
theorem vx_cwVW {own C : String} {index maxL mc ms : Nat} {y : MethodName} {bytes : ByteArray} {ret : Option FieldType} {hh : List (Nat × Nat × Nat × Nat)} {Ts ws ws' : List Cond} {rm : Room} (n : Nat) (ht : ∀ w ∈ Ts, w.before args s = true) (hT : GoodIn Ts (wsV own index C y ws)) (hw : ws = Cond.codeWith y bytes maxL ret hh :: ws') (hrc : rm.cells = mc) (hrs : rm.slots = ms)
    (hd : y.cls = C ∧ y.cls ≠ "java/lang/invoke/MethodHandle" ∧ y.cls ≠ "java/lang/invoke/VarHandle" ∧ (parseMethodDescriptor y.desc).map (fun d => d.parameters.length) = some n) (hR : rm.frames + 1 ≤ R.frames ∧ 8 + (maxL + 11) + rm.locals ≤ R.locals) :
    vx_CVW R s args own C index y bytes maxL ret hh ws rm mc ms n := by
  obtain ⟨hC, hd⟩ := hd
  subst hC
  have ok : ∀ w ∈ wsV own index y.cls y ws, w.before args s = true := fun w h => ht w (hT w h).1
  have hG : GoodIn Ts ws := fun w h => hT w (by unfold wsV; exact List.mem_append_right _ h)
  have hc : Cond.codeWith y bytes maxL ret hh ∈ ws := by rw [hw]; exact List.mem_cons_self
  refine ⟨⟨hrc, hrs, hR.1, hR.2, pay_in ht hG, hc⟩, ht _ (hG _ hc).1, ok _ (by simp [wsV]), ⟨hd.1, hd.2.1⟩, fun sig h => ?_, ok _ (by simp [wsV]), ok _ (by simp [wsV]), ok _ (by simp [wsV])⟩
  have h2 := hd.2.2
  rw [h] at h2
  exact (Option.some.inj h2).symm
theorem vx_runVW {y : MethodName} {bytes cc : ByteArray} {maxL nL mc ms n index : Nat} {ret : Option FieldType} {hh : List (Nat × Nat × Nat × Nat)} {ws : List Cond} {rm : Room} {Pc : Array Value → State → Prop} {Qc : Array Value → State → Outcome → State → Prop} {free : Addr → Prop} {Ts : List Cond} {own C : String} {b : Addr} {As rest : List Value} {g : JFrame}
    (S : CallFix p m c cc nL s args Ts own) (hM : Met l y ws rm Pc Qc mc ms free) (cw : vx_CVW R s args own C index y bytes maxL ret hh ws rm mc ms n) (hp : PreV s H C b Pc As)
    (hg : g.method = m) (hn : As.length = n) (hsize : g.locals.size = nL) (hstack : g.stack = As.reverse ++ .ref b :: rest) (hW : 2 * g.monitorRoom + (rest.map fun v => v.category).sum ≤ 8) (hdg : decode cc g.pc = .ok (.invokevirtual index, 3)) (hf : cells + mc ≤ R.cells ∧ slots + ms ≤ R.slots) :
    va_Run p l e R s m args below meth c H locs cells slots mc ms g rest (Qc (Value.ref b :: As).toArray) free := by
  obtain ⟨⟨hrc, hrs, hfr, hlo, hws, hcw⟩, hcode, hini, hy, hlen, hl, hin, hse⟩ := cw
  have hK : Back l R p e below s args y 3 8 (PreOf R mc ms Pc) (PostOf Qc mc ms free) := va_backW (hh := hh) (bytes := bytes) (maxL := maxL) (ret := ret) hM hp.1 hrc hrs hfr hlo hws hcw (fun a' U hW => word_at hW (Or.inl (by first | rfl | simp [Cond.onTables, Cond.keeps, Cond.steady])) hini)
  obtain ⟨hx, hb, hml, ho, -⟩ := S
  obtain ⟨-, ⟨cellB, hcB, hoB, hclB⟩, hPc⟩ := hp
  intro T hT X
  obtain ⟨v, vm₁, ⟨U', l2, c2, s2⟩, hW₁, X', ⟨g', mk, t, L, e1, e2, hq, h1, hL, h2, h3⟩, st⟩ := vx_callVW X hx (C := C) (hh := hh) (bytes := bytes) (maxL := maxL) (ret := ret) ho hl hin hse hcode hy hK (by rw [hT]; exact hcB) hoB hclB hg (hsize.trans hml.symm) (argsL := As) (rest := rest) (fun sig h => hn.trans (hlen sig h)) hstack hW (by rw [hb]; exact hdg)
    (fun vm₁ hW₁ => ⟨hf.1, hf.2, hPc (T.setVm vm₁) hT hW₁⟩)
  dsimp only [Pt.U, Pt.locs, Pt.cells, Pt.slots] at X' e1 e2 h1 h2 h3 st
  subst h1; subst h2; subst h3
  exact ⟨v, (T.setVm vm₁).calling g' mk (Value.ref b :: As).toArray, t, U', L, hT, X', hL, e1, e2, hq, st⟩
section
variable {y : MethodName} {bytes cc : ByteArray} {maxL nL mc ms n index : Nat} {ret : Option FieldType} {ws : List Cond} {rm : Room} {Pc : Array Value → State → Prop} {Qc : Array Value → State → Outcome → State → Prop} {XC : String → State → State → Prop} {free : Addr → Prop} {Ts : List Cond} {own C : String} {b : Addr} {As rest : List Value} {g : JFrame}
theorem vx_runVX {hh : List (Nat × Nat × Nat × Nat)} (S : CallFix p m c cc nL s args Ts own) (hM : vx_Met l y ws rm Pc Qc XC mc ms free) (cw : vx_CVW R s args own C index y bytes maxL ret hh ws rm mc ms n) (hp : PreV s H C b Pc As)
    (hg : g.method = m) (hn : As.length = n) (hsize : g.locals.size = nL) (hstack : g.stack = As.reverse ++ .ref b :: rest) (hW : 2 * g.monitorRoom + (rest.map fun v => v.category).sum ≤ 8) (hdg : decode cc g.pc = .ok (.invokevirtual index, 3)) (hf : cells + mc ≤ R.cells ∧ slots + ms ≤ R.slots) :
    vx_Run p l e R s m args below meth c H locs cells slots mc ms g rest (Qc (Value.ref b :: As).toArray) XC free := by
  obtain ⟨⟨hrc, hrs, hfr, hlo, hws, hcw⟩, hcode, hini, hy, hlen, hl, hin, hse⟩ := cw
  have hK : vx_Back l R p e below s args y 3 8 (PreOf R mc ms Pc) (PostOf Qc mc ms free) (vx_Post XC mc ms free) := vx_backW (hh := hh) (bytes := bytes) (maxL := maxL) (ret := ret) hM hp.1 hrc hrs hfr hlo hws hcw (fun a' U hW => word_at hW (Or.inl (by first | rfl | simp [Cond.onTables, Cond.keeps, Cond.steady])) hini)
  obtain ⟨hx, hb, hml, ho, -⟩ := S
  obtain ⟨-, ⟨cellB, hcB, hoB, hclB⟩, hPc⟩ := hp
  intro T hT X
  rcases vx_callVX X hx (C := C) (hh := hh) (bytes := bytes) (maxL := maxL) (ret := ret) ho hl hin hse hcode hy hK (by rw [hT]; exact hcB) hoB hclB hg (hsize.trans hml.symm) (argsL := As) (rest := rest) (fun sig h => hn.trans (hlen sig h)) hstack hW (by rw [hb]; exact hdg)
    (fun vm₁ hW₁ => ⟨hf.1, hf.2, hPc (T.setVm vm₁) hT hW₁⟩) with ⟨v, vm₁, ⟨U', l2, c2, s2⟩, hW₁, X', ⟨g', mk, t, L, e1, e2, hq, h1, hL, h2, h3⟩, st⟩ | ⟨q, vm₁, ⟨U', l2, c2, s2⟩, hW₁, X', ⟨g', mk, t, L, E, ce, e1, e2, hq, hce, hcv, hcl, h1, hL, h2, h3⟩, st⟩
  · dsimp only [Pt.U, Pt.locs, Pt.cells, Pt.slots] at X' e1 e2 h1 h2 h3 st
    subst h1; subst h2; subst h3
    exact Or.inl ⟨v, (T.setVm vm₁).calling g' mk (Value.ref b :: As).toArray, t, U', L, hT, X', hL, e1, e2, hq, st⟩
  · dsimp only [Pt.U, Pt.locs, Pt.cells, Pt.slots] at X' e1 e2 h1 h2 h3 st hcl
    subst h1; subst h2; subst h3
    exact Or.inr ⟨q, (T.setVm vm₁).calling g' mk (Value.ref b :: As).toArray, t, U', L, E, ce, hT, X', hL, e1, e2, hq, hce, hcv, vx_cls hW₁ hcl, st⟩
theorem vx_runSX {hh : List (Nat × Nat × Nat × Nat)} (S : CallFix p m c cc nL s args Ts own) (hM : vx_Met l y ws rm Pc Qc XC mc ms free) (cw : vx_CSW R s args own index y bytes maxL ret hh ws rm mc ms n) (hp : PreS s H Pc As)
    (hg : g.method = m) (hn : As.length = n) (hsize : g.locals.size = nL) (hstack : g.stack = As.reverse ++ rest) (hW : 2 * g.monitorRoom + (rest.map fun v => v.category).sum ≤ 8) (hdg : decode cc g.pc = .ok (.invokestatic index, 3)) (hf : cells + mc ≤ R.cells ∧ slots + ms ≤ R.slots) :
    vx_Run p l e R s m args below meth c H locs cells slots mc ms g rest (Qc As.toArray) XC free := by
  obtain ⟨⟨hrc, hrs, hfr, hlo, hws, hcw⟩, hcode, hini, hy, hlen, hl, hstt⟩ := cw
  have hK : vx_Back l R p e below s args y 3 8 (PreOf R mc ms Pc) (PostOf Qc mc ms free) (vx_Post XC mc ms free) := vx_backW (hh := hh) (bytes := bytes) (maxL := maxL) (ret := ret) hM hp.1 hrc hrs hfr hlo hws hcw (fun a' U hW => word_at hW (Or.inl (by first | rfl | simp [Cond.onTables, Cond.keeps, Cond.steady])) hini)
  obtain ⟨hx, hb, hml, ho, -⟩ := S
  intro T hT X
  rcases vx_callSX X hx (hh := hh) (bytes := bytes) (maxL := maxL) (ret := ret) ho hl hstt hini hcode hy hK hg (hsize.trans hml.symm) (argsL := As) (rest := rest) (fun sig h => hn.trans (hlen sig h)) hstack hW (by rw [hb]; exact hdg)
    (fun vm₁ hW₁ => ⟨hf.1, hf.2, hp.2 (T.setVm vm₁) hT hW₁⟩) with ⟨v, vm₁, ⟨U', l2, c2, s2⟩, hW₁, X', ⟨g', mk, t, L, e1, e2, hq, h1, hL, h2, h3⟩, st⟩ | ⟨q, vm₁, ⟨U', l2, c2, s2⟩, hW₁, X', ⟨g', mk, t, L, E, ce, e1, e2, hq, hce, hcv, hcl, h1, hL, h2, h3⟩, st⟩
  · dsimp only [Pt.U, Pt.locs, Pt.cells, Pt.slots] at X' e1 e2 h1 h2 h3 st
    subst h1; subst h2; subst h3
    exact Or.inl ⟨v, (T.setVm vm₁).calling g' mk As.toArray, t, U', L, hT, X', hL, e1, e2, hq, st⟩
  · dsimp only [Pt.U, Pt.locs, Pt.cells, Pt.slots] at X' e1 e2 h1 h2 h3 st hcl
    subst h1; subst h2; subst h3
    exact Or.inr ⟨q, (T.setVm vm₁).calling g' mk As.toArray, t, U', L, E, ce, hT, X', hL, e1, e2, hq, hce, hcv, vx_cls hW₁ hcl, st⟩
end
end VXH
theorem vx_ofWH {l : Launch} {y : MethodName} {ws ws' : List Cond} {rm : Room} {Pc : Array Value → State → Prop} {Qc : Array Value → State → Outcome → State → Prop} {XC : String → State → State → Prop} {mc ms : Nat} {free : Addr → Prop} {cc : ByteArray} {maxL : Nat} {ret : Option FieldType} {hh : List (Nat × Nat × Nat × Nat)}
    (hy : plainName y.cls = true) (hw : ws = Cond.codeWith y cc maxL ret hh :: ws')
    (body : ∀ p e s m args below meth c s₁, BodyLoose p l y (headSpec ws rm) cc maxL ret e s m args below meth c s₁ → c.maxLocals = maxL → Pc args s →
      W p l e (headSpec ws rm).room s m args below meth c s.heap [] 0 0 (vx_MQ below Qc XC args s mc ms free) (entryFrame m args maxL)) : vx_Met l y ws rm Pc Qc XC mc ms free := by
  refine MetFree.of_bodyS (code := cc) (maxLocals := maxL) (ret := ret) hy ?_ ?_
  · intro args s m h hn
    obtain ⟨m9, meth, c, hn9, h1, h2, h3, h4, -, h5, h6, -⟩ := Cond.codeWith_spec (atoms_spec (ws := ws) h _ (by rw [hw]; exact List.mem_cons_self))
    cases hn.symm.trans hn9
    exact ⟨meth, c, h1, h2, h3, h4, h5, h6⟩
  · intro p e s m args below meth c s₁ B hml hP _
    have hh0 : s₁.heap = s.heap := by rw [B.state]; rfl
    obtain ⟨t, a1, o, b1, b2, b3⟩ := body p e s m args below meth c s₁ B hml hP s₁ hh0 (Stand.of_body B)
    exact ⟨t, o, a1, b1, b2, b3⟩
/-! ===== END ===== -/
end
section
def RX0 : String := "StoreNotes$Generation"
def TX0 : u_T := fun k => match k with
  | 0 => ("StoreNotes$Generation", "number", "I", true)
  | 1 => ("StoreNotes$Generation", "first", "I", true)
  | 2 => ("StoreNotes$Generation", "size", "I", true)
  | 3 => ("StoreNotes$Generation", "limit", "I", true)
  | 4 => ("StoreNotes$Generation", "start", "I", false)
  | 5 => ("StoreNotes$Generation", "used", "I", false)
  | 6 => ("StoreNotes$Generation", "from", "I", false)
  | 7 => ("StoreNotes$Generation", "left", "I", false)
  | 8 => ("StoreNotes$Generation", "scanned", "I", false)
  | _ => ("StoreNotes$Generation", "collections", "I", false)
def tyX0 : Nat → FieldType := fun k => match k with
  | 0 => .int
  | 1 => .int
  | 2 => .int
  | 3 => .int
  | 4 => .int
  | 5 => .int
  | 6 => .int
  | 7 => .int
  | 8 => .int
  | _ => .int
abbrev wsX00 : List Cond := u_ws RX0 TX0 10
theorem nmX0 : ∀ a, a < 10 → ∀ b, b < 10 → a ≠ b → (TX0 a).2.1 ≠ (TX0 b).2.1 := by decide +kernel
theorem tyX0_ok : ∀ k, k < 10 → parseFieldDescriptor (TX0 k).2.2.1 = some (tyX0 k) := by decide +kernel
abbrev cX0_init : ByteArray := prog_2_method_1_code
def yX0_init : MethodName := ⟨RX0, "<init>", "(IIII)V"⟩
abbrev cX0_isTaken : ByteArray := prog_2_method_2_code
def yX0_isTaken : MethodName := ⟨RX0, "isTaken", "(I)Z"⟩
abbrev cX0_isInFrom : ByteArray := prog_2_method_3_code
def yX0_isInFrom : MethodName := ⟨RX0, "isInFrom", "(I)Z"⟩
abbrev cX0_fits : ByteArray := prog_2_method_4_code
def yX0_fits : MethodName := ⟨RX0, "fits", "(I)Z"⟩
abbrev cX0_take : ByteArray := prog_2_method_5_code
def yX0_take : MethodName := ⟨RX0, "take", "(I)I"⟩
abbrev cX0_begin : ByteArray := prog_2_method_6_code
def yX0_begin : MethodName := ⟨RX0, "begin", "(Z)V"⟩
abbrev cX0_end : ByteArray := prog_2_method_7_code
def yX0_end : MethodName := ⟨RX0, "end", "()V"⟩
def RX1 : String := "StoreNotes$Heap"
def TX1 : u_T := fun k => match k with
  | 0 => ("StoreNotes$Heap", "words", "[I", true)
  | 1 => ("StoreNotes$Heap", "generations", "[LStoreNotes$Generation;", true)
  | 2 => ("StoreNotes$Heap", "roots", "LStoreNotes$Row;", true)
  | 3 => ("StoreNotes$Heap", "stack", "LStoreNotes$Row;", true)
  | 4 => ("StoreNotes$Heap", "weakPlaces", "LStoreNotes$Row;", true)
  | 5 => ("StoreNotes$Heap", "wishes", "LStoreNotes$Row;", true)
  | 6 => ("StoreNotes$Heap", "queue", "LStoreNotes$Row;", true)
  | 7 => ("StoreNotes$Heap", "buffer", "LStoreNotes$Row;", true)
  | 8 => ("StoreNotes$Heap", "remembered", "[LStoreNotes$Row;", false)
  | 9 => ("StoreNotes$Heap", "aside", "[LStoreNotes$Row;", false)
  | 10 => ("StoreNotes$Heap", "overflows", "I", false)
  | 11 => ("StoreNotes$Heap", "copied", "I", false)
  | _ => ("StoreNotes$Heap", "promoted", "I", false)
def tyX1 : Nat → FieldType := fun k => match k with
  | 0 => .array .int
  | 1 => .array (.object "StoreNotes$Generation")
  | 2 => .object "StoreNotes$Row"
  | 3 => .object "StoreNotes$Row"
  | 4 => .object "StoreNotes$Row"
  | 5 => .object "StoreNotes$Row"
  | 6 => .object "StoreNotes$Row"
  | 7 => .object "StoreNotes$Row"
  | 8 => .array (.object "StoreNotes$Row")
  | 9 => .array (.object "StoreNotes$Row")
  | 10 => .int
  | 11 => .int
  | _ => .int
abbrev wsX10 : List Cond := u_ws RX1 TX1 13
theorem nmX1 : ∀ a, a < 13 → ∀ b, b < 13 → a ≠ b → (TX1 a).2.1 ≠ (TX1 b).2.1 := by decide +kernel
theorem tyX1_ok : ∀ k, k < 13 → parseFieldDescriptor (TX1 k).2.2.1 = some (tyX1 k) := by decide +kernel
abbrev cX1_init : ByteArray := prog_3_method_1_code
def yX1_init : MethodName := ⟨RX1, "<init>", "(IIII)V"⟩
abbrev cX1_newRows : ByteArray := prog_3_method_2_code
def yX1_newRows : MethodName := ⟨RX1, "newRows", "(I)[LStoreNotes$Row;"⟩
abbrev cX1_fieldsOf : ByteArray := prog_3_method_3_code
def yX1_fieldsOf : MethodName := ⟨RX1, "fieldsOf", "(I)I"⟩
abbrev cX1_ageOf : ByteArray := prog_3_method_4_code
def yX1_ageOf : MethodName := ⟨RX1, "ageOf", "(I)I"⟩
abbrev cX1_isKeen : ByteArray := prog_3_method_5_code
def yX1_isKeen : MethodName := ⟨RX1, "isKeen", "(I)Z"⟩
abbrev cX1_labelOf : ByteArray := prog_3_method_6_code
def yX1_labelOf : MethodName := ⟨RX1, "labelOf", "(I)I"⟩
abbrev cX1_hasField : ByteArray := prog_3_method_7_code
def yX1_hasField : MethodName := ⟨RX1, "hasField", "(II)Z"⟩
abbrev cX1_fieldOf : ByteArray := prog_3_method_8_code
def yX1_fieldOf : MethodName := ⟨RX1, "fieldOf", "(II)I"⟩
abbrev cX1_rootOrNull : ByteArray := prog_3_method_9_code
def yX1_rootOrNull : MethodName := ⟨RX1, "rootOrNull", "(I)I"⟩
abbrev cX1_homeOf : ByteArray := prog_3_method_10_code
def yX1_homeOf : MethodName := ⟨RX1, "homeOf", "(I)LStoreNotes$Generation;"⟩
abbrev cX1_isTaken : ByteArray := prog_3_method_11_code
def yX1_isTaken : MethodName := ⟨RX1, "isTaken", "(I)Z"⟩
abbrev cX1_rowOf : ByteArray := prog_3_method_12_code
def yX1_rowOf : MethodName := ⟨RX1, "rowOf", "(I)LStoreNotes$Row;"⟩
abbrev cX1_countOf : ByteArray := prog_3_method_13_code
def yX1_countOf : MethodName := ⟨RX1, "countOf", "(I)I"⟩
abbrev cX1_newObject : ByteArray := prog_3_method_14_code
def yX1_newObject : MethodName := ⟨RX1, "newObject", "(IIZ)I"⟩
abbrev cX1_store : ByteArray := prog_3_method_15_code
def yX1_store : MethodName := ⟨RX1, "store", "(III)V"⟩
abbrev cX1_filter : ByteArray := prog_3_method_16_code
def yX1_filter : MethodName := ⟨RX1, "filter", "()V"⟩
abbrev cX1_remember : ByteArray := prog_3_method_17_code
def yX1_remember : MethodName := ⟨RX1, "remember", "(I)V"⟩
abbrev cX1_gather : ByteArray := prog_3_method_18_code
def yX1_gather : MethodName := ⟨RX1, "gather", "(I)I"⟩
abbrev cX1_putRowsAside : ByteArray := prog_3_method_19_code
def yX1_putRowsAside : MethodName := ⟨RX1, "putRowsAside", "()V"⟩
abbrev cX1_bringAll : ByteArray := prog_3_method_20_code
def yX1_bringAll : MethodName := ⟨RX1, "bringAll", "(LStoreNotes$Row;)V"⟩
abbrev cX1_bringRemembered : ByteArray := prog_3_method_21_code
def yX1_bringRemembered : MethodName := ⟨RX1, "bringRemembered", "(LStoreNotes$Row;I)V"⟩
abbrev cX1_brought : ByteArray := prog_3_method_22_code
def yX1_brought : MethodName := ⟨RX1, "brought", "(I)I"⟩
abbrev cX1_scan : ByteArray := prog_3_method_23_code
def yX1_scan : MethodName := ⟨RX1, "scan", "()V"⟩
abbrev cX1_leastUnscanned : ByteArray := prog_3_method_24_code
def yX1_leastUnscanned : MethodName := ⟨RX1, "leastUnscanned", "()LStoreNotes$Generation;"⟩
abbrev cX1_grantWishes : ByteArray := prog_3_method_25_code
def yX1_grantWishes : MethodName := ⟨RX1, "grantWishes", "()V"⟩
abbrev cX1_clearWeakPlaces : ByteArray := prog_3_method_26_code
def yX1_clearWeakPlaces : MethodName := ⟨RX1, "clearWeakPlaces", "()V"⟩
def RX2 : String := "StoreNotes$Machine"
def TX2 : u_T := fun k => match k with
  | 0 => ("StoreNotes$Machine", "heap", "LStoreNotes$Heap;", true)
  | 1 => ("StoreNotes$Machine", "instructions", "[I", true)
  | 2 => ("StoreNotes$Machine", "numbers", "[I", true)
  | 3 => ("StoreNotes$Machine", "length", "I", false)
  | 4 => ("StoreNotes$Machine", "place", "I", false)
  | _ => ("StoreNotes$Machine", "steps", "I", false)
def tyX2 : Nat → FieldType := fun k => match k with
  | 0 => .object "StoreNotes$Heap"
  | 1 => .array .int
  | 2 => .array .int
  | 3 => .int
  | 4 => .int
  | _ => .int
abbrev wsX20 : List Cond := u_ws RX2 TX2 6
theorem nmX2 : ∀ a, a < 6 → ∀ b, b < 6 → a ≠ b → (TX2 a).2.1 ≠ (TX2 b).2.1 := by decide +kernel
theorem tyX2_ok : ∀ k, k < 6 → parseFieldDescriptor (TX2 k).2.2.1 = some (tyX2 k) := by decide +kernel
abbrev cX2_init : ByteArray := prog_4_method_1_code
def yX2_init : MethodName := ⟨RX2, "<init>", "(LStoreNotes$Heap;)V"⟩
abbrev cX2_append : ByteArray := prog_4_method_2_code
def yX2_append : MethodName := ⟨RX2, "append", "(IIII)V"⟩
abbrev cX2_endBefore : ByteArray := prog_4_method_3_code
def yX2_endBefore : MethodName := ⟨RX2, "endBefore", "(Z)I"⟩
abbrev cX2_isWrong : ByteArray := prog_4_method_4_code
def yX2_isWrong : MethodName := ⟨RX2, "isWrong", "()Z"⟩
abbrev cX2_isAsTold : ByteArray := prog_4_method_5_code
def yX2_isAsTold : MethodName := ⟨RX2, "isAsTold", "(CI)Z"⟩
abbrev cX2_endOfObject : ByteArray := prog_4_method_6_code
def yX2_endOfObject : MethodName := ⟨RX2, "endOfObject", "(II)I"⟩
abbrev cX2_step : ByteArray := prog_4_method_7_code
def yX2_step : MethodName := ⟨RX2, "step", "()I"⟩
abbrev cX2_change : ByteArray := prog_4_method_8_code
def yX2_change : MethodName := ⟨RX2, "change", "(IIII)V"⟩
abbrev cX2_goesOnAt : ByteArray := prog_4_method_9_code
def yX2_goesOnAt : MethodName := ⟨RX2, "goesOnAt", "(IIII)I"⟩
def RX3 : String := "StoreNotes$Row"
def TX3 : u_T := fun k => match k with
  | 0 => ("StoreNotes$Row", "items", "[I", true)
  | _ => ("StoreNotes$Row", "size", "I", false)
def tyX3 : Nat → FieldType := fun k => match k with
  | 0 => .array .int
  | _ => .int
abbrev wsX30 : List Cond := u_ws RX3 TX3 2
theorem nmX3 : ∀ a, a < 2 → ∀ b, b < 2 → a ≠ b → (TX3 a).2.1 ≠ (TX3 b).2.1 := by decide +kernel
theorem tyX3_ok : ∀ k, k < 2 → parseFieldDescriptor (TX3 k).2.2.1 = some (tyX3 k) := by decide +kernel
abbrev cX3_init : ByteArray := prog_5_method_1_code
def yX3_init : MethodName := ⟨RX3, "<init>", "(II)V"⟩
abbrev cX3_isFull : ByteArray := prog_5_method_2_code
def yX3_isFull : MethodName := ⟨RX3, "isFull", "()Z"⟩
abbrev cX3_add : ByteArray := prog_5_method_3_code
def yX3_add : MethodName := ⟨RX3, "add", "(I)V"⟩
abbrev cX3_has : ByteArray := prog_5_method_4_code
def yX3_has : MethodName := ⟨RX3, "has", "(I)Z"⟩
abbrev cX3_takeFirst : ByteArray := prog_5_method_5_code
def yX3_takeFirst : MethodName := ⟨RX3, "takeFirst", "()I"⟩
abbrev cX3_takeLast : ByteArray := prog_5_method_6_code
def yX3_takeLast : MethodName := ⟨RX3, "takeLast", "()I"⟩
def RX4 : String := "StoreNotes"
def TX4 : u_T := fun k => match k with
  | 0 => ("StoreNotes", "heap", "LStoreNotes$Heap;", true)
  | _ => ("StoreNotes", "machine", "LStoreNotes$Machine;", true)
def tyX4 : Nat → FieldType := fun k => match k with
  | 0 => .object "StoreNotes$Heap"
  | _ => .object "StoreNotes$Machine"
abbrev wsX40 : List Cond := u_ws RX4 TX4 2
theorem nmX4 : ∀ a, a < 2 → ∀ b, b < 2 → a ≠ b → (TX4 a).2.1 ≠ (TX4 b).2.1 := by decide +kernel
theorem tyX4_ok : ∀ k, k < 2 → parseFieldDescriptor (TX4 k).2.2.1 = some (tyX4 k) := by decide +kernel
abbrev cX4_init : ByteArray := prog_1_method_1_code
def yX4_init : MethodName := ⟨RX4, "<init>", "(IIII)V"⟩
abbrev cX4_make : ByteArray := prog_1_method_2_code
def yX4_make : MethodName := ⟨RX4, "make", "(IIIZ)I"⟩
abbrev cX4_push : ByteArray := prog_1_method_3_code
def yX4_push : MethodName := ⟨RX4, "push", "(III)I"⟩
abbrev cX4_put : ByteArray := prog_1_method_4_code
def yX4_put : MethodName := ⟨RX4, "put", "(III)I"⟩
abbrev cX4_get : ByteArray := prog_1_method_5_code
def yX4_get : MethodName := ⟨RX4, "get", "(III)I"⟩
abbrev cX4_move : ByteArray := prog_1_method_6_code
def yX4_move : MethodName := ⟨RX4, "move", "(II)I"⟩
abbrev cX4_keep : ByteArray := prog_1_method_7_code
def yX4_keep : MethodName := ⟨RX4, "keep", "(I)I"⟩
abbrev cX4_back : ByteArray := prog_1_method_8_code
def yX4_back : MethodName := ⟨RX4, "back", "(I)I"⟩
abbrev cX4_weak : ByteArray := prog_1_method_9_code
def yX4_weak : MethodName := ⟨RX4, "weak", "(II)I"⟩
abbrev cX4_strong : ByteArray := prog_1_method_10_code
def yX4_strong : MethodName := ⟨RX4, "strong", "(II)I"⟩
abbrev cX4_wish : ByteArray := prog_1_method_11_code
def yX4_wish : MethodName := ⟨RX4, "wish", "(I)I"⟩
abbrev cX4_collect : ByteArray := prog_1_method_12_code
def yX4_collect : MethodName := ⟨RX4, "collect", "(I)I"⟩
abbrev cX4_root : ByteArray := prog_1_method_13_code
def yX4_root : MethodName := ⟨RX4, "root", "(I)I"⟩
abbrev cX4_about : ByteArray := prog_1_method_14_code
def yX4_about : MethodName := ⟨RX4, "about", "(II)I"⟩
abbrev cX4_word : ByteArray := prog_1_method_15_code
def yX4_word : MethodName := ⟨RX4, "word", "(I)I"⟩
abbrev cX4_row : ByteArray := prog_1_method_16_code
def yX4_row : MethodName := ⟨RX4, "row", "(II)I"⟩
abbrev cX4_code : ByteArray := prog_1_method_17_code
def yX4_code : MethodName := ⟨RX4, "code", "(IIII)I"⟩
abbrev cX4_scrap : ByteArray := prog_1_method_18_code
def yX4_scrap : MethodName := ⟨RX4, "scrap", "()I"⟩
abbrev cX4_run : ByteArray := prog_1_method_19_code
def yX4_run : MethodName := ⟨RX4, "run", "(II)I"⟩
abbrev cX4_count : ByteArray := prog_1_method_20_code
def yX4_count : MethodName := ⟨RX4, "count", "(I)I"⟩
abbrev cX4_nearest : ByteArray := prog_1_method_21_code
def yX4_nearest : MethodName := ⟨RX4, "nearest", "(III)I"⟩
abbrev cX4_isRoot : ByteArray := prog_1_method_22_code
def yX4_isRoot : MethodName := ⟨RX4, "isRoot", "(I)Z"⟩
abbrev cX4_lookAtRoot : ByteArray := prog_1_method_23_code
def yX4_lookAtRoot : MethodName := ⟨RX4, "lookAtRoot", "(I)V"⟩
abbrev cX4_lookAtRootOrNone : ByteArray := prog_1_method_24_code
def yX4_lookAtRootOrNone : MethodName := ⟨RX4, "lookAtRootOrNone", "(I)V"⟩
abbrev cX4_lookAtWeakPlace : ByteArray := prog_1_method_25_code
def yX4_lookAtWeakPlace : MethodName := ⟨RX4, "lookAtWeakPlace", "(I)V"⟩
abbrev cX4_objectOf : ByteArray := prog_1_method_26_code
def yX4_objectOf : MethodName := ⟨RX4, "objectOf", "(I)I"⟩
abbrev cX4_lookAtField : ByteArray := prog_1_method_27_code
def yX4_lookAtField : MethodName := ⟨RX4, "lookAtField", "(II)V"⟩
def RX5 : String := "StoreNotesModel"
def TX5 : u_T := fun k => match k with
  | 0 => ("StoreNotesModel", "thrown", "I", false)
  | 1 => ("StoreNotesModel", "words", "[I", true)
  | 2 => ("StoreNotesModel", "went", "[I", true)
  | 3 => ("StoreNotesModel", "small", "I", true)
  | 4 => ("StoreNotesModel", "limits", "[I", true)
  | 5 => ("StoreNotesModel", "places", "I", true)
  | 6 => ("StoreNotesModel", "half", "[I", true)
  | 7 => ("StoreNotesModel", "used", "[I", true)
  | 8 => ("StoreNotesModel", "roots", "[I", true)
  | 9 => ("StoreNotesModel", "kept", "I", false)
  | 10 => ("StoreNotesModel", "stack", "[I", true)
  | 11 => ("StoreNotesModel", "weak", "[I", true)
  | 12 => ("StoreNotesModel", "wishes", "I", false)
  | 13 => ("StoreNotesModel", "wish", "[I", true)
  | 14 => ("StoreNotesModel", "queued", "I", false)
  | 15 => ("StoreNotesModel", "queue", "[I", true)
  | 16 => ("StoreNotesModel", "notes", "I", false)
  | 17 => ("StoreNotesModel", "note", "[I", true)
  | 18 => ("StoreNotesModel", "remembered", "[I", true)
  | 19 => ("StoreNotesModel", "row", "[I", true)
  | 20 => ("StoreNotesModel", "oldCounts", "[I", true)
  | 21 => ("StoreNotesModel", "oldRow", "[I", true)
  | 22 => ("StoreNotesModel", "collections", "[I", true)
  | 23 => ("StoreNotesModel", "overflows", "I", false)
  | 24 => ("StoreNotesModel", "copiedEver", "I", false)
  | 25 => ("StoreNotesModel", "promoted", "I", false)
  | 26 => ("StoreNotesModel", "steps", "I", false)
  | 27 => ("StoreNotesModel", "placeNow", "I", false)
  | 28 => ("StoreNotesModel", "numbers", "[I", true)
  | 29 => ("StoreNotesModel", "codes", "I", false)
  | 30 => ("StoreNotesModel", "code", "[I", true)
  | 31 => ("StoreNotesModel", "collected", "I", false)
  | 32 => ("StoreNotesModel", "copied", "I", false)
  | 33 => ("StoreNotesModel", "fromBegin", "[I", true)
  | 34 => ("StoreNotesModel", "fromEnd", "[I", true)
  | 35 => ("StoreNotesModel", "left", "[I", true)
  | _ => ("StoreNotesModel", "scanned", "[I", true)
def tyX5 : Nat → FieldType := fun k => match k with
  | 0 => .int
  | 1 => .array .int
  | 2 => .array .int
  | 3 => .int
  | 4 => .array .int
  | 5 => .int
  | 6 => .array .int
  | 7 => .array .int
  | 8 => .array .int
  | 9 => .int
  | 10 => .array .int
  | 11 => .array .int
  | 12 => .int
  | 13 => .array .int
  | 14 => .int
  | 15 => .array .int
  | 16 => .int
  | 17 => .array .int
  | 18 => .array .int
  | 19 => .array .int
  | 20 => .array .int
  | 21 => .array .int
  | 22 => .array .int
  | 23 => .int
  | 24 => .int
  | 25 => .int
  | 26 => .int
  | 27 => .int
  | 28 => .array .int
  | 29 => .int
  | 30 => .array .int
  | 31 => .int
  | 32 => .int
  | 33 => .array .int
  | 34 => .array .int
  | 35 => .array .int
  | _ => .array .int
abbrev wsX50 : List Cond := u_ws RX5 TX5 37
theorem nmX5 : ∀ a, a < 37 → ∀ b, b < 37 → a ≠ b → (TX5 a).2.1 ≠ (TX5 b).2.1 := by decide +kernel
theorem tyX5_ok : ∀ k, k < 37 → parseFieldDescriptor (TX5 k).2.2.1 = some (tyX5 k) := by decide +kernel
abbrev cX5_near : ByteArray := prog_7_method_1_code
def yX5_near : MethodName := ⟨RX5, "near", "(III)I"⟩
abbrev cX5_init : ByteArray := prog_7_method_2_code
def yX5_init : MethodName := ⟨RX5, "<init>", "(IIII)V"⟩
abbrev cX5_thrown : ByteArray := prog_7_method_3_code
def yX5_thrown : MethodName := ⟨RX5, "thrown", "()I"⟩
abbrev cX5_in : ByteArray := prog_7_method_4_code
def yX5_in : MethodName := ⟨RX5, "in", "(III)Z"⟩
abbrev cX5_isRoot : ByteArray := prog_7_method_5_code
def yX5_isRoot : MethodName := ⟨RX5, "isRoot", "(I)Z"⟩
abbrev cX5_size : ByteArray := prog_7_method_6_code
def yX5_size : MethodName := ⟨RX5, "size", "(I)I"⟩
abbrev cX5_begin : ByteArray := prog_7_method_7_code
def yX5_begin : MethodName := ⟨RX5, "begin", "(II)I"⟩
abbrev cX5_generation : ByteArray := prog_7_method_8_code
def yX5_generation : MethodName := ⟨RX5, "generation", "(I)I"⟩
abbrev cX5_fields : ByteArray := prog_7_method_9_code
def yX5_fields : MethodName := ⟨RX5, "fields", "(I)I"⟩
abbrev cX5_age : ByteArray := prog_7_method_10_code
def yX5_age : MethodName := ⟨RX5, "age", "(I)I"⟩
abbrev cX5_isKeen : ByteArray := prog_7_method_11_code
def yX5_isKeen : MethodName := ⟨RX5, "isKeen", "(I)Z"⟩
abbrev cX5_remember : ByteArray := prog_7_method_12_code
def yX5_remember : MethodName := ⟨RX5, "remember", "(II)V"⟩
abbrev cX5_rememberIf : ByteArray := prog_7_method_13_code
def yX5_rememberIf : MethodName := ⟨RX5, "rememberIf", "(I)V"⟩
abbrev cX5_filter : ByteArray := prog_7_method_14_code
def yX5_filter : MethodName := ⟨RX5, "filter", "()V"⟩
abbrev cX5_store : ByteArray := prog_7_method_15_code
def yX5_store : MethodName := ⟨RX5, "store", "(II)V"⟩
abbrev cX5_isFrom : ByteArray := prog_7_method_16_code
def yX5_isFrom : MethodName := ⟨RX5, "isFrom", "(I)Z"⟩
abbrev cX5_fits : ByteArray := prog_7_method_17_code
def yX5_fits : MethodName := ⟨RX5, "fits", "(II)Z"⟩
abbrev cX5_copy : ByteArray := prog_7_method_18_code
def yX5_copy : MethodName := ⟨RX5, "copy", "(I)I"⟩
abbrev cX5_bring : ByteArray := prog_7_method_19_code
def yX5_bring : MethodName := ⟨RX5, "bring", "(I)I"⟩
abbrev cX5_scan : ByteArray := prog_7_method_20_code
def yX5_scan : MethodName := ⟨RX5, "scan", "()V"⟩
abbrev cX5_bringRows : ByteArray := prog_7_method_21_code
def yX5_bringRows : MethodName := ⟨RX5, "bringRows", "(I)V"⟩
abbrev cX5_grantWishes : ByteArray := prog_7_method_22_code
def yX5_grantWishes : MethodName := ⟨RX5, "grantWishes", "()V"⟩
abbrev cX5_gather : ByteArray := prog_7_method_23_code
def yX5_gather : MethodName := ⟨RX5, "gather", "(I)I"⟩
abbrev cX5_object : ByteArray := prog_7_method_24_code
def yX5_object : MethodName := ⟨RX5, "object", "(IIZ)I"⟩
abbrev cX5_make : ByteArray := prog_7_method_25_code
def yX5_make : MethodName := ⟨RX5, "make", "(IIIZ)I"⟩
abbrev cX5_push : ByteArray := prog_7_method_26_code
def yX5_push : MethodName := ⟨RX5, "push", "(III)I"⟩
abbrev cX5_hasField : ByteArray := prog_7_method_27_code
def yX5_hasField : MethodName := ⟨RX5, "hasField", "(II)Z"⟩
abbrev cX5_put : ByteArray := prog_7_method_28_code
def yX5_put : MethodName := ⟨RX5, "put", "(III)I"⟩
abbrev cX5_get : ByteArray := prog_7_method_29_code
def yX5_get : MethodName := ⟨RX5, "get", "(III)I"⟩
abbrev cX5_move : ByteArray := prog_7_method_30_code
def yX5_move : MethodName := ⟨RX5, "move", "(II)I"⟩
abbrev cX5_keep : ByteArray := prog_7_method_31_code
def yX5_keep : MethodName := ⟨RX5, "keep", "(I)I"⟩
abbrev cX5_back : ByteArray := prog_7_method_32_code
def yX5_back : MethodName := ⟨RX5, "back", "(I)I"⟩
abbrev cX5_weak : ByteArray := prog_7_method_33_code
def yX5_weak : MethodName := ⟨RX5, "weak", "(II)I"⟩
abbrev cX5_strong : ByteArray := prog_7_method_34_code
def yX5_strong : MethodName := ⟨RX5, "strong", "(II)I"⟩
abbrev cX5_wish : ByteArray := prog_7_method_35_code
def yX5_wish : MethodName := ⟨RX5, "wish", "(I)I"⟩
abbrev cX5_collect : ByteArray := prog_7_method_36_code
def yX5_collect : MethodName := ⟨RX5, "collect", "(I)I"⟩
abbrev cX5_root : ByteArray := prog_7_method_37_code
def yX5_root : MethodName := ⟨RX5, "root", "(I)I"⟩
abbrev cX5_about : ByteArray := prog_7_method_38_code
def yX5_about : MethodName := ⟨RX5, "about", "(II)I"⟩
abbrev cX5_word : ByteArray := prog_7_method_39_code
def yX5_word : MethodName := ⟨RX5, "word", "(I)I"⟩
abbrev cX5_sizeOf : ByteArray := prog_7_method_40_code
def yX5_sizeOf : MethodName := ⟨RX5, "sizeOf", "(I)I"⟩
abbrev cX5_row : ByteArray := prog_7_method_41_code
def yX5_row : MethodName := ⟨RX5, "row", "(II)I"⟩
abbrev cX5_code : ByteArray := prog_7_method_42_code
def yX5_code : MethodName := ⟨RX5, "code", "(IIII)I"⟩
abbrev cX5_scrap : ByteArray := prog_7_method_43_code
def yX5_scrap : MethodName := ⟨RX5, "scrap", "()I"⟩
abbrev cX5_isNumber : ByteArray := prog_7_method_44_code
def yX5_isNumber : MethodName := ⟨RX5, "isNumber", "(I)Z"⟩
abbrev cX5_isPlace : ByteArray := prog_7_method_45_code
def yX5_isPlace : MethodName := ⟨RX5, "isPlace", "(I)Z"⟩
abbrev cX5_isField : ByteArray := prog_7_method_46_code
def yX5_isField : MethodName := ⟨RX5, "isField", "(I)Z"⟩
abbrev cX5_isRight : ByteArray := prog_7_method_47_code
def yX5_isRight : MethodName := ⟨RX5, "isRight", "(IIII)Z"⟩
abbrev cX5_hindered : ByteArray := prog_7_method_48_code
def yX5_hindered : MethodName := ⟨RX5, "hindered", "(IIII)I"⟩
abbrev cX5_does : ByteArray := prog_7_method_49_code
def yX5_does : MethodName := ⟨RX5, "does", "(IIIII)I"⟩
abbrev cX5_run : ByteArray := prog_7_method_50_code
def yX5_run : MethodName := ⟨RX5, "run", "(II)I"⟩
abbrev cX5_count : ByteArray := prog_7_method_51_code
def yX5_count : MethodName := ⟨RX5, "count", "(I)I"⟩
def RJ9 : String := "java/lang/Math"
abbrev cJ9_max_7cf53 : ByteArray := prog_12_method_65_code
def yJ9_max_7cf53 : MethodName := ⟨RJ9, "max", "(II)I"⟩
abbrev cJ9_min_7cf53 : ByteArray := prog_12_method_69_code
def yJ9_min_7cf53 : MethodName := ⟨RJ9, "min", "(II)I"⟩
def RJ0 : String := "java/lang/String"
abbrev cJ0_charAt_5068e : ByteArray := prog_14_method_56_code
def yJ0_charAt_5068e : MethodName := ⟨RJ0, "charAt", "(I)C"⟩
abbrev cJ0_isLatin1_aae02 : ByteArray := prog_14_method_154_code
def yJ0_isLatin1_aae02 : MethodName := ⟨RJ0, "isLatin1", "()Z"⟩
abbrev cJ0_checkIndex_df160 : ByteArray := prog_14_method_155_code
def yJ0_checkIndex_df160 : MethodName := ⟨RJ0, "checkIndex", "(II)V"⟩
def RJ1 : String := "java/lang/StringLatin1"
abbrev cJ1_charAt_3b067 : ByteArray := prog_15_method_2_code
def yJ1_charAt_3b067 : MethodName := ⟨RJ1, "charAt", "([BI)C"⟩
def RJ2 : String := "java/lang/StringUTF16"
abbrev cJ2_getChar_3b067 : ByteArray := prog_16_method_5_code
def yJ2_getChar_3b067 : MethodName := ⟨RJ2, "getChar", "([BI)C"⟩
abbrev cJ2_length_9d52b : ByteArray := prog_16_method_6_code
def yJ2_length_9d52b : MethodName := ⟨RJ2, "length", "([B)I"⟩
abbrev cJ2_charAt_3b067 : ByteArray := prog_16_method_83_code
def yJ2_charAt_3b067 : MethodName := ⟨RJ2, "charAt", "([BI)C"⟩
abbrev cJ2_checkIndex_2214a : ByteArray := prog_16_method_91_code
def yJ2_checkIndex_2214a : MethodName := ⟨RJ2, "checkIndex", "(I[B)V"⟩
def RJ10 : String := "java/lang/System"
def RJ3 : String := "jdk/internal/util/Preconditions"
abbrev cJ3_checkIndex_8e157 : ByteArray := prog_19_method_11_code
def yJ3_checkIndex_8e157 : MethodName := ⟨RJ3, "checkIndex", "(IILjava/util/function/BiFunction;)I"⟩
def RL : String := "StoreNotesLaw"
abbrev cL_cell : ByteArray := method_2_code
def yL_cell : MethodName := ⟨RL, "cell", "([II)I"⟩
abbrev cL_make : ByteArray := method_3_code
def yL_make : MethodName := ⟨RL, "make", "(LStoreNotes;IIIZ[J)I"⟩
abbrev cL_push : ByteArray := method_4_code
def yL_push : MethodName := ⟨RL, "push", "(LStoreNotes;III[J)I"⟩
abbrev cL_put : ByteArray := method_5_code
def yL_put : MethodName := ⟨RL, "put", "(LStoreNotes;III[J)I"⟩
abbrev cL_get : ByteArray := method_6_code
def yL_get : MethodName := ⟨RL, "get", "(LStoreNotes;III[J)I"⟩
abbrev cL_move : ByteArray := method_7_code
def yL_move : MethodName := ⟨RL, "move", "(LStoreNotes;II[J)I"⟩
abbrev cL_keep : ByteArray := method_8_code
def yL_keep : MethodName := ⟨RL, "keep", "(LStoreNotes;I[J)I"⟩
abbrev cL_back : ByteArray := method_9_code
def yL_back : MethodName := ⟨RL, "back", "(LStoreNotes;I[J)I"⟩
abbrev cL_weak : ByteArray := method_10_code
def yL_weak : MethodName := ⟨RL, "weak", "(LStoreNotes;II[J)I"⟩
abbrev cL_strong : ByteArray := method_11_code
def yL_strong : MethodName := ⟨RL, "strong", "(LStoreNotes;II[J)I"⟩
abbrev cL_wish : ByteArray := method_12_code
def yL_wish : MethodName := ⟨RL, "wish", "(LStoreNotes;I[J)I"⟩
abbrev cL_collect : ByteArray := method_13_code
def yL_collect : MethodName := ⟨RL, "collect", "(LStoreNotes;I[J)I"⟩
abbrev cL_root : ByteArray := method_14_code
def yL_root : MethodName := ⟨RL, "root", "(LStoreNotes;I[J)I"⟩
abbrev cL_about : ByteArray := method_15_code
def yL_about : MethodName := ⟨RL, "about", "(LStoreNotes;II[J)I"⟩
abbrev cL_word : ByteArray := method_16_code
def yL_word : MethodName := ⟨RL, "word", "(LStoreNotes;I[J)I"⟩
abbrev cL_row : ByteArray := method_17_code
def yL_row : MethodName := ⟨RL, "row", "(LStoreNotes;II[J)I"⟩
abbrev cL_code : ByteArray := method_18_code
def yL_code : MethodName := ⟨RL, "code", "(LStoreNotes;IIII[J)I"⟩
abbrev cL_run : ByteArray := method_19_code
def yL_run : MethodName := ⟨RL, "run", "(LStoreNotes;II[J)I"⟩
abbrev cL_count : ByteArray := method_20_code
def yL_count : MethodName := ⟨RL, "count", "(LStoreNotes;I[J)I"⟩
abbrev cL_law : ByteArray := code
def yL_law : MethodName := ⟨RL, "law", "([I)Z"⟩
abbrev vwCl : List vw_C := [(RX0, TX0, 10), (RX1, TX1, 13), (RX2, TX2, 6), (RX3, TX3, 2), (RX4, TX4, 2), (RX5, TX5, 37)]
end
section
theorem dX0_init_0 : decode cX0_init 0 = .ok (.aload_n 0, 1) := by decide +kernel
theorem dX0_init_1 : decode cX0_init 1 = .ok (.invokespecial 3, 3) := by decide +kernel
theorem dX0_init_4 : decode cX0_init 4 = .ok (.aload_n 0, 1) := by decide +kernel
theorem dX0_init_5 : decode cX0_init 5 = .ok (.iload_n 1, 1) := by decide +kernel
theorem dX0_init_6 : decode cX0_init 6 = .ok (.putfield 9, 3) := by decide +kernel
theorem dX0_init_9 : decode cX0_init 9 = .ok (.aload_n 0, 1) := by decide +kernel
theorem dX0_init_10 : decode cX0_init 10 = .ok (.iload_n 2, 1) := by decide +kernel
theorem dX0_init_11 : decode cX0_init 11 = .ok (.putfield 15, 3) := by decide +kernel
theorem dX0_init_14 : decode cX0_init 14 = .ok (.aload_n 0, 1) := by decide +kernel
theorem dX0_init_15 : decode cX0_init 15 = .ok (.iload_n 3, 1) := by decide +kernel
theorem dX0_init_16 : decode cX0_init 16 = .ok (.putfield 18, 3) := by decide +kernel
theorem dX0_init_19 : decode cX0_init 19 = .ok (.aload_n 0, 1) := by decide +kernel
theorem dX0_init_20 : decode cX0_init 20 = .ok (.iload 4, 2) := by decide +kernel
theorem dX0_init_22 : decode cX0_init 22 = .ok (.putfield 21, 3) := by decide +kernel
theorem dX0_init_25 : decode cX0_init 25 = .ok (.aload_n 0, 1) := by decide +kernel
theorem dX0_init_26 : decode cX0_init 26 = .ok (.iload_n 2, 1) := by decide +kernel
theorem dX0_init_27 : decode cX0_init 27 = .ok (.putfield 24, 3) := by decide +kernel
theorem dX0_init_30 : decode cX0_init 30 = .ok (.return_, 1) := by decide +kernel
theorem dX0_isTaken_0 : decode cX0_isTaken 0 = .ok (.iload_n 1, 1) := by decide +kernel
theorem dX0_isTaken_1 : decode cX0_isTaken 1 = .ok (.aload_n 0, 1) := by decide +kernel
theorem dX0_isTaken_2 : decode cX0_isTaken 2 = .ok (.getfield 24, 3) := by decide +kernel
theorem dX0_isTaken_5 : decode cX0_isTaken 5 = .ok (.if_icmp .lt 20, 3) := by decide +kernel
theorem dX0_isTaken_8 : decode cX0_isTaken 8 = .ok (.iload_n 1, 1) := by decide +kernel
theorem dX0_isTaken_9 : decode cX0_isTaken 9 = .ok (.aload_n 0, 1) := by decide +kernel
theorem dX0_isTaken_10 : decode cX0_isTaken 10 = .ok (.getfield 24, 3) := by decide +kernel
theorem dX0_isTaken_13 : decode cX0_isTaken 13 = .ok (.aload_n 0, 1) := by decide +kernel
theorem dX0_isTaken_14 : decode cX0_isTaken 14 = .ok (.getfield 27, 3) := by decide +kernel
theorem dX0_isTaken_17 : decode cX0_isTaken 17 = .ok (.iadd, 1) := by decide +kernel
theorem dX0_isTaken_18 : decode cX0_isTaken 18 = .ok (.if_icmp .ge 7, 3) := by decide +kernel
theorem dX0_isTaken_21 : decode cX0_isTaken 21 = .ok (.iconst 1, 1) := by decide +kernel
theorem dX0_isTaken_22 : decode cX0_isTaken 22 = .ok (.goto 4, 3) := by decide +kernel
theorem dX0_isTaken_25 : decode cX0_isTaken 25 = .ok (.iconst 0, 1) := by decide +kernel
theorem dX0_isTaken_26 : decode cX0_isTaken 26 = .ok (.ireturn, 1) := by decide +kernel
theorem dX0_isInFrom_0 : decode cX0_isInFrom 0 = .ok (.aload_n 0, 1) := by decide +kernel
theorem dX0_isInFrom_1 : decode cX0_isInFrom 1 = .ok (.getfield 30, 3) := by decide +kernel
theorem dX0_isInFrom_4 : decode cX0_isInFrom 4 = .ok (.ifCond .eq 28, 3) := by decide +kernel
theorem dX0_isInFrom_7 : decode cX0_isInFrom 7 = .ok (.iload_n 1, 1) := by decide +kernel
theorem dX0_isInFrom_8 : decode cX0_isInFrom 8 = .ok (.aload_n 0, 1) := by decide +kernel
theorem dX0_isInFrom_9 : decode cX0_isInFrom 9 = .ok (.getfield 30, 3) := by decide +kernel
theorem dX0_isInFrom_12 : decode cX0_isInFrom 12 = .ok (.if_icmp .lt 20, 3) := by decide +kernel
theorem dX0_isInFrom_15 : decode cX0_isInFrom 15 = .ok (.iload_n 1, 1) := by decide +kernel
theorem dX0_isInFrom_16 : decode cX0_isInFrom 16 = .ok (.aload_n 0, 1) := by decide +kernel
theorem dX0_isInFrom_17 : decode cX0_isInFrom 17 = .ok (.getfield 30, 3) := by decide +kernel
theorem dX0_isInFrom_20 : decode cX0_isInFrom 20 = .ok (.aload_n 0, 1) := by decide +kernel
theorem dX0_isInFrom_21 : decode cX0_isInFrom 21 = .ok (.getfield 18, 3) := by decide +kernel
theorem dX0_isInFrom_24 : decode cX0_isInFrom 24 = .ok (.iadd, 1) := by decide +kernel
theorem dX0_isInFrom_25 : decode cX0_isInFrom 25 = .ok (.if_icmp .ge 7, 3) := by decide +kernel
theorem dX0_isInFrom_28 : decode cX0_isInFrom 28 = .ok (.iconst 1, 1) := by decide +kernel
theorem dX0_isInFrom_29 : decode cX0_isInFrom 29 = .ok (.goto 4, 3) := by decide +kernel
theorem dX0_isInFrom_32 : decode cX0_isInFrom 32 = .ok (.iconst 0, 1) := by decide +kernel
theorem dX0_isInFrom_33 : decode cX0_isInFrom 33 = .ok (.ireturn, 1) := by decide +kernel
theorem dX0_fits_0 : decode cX0_fits 0 = .ok (.aload_n 0, 1) := by decide +kernel
theorem dX0_fits_1 : decode cX0_fits 1 = .ok (.getfield 27, 3) := by decide +kernel
theorem dX0_fits_4 : decode cX0_fits 4 = .ok (.aload_n 0, 1) := by decide +kernel
theorem dX0_fits_5 : decode cX0_fits 5 = .ok (.getfield 33, 3) := by decide +kernel
theorem dX0_fits_8 : decode cX0_fits 8 = .ok (.iadd, 1) := by decide +kernel
theorem dX0_fits_9 : decode cX0_fits 9 = .ok (.iload_n 1, 1) := by decide +kernel
theorem dX0_fits_10 : decode cX0_fits 10 = .ok (.iadd, 1) := by decide +kernel
theorem dX0_fits_11 : decode cX0_fits 11 = .ok (.aload_n 0, 1) := by decide +kernel
theorem dX0_fits_12 : decode cX0_fits 12 = .ok (.getfield 18, 3) := by decide +kernel
theorem dX0_fits_15 : decode cX0_fits 15 = .ok (.if_icmp .gt 7, 3) := by decide +kernel
theorem dX0_fits_18 : decode cX0_fits 18 = .ok (.iconst 1, 1) := by decide +kernel
theorem dX0_fits_19 : decode cX0_fits 19 = .ok (.goto 4, 3) := by decide +kernel
theorem dX0_fits_22 : decode cX0_fits 22 = .ok (.iconst 0, 1) := by decide +kernel
theorem dX0_fits_23 : decode cX0_fits 23 = .ok (.ireturn, 1) := by decide +kernel
theorem dX0_take_0 : decode cX0_take 0 = .ok (.aload_n 0, 1) := by decide +kernel
theorem dX0_take_1 : decode cX0_take 1 = .ok (.getfield 24, 3) := by decide +kernel
theorem dX0_take_4 : decode cX0_take 4 = .ok (.aload_n 0, 1) := by decide +kernel
theorem dX0_take_5 : decode cX0_take 5 = .ok (.getfield 27, 3) := by decide +kernel
theorem dX0_take_8 : decode cX0_take 8 = .ok (.iadd, 1) := by decide +kernel
theorem dX0_take_9 : decode cX0_take 9 = .ok (.istore_n 2, 1) := by decide +kernel
theorem dX0_take_10 : decode cX0_take 10 = .ok (.aload_n 0, 1) := by decide +kernel
theorem dX0_take_11 : decode cX0_take 11 = .ok (.dup, 1) := by decide +kernel
theorem dX0_take_12 : decode cX0_take 12 = .ok (.getfield 27, 3) := by decide +kernel
theorem dX0_take_15 : decode cX0_take 15 = .ok (.iload_n 1, 1) := by decide +kernel
theorem dX0_take_16 : decode cX0_take 16 = .ok (.iadd, 1) := by decide +kernel
theorem dX0_take_17 : decode cX0_take 17 = .ok (.putfield 27, 3) := by decide +kernel
theorem dX0_take_20 : decode cX0_take 20 = .ok (.iload_n 2, 1) := by decide +kernel
theorem dX0_take_21 : decode cX0_take 21 = .ok (.ireturn, 1) := by decide +kernel
theorem dX0_begin_0 : decode cX0_begin 0 = .ok (.iload_n 1, 1) := by decide +kernel
theorem dX0_begin_1 : decode cX0_begin 1 = .ok (.ifCond .eq 55, 3) := by decide +kernel
theorem dX0_begin_4 : decode cX0_begin 4 = .ok (.aload_n 0, 1) := by decide +kernel
theorem dX0_begin_5 : decode cX0_begin 5 = .ok (.aload_n 0, 1) := by decide +kernel
theorem dX0_begin_6 : decode cX0_begin 6 = .ok (.getfield 24, 3) := by decide +kernel
theorem dX0_begin_9 : decode cX0_begin 9 = .ok (.putfield 30, 3) := by decide +kernel
theorem dX0_begin_12 : decode cX0_begin 12 = .ok (.aload_n 0, 1) := by decide +kernel
theorem dX0_begin_13 : decode cX0_begin 13 = .ok (.aload_n 0, 1) := by decide +kernel
theorem dX0_begin_14 : decode cX0_begin 14 = .ok (.getfield 27, 3) := by decide +kernel
theorem dX0_begin_17 : decode cX0_begin 17 = .ok (.putfield 33, 3) := by decide +kernel
theorem dX0_begin_20 : decode cX0_begin 20 = .ok (.aload_n 0, 1) := by decide +kernel
theorem dX0_begin_21 : decode cX0_begin 21 = .ok (.aload_n 0, 1) := by decide +kernel
theorem dX0_begin_22 : decode cX0_begin 22 = .ok (.getfield 30, 3) := by decide +kernel
theorem dX0_begin_25 : decode cX0_begin 25 = .ok (.aload_n 0, 1) := by decide +kernel
theorem dX0_begin_26 : decode cX0_begin 26 = .ok (.getfield 15, 3) := by decide +kernel
theorem dX0_begin_29 : decode cX0_begin 29 = .ok (.if_icmp .ne 15, 3) := by decide +kernel
theorem dX0_begin_32 : decode cX0_begin 32 = .ok (.aload_n 0, 1) := by decide +kernel
theorem dX0_begin_33 : decode cX0_begin 33 = .ok (.getfield 15, 3) := by decide +kernel
theorem dX0_begin_36 : decode cX0_begin 36 = .ok (.aload_n 0, 1) := by decide +kernel
theorem dX0_begin_37 : decode cX0_begin 37 = .ok (.getfield 18, 3) := by decide +kernel
theorem dX0_begin_40 : decode cX0_begin 40 = .ok (.iadd, 1) := by decide +kernel
theorem dX0_begin_41 : decode cX0_begin 41 = .ok (.goto 7, 3) := by decide +kernel
theorem dX0_begin_44 : decode cX0_begin 44 = .ok (.aload_n 0, 1) := by decide +kernel
theorem dX0_begin_45 : decode cX0_begin 45 = .ok (.getfield 15, 3) := by decide +kernel
theorem dX0_begin_48 : decode cX0_begin 48 = .ok (.putfield 24, 3) := by decide +kernel
theorem dX0_begin_51 : decode cX0_begin 51 = .ok (.aload_n 0, 1) := by decide +kernel
theorem dX0_begin_52 : decode cX0_begin 52 = .ok (.iconst 0, 1) := by decide +kernel
theorem dX0_begin_53 : decode cX0_begin 53 = .ok (.putfield 27, 3) := by decide +kernel
theorem dX0_begin_56 : decode cX0_begin 56 = .ok (.aload_n 0, 1) := by decide +kernel
theorem dX0_begin_57 : decode cX0_begin 57 = .ok (.aload_n 0, 1) := by decide +kernel
theorem dX0_begin_58 : decode cX0_begin 58 = .ok (.getfield 27, 3) := by decide +kernel
theorem dX0_begin_61 : decode cX0_begin 61 = .ok (.putfield 36, 3) := by decide +kernel
theorem dX0_begin_64 : decode cX0_begin 64 = .ok (.return_, 1) := by decide +kernel
theorem dX0_end_0 : decode cX0_end 0 = .ok (.aload_n 0, 1) := by decide +kernel
theorem dX0_end_1 : decode cX0_end 1 = .ok (.iconst 0, 1) := by decide +kernel
theorem dX0_end_2 : decode cX0_end 2 = .ok (.putfield 30, 3) := by decide +kernel
theorem dX0_end_5 : decode cX0_end 5 = .ok (.aload_n 0, 1) := by decide +kernel
theorem dX0_end_6 : decode cX0_end 6 = .ok (.iconst 0, 1) := by decide +kernel
theorem dX0_end_7 : decode cX0_end 7 = .ok (.putfield 33, 3) := by decide +kernel
theorem dX0_end_10 : decode cX0_end 10 = .ok (.return_, 1) := by decide +kernel
theorem dX1_init_0 : decode cX1_init 0 = .ok (.aload_n 0, 1) := by decide +kernel
theorem dX1_init_1 : decode cX1_init 1 = .ok (.invokespecial 3, 3) := by decide +kernel
theorem dX1_init_4 : decode cX1_init 4 = .ok (.aload_n 0, 1) := by decide +kernel
theorem dX1_init_5 : decode cX1_init 5 = .ok (.iconst 3, 1) := by decide +kernel
theorem dX1_init_6 : decode cX1_init 6 = .ok (.anewarray 9, 3) := by decide +kernel
theorem dX1_init_9 : decode cX1_init 9 = .ok (.putfield 11, 3) := by decide +kernel
theorem dX1_init_12 : decode cX1_init 12 = .ok (.aload_n 0, 1) := by decide +kernel
theorem dX1_init_13 : decode cX1_init 13 = .ok (.new 17, 3) := by decide +kernel
theorem dX1_init_16 : decode cX1_init 16 = .ok (.dup, 1) := by decide +kernel
theorem dX1_init_17 : decode cX1_init 17 = .ok (.bipush 16, 2) := by decide +kernel
theorem dX1_init_19 : decode cX1_init 19 = .ok (.bipush 16, 2) := by decide +kernel
theorem dX1_init_21 : decode cX1_init 21 = .ok (.invokespecial 19, 3) := by decide +kernel
theorem dX1_init_24 : decode cX1_init 24 = .ok (.putfield 22, 3) := by decide +kernel
theorem dX1_init_27 : decode cX1_init 27 = .ok (.aload_n 0, 1) := by decide +kernel
theorem dX1_init_28 : decode cX1_init 28 = .ok (.new 17, 3) := by decide +kernel
theorem dX1_init_31 : decode cX1_init 31 = .ok (.dup, 1) := by decide +kernel
theorem dX1_init_32 : decode cX1_init 32 = .ok (.bipush 40, 2) := by decide +kernel
theorem dX1_init_34 : decode cX1_init 34 = .ok (.iconst 0, 1) := by decide +kernel
theorem dX1_init_35 : decode cX1_init 35 = .ok (.invokespecial 19, 3) := by decide +kernel
theorem dX1_init_38 : decode cX1_init 38 = .ok (.putfield 26, 3) := by decide +kernel
theorem dX1_init_41 : decode cX1_init 41 = .ok (.aload_n 0, 1) := by decide +kernel
theorem dX1_init_42 : decode cX1_init 42 = .ok (.new 17, 3) := by decide +kernel
theorem dX1_init_45 : decode cX1_init 45 = .ok (.dup, 1) := by decide +kernel
theorem dX1_init_46 : decode cX1_init 46 = .ok (.bipush 8, 2) := by decide +kernel
theorem dX1_init_48 : decode cX1_init 48 = .ok (.bipush 8, 2) := by decide +kernel
theorem dX1_init_50 : decode cX1_init 50 = .ok (.invokespecial 19, 3) := by decide +kernel
theorem dX1_init_53 : decode cX1_init 53 = .ok (.putfield 29, 3) := by decide +kernel
theorem dX1_init_56 : decode cX1_init 56 = .ok (.aload_n 0, 1) := by decide +kernel
theorem dX1_init_57 : decode cX1_init 57 = .ok (.iconst 1, 1) := by decide +kernel
theorem dX1_init_58 : decode cX1_init 58 = .ok (.bipush 14, 2) := by decide +kernel
theorem dX1_init_60 : decode cX1_init 60 = .ok (.iload_n 1, 1) := by decide +kernel
theorem dX1_init_61 : decode cX1_init 61 = .ok (.imul, 1) := by decide +kernel
theorem dX1_init_62 : decode cX1_init 62 = .ok (.iadd, 1) := by decide +kernel
theorem dX1_init_63 : decode cX1_init 63 = .ok (.newarray .int, 2) := by decide +kernel
theorem dX1_init_65 : decode cX1_init 65 = .ok (.putfield 32, 3) := by decide +kernel
theorem dX1_init_68 : decode cX1_init 68 = .ok (.aload_n 0, 1) := by decide +kernel
theorem dX1_init_69 : decode cX1_init 69 = .ok (.getfield 11, 3) := by decide +kernel
theorem dX1_init_72 : decode cX1_init 72 = .ok (.iconst 0, 1) := by decide +kernel
theorem dX1_init_73 : decode cX1_init 73 = .ok (.new 9, 3) := by decide +kernel
theorem dX1_init_76 : decode cX1_init 76 = .ok (.dup, 1) := by decide +kernel
theorem dX1_init_77 : decode cX1_init 77 = .ok (.iconst 0, 1) := by decide +kernel
theorem dX1_init_78 : decode cX1_init 78 = .ok (.iconst 1, 1) := by decide +kernel
theorem dX1_init_79 : decode cX1_init 79 = .ok (.iload_n 1, 1) := by decide +kernel
theorem dX1_init_80 : decode cX1_init 80 = .ok (.iload_n 2, 1) := by decide +kernel
theorem dX1_init_81 : decode cX1_init 81 = .ok (.invokespecial 36, 3) := by decide +kernel
theorem dX1_init_84 : decode cX1_init 84 = .ok (.aastore, 1) := by decide +kernel
theorem dX1_init_85 : decode cX1_init 85 = .ok (.aload_n 0, 1) := by decide +kernel
theorem dX1_init_86 : decode cX1_init 86 = .ok (.getfield 11, 3) := by decide +kernel
theorem dX1_init_89 : decode cX1_init 89 = .ok (.iconst 1, 1) := by decide +kernel
theorem dX1_init_90 : decode cX1_init 90 = .ok (.new 9, 3) := by decide +kernel
theorem dX1_init_93 : decode cX1_init 93 = .ok (.dup, 1) := by decide +kernel
theorem dX1_init_94 : decode cX1_init 94 = .ok (.iconst 1, 1) := by decide +kernel
theorem dX1_init_95 : decode cX1_init 95 = .ok (.iconst 1, 1) := by decide +kernel
theorem dX1_init_96 : decode cX1_init 96 = .ok (.iconst 2, 1) := by decide +kernel
theorem dX1_init_97 : decode cX1_init 97 = .ok (.iload_n 1, 1) := by decide +kernel
theorem dX1_init_98 : decode cX1_init 98 = .ok (.imul, 1) := by decide +kernel
theorem dX1_init_99 : decode cX1_init 99 = .ok (.iadd, 1) := by decide +kernel
theorem dX1_init_100 : decode cX1_init 100 = .ok (.iconst 2, 1) := by decide +kernel
theorem dX1_init_101 : decode cX1_init 101 = .ok (.iload_n 1, 1) := by decide +kernel
theorem dX1_init_102 : decode cX1_init 102 = .ok (.imul, 1) := by decide +kernel
theorem dX1_init_103 : decode cX1_init 103 = .ok (.iload_n 3, 1) := by decide +kernel
theorem dX1_init_104 : decode cX1_init 104 = .ok (.invokespecial 36, 3) := by decide +kernel
theorem dX1_init_107 : decode cX1_init 107 = .ok (.aastore, 1) := by decide +kernel
theorem dX1_init_108 : decode cX1_init 108 = .ok (.aload_n 0, 1) := by decide +kernel
theorem dX1_init_109 : decode cX1_init 109 = .ok (.getfield 11, 3) := by decide +kernel
theorem dX1_init_112 : decode cX1_init 112 = .ok (.iconst 2, 1) := by decide +kernel
theorem dX1_init_113 : decode cX1_init 113 = .ok (.new 9, 3) := by decide +kernel
theorem dX1_init_116 : decode cX1_init 116 = .ok (.dup, 1) := by decide +kernel
theorem dX1_init_117 : decode cX1_init 117 = .ok (.iconst 2, 1) := by decide +kernel
theorem dX1_init_118 : decode cX1_init 118 = .ok (.iconst 1, 1) := by decide +kernel
theorem dX1_init_119 : decode cX1_init 119 = .ok (.bipush 6, 2) := by decide +kernel
theorem dX1_init_121 : decode cX1_init 121 = .ok (.iload_n 1, 1) := by decide +kernel
theorem dX1_init_122 : decode cX1_init 122 = .ok (.imul, 1) := by decide +kernel
theorem dX1_init_123 : decode cX1_init 123 = .ok (.iadd, 1) := by decide +kernel
theorem dX1_init_124 : decode cX1_init 124 = .ok (.iconst 4, 1) := by decide +kernel
theorem dX1_init_125 : decode cX1_init 125 = .ok (.iload_n 1, 1) := by decide +kernel
theorem dX1_init_126 : decode cX1_init 126 = .ok (.imul, 1) := by decide +kernel
theorem dX1_init_127 : decode cX1_init 127 = .ok (.bipush 7, 2) := by decide +kernel
theorem dX1_init_129 : decode cX1_init 129 = .ok (.invokespecial 36, 3) := by decide +kernel
theorem dX1_init_132 : decode cX1_init 132 = .ok (.aastore, 1) := by decide +kernel
theorem dX1_init_133 : decode cX1_init 133 = .ok (.aload_n 0, 1) := by decide +kernel
theorem dX1_init_134 : decode cX1_init 134 = .ok (.new 17, 3) := by decide +kernel
theorem dX1_init_137 : decode cX1_init 137 = .ok (.dup, 1) := by decide +kernel
theorem dX1_init_138 : decode cX1_init 138 = .ok (.bipush 7, 2) := by decide +kernel
theorem dX1_init_140 : decode cX1_init 140 = .ok (.iload_n 1, 1) := by decide +kernel
theorem dX1_init_141 : decode cX1_init 141 = .ok (.imul, 1) := by decide +kernel
theorem dX1_init_142 : decode cX1_init 142 = .ok (.iconst 2, 1) := by decide +kernel
theorem dX1_init_143 : decode cX1_init 143 = .ok (.idiv, 1) := by decide +kernel
theorem dX1_init_144 : decode cX1_init 144 = .ok (.iconst 0, 1) := by decide +kernel
theorem dX1_init_145 : decode cX1_init 145 = .ok (.invokespecial 19, 3) := by decide +kernel
theorem dX1_init_148 : decode cX1_init 148 = .ok (.putfield 39, 3) := by decide +kernel
theorem dX1_init_151 : decode cX1_init 151 = .ok (.aload_n 0, 1) := by decide +kernel
theorem dX1_init_152 : decode cX1_init 152 = .ok (.new 17, 3) := by decide +kernel
theorem dX1_init_155 : decode cX1_init 155 = .ok (.dup, 1) := by decide +kernel
theorem dX1_init_156 : decode cX1_init 156 = .ok (.bipush 7, 2) := by decide +kernel
theorem dX1_init_158 : decode cX1_init 158 = .ok (.iload_n 1, 1) := by decide +kernel
theorem dX1_init_159 : decode cX1_init 159 = .ok (.imul, 1) := by decide +kernel
theorem dX1_init_160 : decode cX1_init 160 = .ok (.iconst 2, 1) := by decide +kernel
theorem dX1_init_161 : decode cX1_init 161 = .ok (.idiv, 1) := by decide +kernel
theorem dX1_init_162 : decode cX1_init 162 = .ok (.iconst 0, 1) := by decide +kernel
theorem dX1_init_163 : decode cX1_init 163 = .ok (.invokespecial 19, 3) := by decide +kernel
theorem dX1_init_166 : decode cX1_init 166 = .ok (.putfield 42, 3) := by decide +kernel
theorem dX1_init_169 : decode cX1_init 169 = .ok (.aload_n 0, 1) := by decide +kernel
theorem dX1_init_170 : decode cX1_init 170 = .ok (.new 17, 3) := by decide +kernel
theorem dX1_init_173 : decode cX1_init 173 = .ok (.dup, 1) := by decide +kernel
theorem dX1_init_174 : decode cX1_init 174 = .ok (.iload 4, 2) := by decide +kernel
theorem dX1_init_176 : decode cX1_init 176 = .ok (.iconst 0, 1) := by decide +kernel
theorem dX1_init_177 : decode cX1_init 177 = .ok (.invokespecial 19, 3) := by decide +kernel
theorem dX1_init_180 : decode cX1_init 180 = .ok (.putfield 45, 3) := by decide +kernel
theorem dX1_init_183 : decode cX1_init 183 = .ok (.aload_n 0, 1) := by decide +kernel
theorem dX1_init_184 : decode cX1_init 184 = .ok (.iload_n 1, 1) := by decide +kernel
theorem dX1_init_185 : decode cX1_init 185 = .ok (.invokestatic 48, 3) := by decide +kernel
theorem dX1_init_188 : decode cX1_init 188 = .ok (.putfield 52, 3) := by decide +kernel
theorem dX1_init_191 : decode cX1_init 191 = .ok (.aload_n 0, 1) := by decide +kernel
theorem dX1_init_192 : decode cX1_init 192 = .ok (.iload_n 1, 1) := by decide +kernel
theorem dX1_init_193 : decode cX1_init 193 = .ok (.invokestatic 48, 3) := by decide +kernel
theorem dX1_init_196 : decode cX1_init 196 = .ok (.putfield 56, 3) := by decide +kernel
theorem dX1_init_199 : decode cX1_init 199 = .ok (.return_, 1) := by decide +kernel
theorem dX1_newRows_0 : decode cX1_newRows 0 = .ok (.iconst 2, 1) := by decide +kernel
theorem dX1_newRows_1 : decode cX1_newRows 1 = .ok (.anewarray 17, 3) := by decide +kernel
theorem dX1_newRows_4 : decode cX1_newRows 4 = .ok (.astore_n 1, 1) := by decide +kernel
theorem dX1_newRows_5 : decode cX1_newRows 5 = .ok (.aload_n 1, 1) := by decide +kernel
theorem dX1_newRows_6 : decode cX1_newRows 6 = .ok (.iconst 0, 1) := by decide +kernel
theorem dX1_newRows_7 : decode cX1_newRows 7 = .ok (.new 17, 3) := by decide +kernel
theorem dX1_newRows_10 : decode cX1_newRows 10 = .ok (.dup, 1) := by decide +kernel
theorem dX1_newRows_11 : decode cX1_newRows 11 = .ok (.bipush 6, 2) := by decide +kernel
theorem dX1_newRows_13 : decode cX1_newRows 13 = .ok (.iload_n 0, 1) := by decide +kernel
theorem dX1_newRows_14 : decode cX1_newRows 14 = .ok (.imul, 1) := by decide +kernel
theorem dX1_newRows_15 : decode cX1_newRows 15 = .ok (.iconst 0, 1) := by decide +kernel
theorem dX1_newRows_16 : decode cX1_newRows 16 = .ok (.invokespecial 19, 3) := by decide +kernel
theorem dX1_newRows_19 : decode cX1_newRows 19 = .ok (.aastore, 1) := by decide +kernel
theorem dX1_newRows_20 : decode cX1_newRows 20 = .ok (.aload_n 1, 1) := by decide +kernel
theorem dX1_newRows_21 : decode cX1_newRows 21 = .ok (.iconst 1, 1) := by decide +kernel
theorem dX1_newRows_22 : decode cX1_newRows 22 = .ok (.new 17, 3) := by decide +kernel
theorem dX1_newRows_25 : decode cX1_newRows 25 = .ok (.dup, 1) := by decide +kernel
theorem dX1_newRows_26 : decode cX1_newRows 26 = .ok (.iconst 4, 1) := by decide +kernel
theorem dX1_newRows_27 : decode cX1_newRows 27 = .ok (.iload_n 0, 1) := by decide +kernel
theorem dX1_newRows_28 : decode cX1_newRows 28 = .ok (.imul, 1) := by decide +kernel
theorem dX1_newRows_29 : decode cX1_newRows 29 = .ok (.iconst 0, 1) := by decide +kernel
theorem dX1_newRows_30 : decode cX1_newRows 30 = .ok (.invokespecial 19, 3) := by decide +kernel
theorem dX1_newRows_33 : decode cX1_newRows 33 = .ok (.aastore, 1) := by decide +kernel
theorem dX1_newRows_34 : decode cX1_newRows 34 = .ok (.aload_n 1, 1) := by decide +kernel
theorem dX1_newRows_35 : decode cX1_newRows 35 = .ok (.areturn, 1) := by decide +kernel
theorem dX1_fieldsOf_0 : decode cX1_fieldsOf 0 = .ok (.aload_n 0, 1) := by decide +kernel
theorem dX1_fieldsOf_1 : decode cX1_fieldsOf 1 = .ok (.getfield 32, 3) := by decide +kernel
theorem dX1_fieldsOf_4 : decode cX1_fieldsOf 4 = .ok (.iload_n 1, 1) := by decide +kernel
theorem dX1_fieldsOf_5 : decode cX1_fieldsOf 5 = .ok (.iaload, 1) := by decide +kernel
theorem dX1_fieldsOf_6 : decode cX1_fieldsOf 6 = .ok (.bipush 7, 2) := by decide +kernel
theorem dX1_fieldsOf_8 : decode cX1_fieldsOf 8 = .ok (.iand, 1) := by decide +kernel
theorem dX1_fieldsOf_9 : decode cX1_fieldsOf 9 = .ok (.ireturn, 1) := by decide +kernel
theorem dX1_ageOf_0 : decode cX1_ageOf 0 = .ok (.aload_n 0, 1) := by decide +kernel
theorem dX1_ageOf_1 : decode cX1_ageOf 1 = .ok (.getfield 32, 3) := by decide +kernel
theorem dX1_ageOf_4 : decode cX1_ageOf 4 = .ok (.iload_n 1, 1) := by decide +kernel
theorem dX1_ageOf_5 : decode cX1_ageOf 5 = .ok (.iaload, 1) := by decide +kernel
theorem dX1_ageOf_6 : decode cX1_ageOf 6 = .ok (.iconst 3, 1) := by decide +kernel
theorem dX1_ageOf_7 : decode cX1_ageOf 7 = .ok (.ishr, 1) := by decide +kernel
theorem dX1_ageOf_8 : decode cX1_ageOf 8 = .ok (.bipush 7, 2) := by decide +kernel
theorem dX1_ageOf_10 : decode cX1_ageOf 10 = .ok (.iand, 1) := by decide +kernel
theorem dX1_ageOf_11 : decode cX1_ageOf 11 = .ok (.ireturn, 1) := by decide +kernel
theorem dX1_isKeen_0 : decode cX1_isKeen 0 = .ok (.aload_n 0, 1) := by decide +kernel
theorem dX1_isKeen_1 : decode cX1_isKeen 1 = .ok (.getfield 32, 3) := by decide +kernel
theorem dX1_isKeen_4 : decode cX1_isKeen 4 = .ok (.iload_n 1, 1) := by decide +kernel
theorem dX1_isKeen_5 : decode cX1_isKeen 5 = .ok (.iaload, 1) := by decide +kernel
theorem dX1_isKeen_6 : decode cX1_isKeen 6 = .ok (.bipush 64, 2) := by decide +kernel
theorem dX1_isKeen_8 : decode cX1_isKeen 8 = .ok (.iand, 1) := by decide +kernel
theorem dX1_isKeen_9 : decode cX1_isKeen 9 = .ok (.ifCond .eq 7, 3) := by decide +kernel
theorem dX1_isKeen_12 : decode cX1_isKeen 12 = .ok (.iconst 1, 1) := by decide +kernel
theorem dX1_isKeen_13 : decode cX1_isKeen 13 = .ok (.goto 4, 3) := by decide +kernel
theorem dX1_isKeen_16 : decode cX1_isKeen 16 = .ok (.iconst 0, 1) := by decide +kernel
theorem dX1_isKeen_17 : decode cX1_isKeen 17 = .ok (.ireturn, 1) := by decide +kernel
theorem dX1_labelOf_0 : decode cX1_labelOf 0 = .ok (.aload_n 0, 1) := by decide +kernel
theorem dX1_labelOf_1 : decode cX1_labelOf 1 = .ok (.getfield 32, 3) := by decide +kernel
theorem dX1_labelOf_4 : decode cX1_labelOf 4 = .ok (.iload_n 1, 1) := by decide +kernel
theorem dX1_labelOf_5 : decode cX1_labelOf 5 = .ok (.iconst 1, 1) := by decide +kernel
theorem dX1_labelOf_6 : decode cX1_labelOf 6 = .ok (.iadd, 1) := by decide +kernel
theorem dX1_labelOf_7 : decode cX1_labelOf 7 = .ok (.iaload, 1) := by decide +kernel
theorem dX1_labelOf_8 : decode cX1_labelOf 8 = .ok (.ireturn, 1) := by decide +kernel
theorem dX1_hasField_0 : decode cX1_hasField 0 = .ok (.iload_n 2, 1) := by decide +kernel
theorem dX1_hasField_1 : decode cX1_hasField 1 = .ok (.ifCond .lt 16, 3) := by decide +kernel
theorem dX1_hasField_4 : decode cX1_hasField 4 = .ok (.iload_n 2, 1) := by decide +kernel
theorem dX1_hasField_5 : decode cX1_hasField 5 = .ok (.aload_n 0, 1) := by decide +kernel
theorem dX1_hasField_6 : decode cX1_hasField 6 = .ok (.iload_n 1, 1) := by decide +kernel
theorem dX1_hasField_7 : decode cX1_hasField 7 = .ok (.invokevirtual 59, 3) := by decide +kernel
theorem dX1_hasField_10 : decode cX1_hasField 10 = .ok (.if_icmp .ge 7, 3) := by decide +kernel
theorem dX1_hasField_13 : decode cX1_hasField 13 = .ok (.iconst 1, 1) := by decide +kernel
theorem dX1_hasField_14 : decode cX1_hasField 14 = .ok (.goto 4, 3) := by decide +kernel
theorem dX1_hasField_17 : decode cX1_hasField 17 = .ok (.iconst 0, 1) := by decide +kernel
theorem dX1_hasField_18 : decode cX1_hasField 18 = .ok (.ireturn, 1) := by decide +kernel
theorem dX1_fieldOf_0 : decode cX1_fieldOf 0 = .ok (.aload_n 0, 1) := by decide +kernel
theorem dX1_fieldOf_1 : decode cX1_fieldOf 1 = .ok (.getfield 32, 3) := by decide +kernel
theorem dX1_fieldOf_4 : decode cX1_fieldOf 4 = .ok (.iload_n 1, 1) := by decide +kernel
theorem dX1_fieldOf_5 : decode cX1_fieldOf 5 = .ok (.iconst 2, 1) := by decide +kernel
theorem dX1_fieldOf_6 : decode cX1_fieldOf 6 = .ok (.iadd, 1) := by decide +kernel
theorem dX1_fieldOf_7 : decode cX1_fieldOf 7 = .ok (.iload_n 2, 1) := by decide +kernel
theorem dX1_fieldOf_8 : decode cX1_fieldOf 8 = .ok (.iadd, 1) := by decide +kernel
theorem dX1_fieldOf_9 : decode cX1_fieldOf 9 = .ok (.iaload, 1) := by decide +kernel
theorem dX1_fieldOf_10 : decode cX1_fieldOf 10 = .ok (.ireturn, 1) := by decide +kernel
theorem dX1_rootOrNull_0 : decode cX1_rootOrNull 0 = .ok (.iload_n 1, 1) := by decide +kernel
theorem dX1_rootOrNull_1 : decode cX1_rootOrNull 1 = .ok (.iconst (-1), 1) := by decide +kernel
theorem dX1_rootOrNull_2 : decode cX1_rootOrNull 2 = .ok (.if_icmp .ne 7, 3) := by decide +kernel
theorem dX1_rootOrNull_5 : decode cX1_rootOrNull 5 = .ok (.iconst 0, 1) := by decide +kernel
theorem dX1_rootOrNull_6 : decode cX1_rootOrNull 6 = .ok (.goto 12, 3) := by decide +kernel
theorem dX1_rootOrNull_9 : decode cX1_rootOrNull 9 = .ok (.aload_n 0, 1) := by decide +kernel
theorem dX1_rootOrNull_10 : decode cX1_rootOrNull 10 = .ok (.getfield 22, 3) := by decide +kernel
theorem dX1_rootOrNull_13 : decode cX1_rootOrNull 13 = .ok (.getfield 63, 3) := by decide +kernel
theorem dX1_rootOrNull_16 : decode cX1_rootOrNull 16 = .ok (.iload_n 1, 1) := by decide +kernel
theorem dX1_rootOrNull_17 : decode cX1_rootOrNull 17 = .ok (.iaload, 1) := by decide +kernel
theorem dX1_rootOrNull_18 : decode cX1_rootOrNull 18 = .ok (.ireturn, 1) := by decide +kernel
theorem dX1_homeOf_0 : decode cX1_homeOf 0 = .ok (.iconst 2, 1) := by decide +kernel
theorem dX1_homeOf_1 : decode cX1_homeOf 1 = .ok (.istore_n 2, 1) := by decide +kernel
theorem dX1_homeOf_2 : decode cX1_homeOf 2 = .ok (.iload_n 2, 1) := by decide +kernel
theorem dX1_homeOf_3 : decode cX1_homeOf 3 = .ok (.ifCond .le 29, 3) := by decide +kernel
theorem dX1_homeOf_6 : decode cX1_homeOf 6 = .ok (.iload_n 1, 1) := by decide +kernel
theorem dX1_homeOf_7 : decode cX1_homeOf 7 = .ok (.aload_n 0, 1) := by decide +kernel
theorem dX1_homeOf_8 : decode cX1_homeOf 8 = .ok (.getfield 11, 3) := by decide +kernel
theorem dX1_homeOf_11 : decode cX1_homeOf 11 = .ok (.iload_n 2, 1) := by decide +kernel
theorem dX1_homeOf_12 : decode cX1_homeOf 12 = .ok (.aaload, 1) := by decide +kernel
theorem dX1_homeOf_13 : decode cX1_homeOf 13 = .ok (.getfield 66, 3) := by decide +kernel
theorem dX1_homeOf_16 : decode cX1_homeOf 16 = .ok (.if_icmp .lt 10, 3) := by decide +kernel
theorem dX1_homeOf_19 : decode cX1_homeOf 19 = .ok (.aload_n 0, 1) := by decide +kernel
theorem dX1_homeOf_20 : decode cX1_homeOf 20 = .ok (.getfield 11, 3) := by decide +kernel
theorem dX1_homeOf_23 : decode cX1_homeOf 23 = .ok (.iload_n 2, 1) := by decide +kernel
theorem dX1_homeOf_24 : decode cX1_homeOf 24 = .ok (.aaload, 1) := by decide +kernel
theorem dX1_homeOf_25 : decode cX1_homeOf 25 = .ok (.areturn, 1) := by decide +kernel
theorem dX1_homeOf_26 : decode cX1_homeOf 26 = .ok (.iinc 2 (-1), 3) := by decide +kernel
theorem dX1_homeOf_29 : decode cX1_homeOf 29 = .ok (.goto (-27), 3) := by decide +kernel
theorem dX1_homeOf_32 : decode cX1_homeOf 32 = .ok (.aload_n 0, 1) := by decide +kernel
theorem dX1_homeOf_33 : decode cX1_homeOf 33 = .ok (.getfield 11, 3) := by decide +kernel
theorem dX1_homeOf_36 : decode cX1_homeOf 36 = .ok (.iconst 0, 1) := by decide +kernel
theorem dX1_homeOf_37 : decode cX1_homeOf 37 = .ok (.aaload, 1) := by decide +kernel
theorem dX1_homeOf_38 : decode cX1_homeOf 38 = .ok (.areturn, 1) := by decide +kernel
theorem dX1_isTaken_0 : decode cX1_isTaken 0 = .ok (.aload_n 0, 1) := by decide +kernel
theorem dX1_isTaken_1 : decode cX1_isTaken 1 = .ok (.iload_n 1, 1) := by decide +kernel
theorem dX1_isTaken_2 : decode cX1_isTaken 2 = .ok (.invokevirtual 70, 3) := by decide +kernel
theorem dX1_isTaken_5 : decode cX1_isTaken 5 = .ok (.iload_n 1, 1) := by decide +kernel
theorem dX1_isTaken_6 : decode cX1_isTaken 6 = .ok (.invokevirtual 74, 3) := by decide +kernel
theorem dX1_isTaken_9 : decode cX1_isTaken 9 = .ok (.ireturn, 1) := by decide +kernel
theorem dX1_rowOf_0 : decode cX1_rowOf 0 = .ok (.iload_n 1, 1) := by decide +kernel
theorem dX1_rowOf_1 : decode cX1_rowOf 1 = .ok (.tableswitch 75 0 6 #[43, 43, 50, 55, 60, 65, 70], 43) := by decide +kernel
theorem dX1_rowOf_44 : decode cX1_rowOf 44 = .ok (.aload_n 0, 1) := by decide +kernel
theorem dX1_rowOf_45 : decode cX1_rowOf 45 = .ok (.getfield 52, 3) := by decide +kernel
theorem dX1_rowOf_48 : decode cX1_rowOf 48 = .ok (.iload_n 1, 1) := by decide +kernel
theorem dX1_rowOf_49 : decode cX1_rowOf 49 = .ok (.aaload, 1) := by decide +kernel
theorem dX1_rowOf_50 : decode cX1_rowOf 50 = .ok (.areturn, 1) := by decide +kernel
theorem dX1_rowOf_51 : decode cX1_rowOf 51 = .ok (.aload_n 0, 1) := by decide +kernel
theorem dX1_rowOf_52 : decode cX1_rowOf 52 = .ok (.getfield 45, 3) := by decide +kernel
theorem dX1_rowOf_55 : decode cX1_rowOf 55 = .ok (.areturn, 1) := by decide +kernel
theorem dX1_rowOf_56 : decode cX1_rowOf 56 = .ok (.aload_n 0, 1) := by decide +kernel
theorem dX1_rowOf_57 : decode cX1_rowOf 57 = .ok (.getfield 26, 3) := by decide +kernel
theorem dX1_rowOf_60 : decode cX1_rowOf 60 = .ok (.areturn, 1) := by decide +kernel
theorem dX1_rowOf_61 : decode cX1_rowOf 61 = .ok (.aload_n 0, 1) := by decide +kernel
theorem dX1_rowOf_62 : decode cX1_rowOf 62 = .ok (.getfield 39, 3) := by decide +kernel
theorem dX1_rowOf_65 : decode cX1_rowOf 65 = .ok (.areturn, 1) := by decide +kernel
theorem dX1_rowOf_66 : decode cX1_rowOf 66 = .ok (.aload_n 0, 1) := by decide +kernel
theorem dX1_rowOf_67 : decode cX1_rowOf 67 = .ok (.getfield 42, 3) := by decide +kernel
theorem dX1_rowOf_70 : decode cX1_rowOf 70 = .ok (.areturn, 1) := by decide +kernel
theorem dX1_rowOf_71 : decode cX1_rowOf 71 = .ok (.aload_n 0, 1) := by decide +kernel
theorem dX1_rowOf_72 : decode cX1_rowOf 72 = .ok (.getfield 29, 3) := by decide +kernel
theorem dX1_rowOf_75 : decode cX1_rowOf 75 = .ok (.areturn, 1) := by decide +kernel
theorem dX1_rowOf_76 : decode cX1_rowOf 76 = .ok (.aconst_null, 1) := by decide +kernel
theorem dX1_rowOf_77 : decode cX1_rowOf 77 = .ok (.areturn, 1) := by decide +kernel
theorem dX1_countOf_0 : decode cX1_countOf 0 = .ok (.iload_n 1, 1) := by decide +kernel
theorem dX1_countOf_1 : decode cX1_countOf 1 = .ok (.tableswitch 113 0 14 #[75, 75, 75, 113, 113, 113, 113, 113, 113, 85, 85, 85, 98, 103, 108], 75) := by decide +kernel
theorem dX1_countOf_76 : decode cX1_countOf 76 = .ok (.aload_n 0, 1) := by decide +kernel
theorem dX1_countOf_77 : decode cX1_countOf 77 = .ok (.getfield 11, 3) := by decide +kernel
theorem dX1_countOf_80 : decode cX1_countOf 80 = .ok (.iload_n 1, 1) := by decide +kernel
theorem dX1_countOf_81 : decode cX1_countOf 81 = .ok (.aaload, 1) := by decide +kernel
theorem dX1_countOf_82 : decode cX1_countOf 82 = .ok (.getfield 78, 3) := by decide +kernel
theorem dX1_countOf_85 : decode cX1_countOf 85 = .ok (.ireturn, 1) := by decide +kernel
theorem dX1_countOf_86 : decode cX1_countOf 86 = .ok (.aload_n 0, 1) := by decide +kernel
theorem dX1_countOf_87 : decode cX1_countOf 87 = .ok (.getfield 11, 3) := by decide +kernel
theorem dX1_countOf_90 : decode cX1_countOf 90 = .ok (.iload_n 1, 1) := by decide +kernel
theorem dX1_countOf_91 : decode cX1_countOf 91 = .ok (.bipush 9, 2) := by decide +kernel
theorem dX1_countOf_93 : decode cX1_countOf 93 = .ok (.isub, 1) := by decide +kernel
theorem dX1_countOf_94 : decode cX1_countOf 94 = .ok (.aaload, 1) := by decide +kernel
theorem dX1_countOf_95 : decode cX1_countOf 95 = .ok (.getfield 81, 3) := by decide +kernel
theorem dX1_countOf_98 : decode cX1_countOf 98 = .ok (.ireturn, 1) := by decide +kernel
theorem dX1_countOf_99 : decode cX1_countOf 99 = .ok (.aload_n 0, 1) := by decide +kernel
theorem dX1_countOf_100 : decode cX1_countOf 100 = .ok (.getfield 84, 3) := by decide +kernel
theorem dX1_countOf_103 : decode cX1_countOf 103 = .ok (.ireturn, 1) := by decide +kernel
theorem dX1_countOf_104 : decode cX1_countOf 104 = .ok (.aload_n 0, 1) := by decide +kernel
theorem dX1_countOf_105 : decode cX1_countOf 105 = .ok (.getfield 87, 3) := by decide +kernel
theorem dX1_countOf_108 : decode cX1_countOf 108 = .ok (.ireturn, 1) := by decide +kernel
theorem dX1_countOf_109 : decode cX1_countOf 109 = .ok (.aload_n 0, 1) := by decide +kernel
theorem dX1_countOf_110 : decode cX1_countOf 110 = .ok (.getfield 90, 3) := by decide +kernel
theorem dX1_countOf_113 : decode cX1_countOf 113 = .ok (.ireturn, 1) := by decide +kernel
theorem dX1_countOf_114 : decode cX1_countOf 114 = .ok (.aload_n 0, 1) := by decide +kernel
theorem dX1_countOf_115 : decode cX1_countOf 115 = .ok (.iload_n 1, 1) := by decide +kernel
theorem dX1_countOf_116 : decode cX1_countOf 116 = .ok (.iconst 3, 1) := by decide +kernel
theorem dX1_countOf_117 : decode cX1_countOf 117 = .ok (.isub, 1) := by decide +kernel
theorem dX1_countOf_118 : decode cX1_countOf 118 = .ok (.invokevirtual 93, 3) := by decide +kernel
theorem dX1_countOf_121 : decode cX1_countOf 121 = .ok (.astore_n 2, 1) := by decide +kernel
theorem dX1_countOf_122 : decode cX1_countOf 122 = .ok (.aload_n 2, 1) := by decide +kernel
theorem dX1_countOf_123 : decode cX1_countOf 123 = .ok (.ifnonnull 7, 3) := by decide +kernel
theorem dX1_countOf_126 : decode cX1_countOf 126 = .ok (.iconst 0, 1) := by decide +kernel
theorem dX1_countOf_127 : decode cX1_countOf 127 = .ok (.goto 7, 3) := by decide +kernel
theorem dX1_countOf_130 : decode cX1_countOf 130 = .ok (.aload_n 2, 1) := by decide +kernel
theorem dX1_countOf_131 : decode cX1_countOf 131 = .ok (.getfield 97, 3) := by decide +kernel
theorem dX1_countOf_134 : decode cX1_countOf 134 = .ok (.ireturn, 1) := by decide +kernel
theorem dX1_newObject_0 : decode cX1_newObject 0 = .ok (.iconst 2, 1) := by decide +kernel
theorem dX1_newObject_1 : decode cX1_newObject 1 = .ok (.iload_n 1, 1) := by decide +kernel
theorem dX1_newObject_2 : decode cX1_newObject 2 = .ok (.iadd, 1) := by decide +kernel
theorem dX1_newObject_3 : decode cX1_newObject 3 = .ok (.istore 4, 2) := by decide +kernel
theorem dX1_newObject_5 : decode cX1_newObject 5 = .ok (.aload_n 0, 1) := by decide +kernel
theorem dX1_newObject_6 : decode cX1_newObject 6 = .ok (.getfield 11, 3) := by decide +kernel
theorem dX1_newObject_9 : decode cX1_newObject 9 = .ok (.iconst 0, 1) := by decide +kernel
theorem dX1_newObject_10 : decode cX1_newObject 10 = .ok (.aaload, 1) := by decide +kernel
theorem dX1_newObject_11 : decode cX1_newObject 11 = .ok (.astore 5, 2) := by decide +kernel
theorem dX1_newObject_13 : decode cX1_newObject 13 = .ok (.iconst 0, 1) := by decide +kernel
theorem dX1_newObject_14 : decode cX1_newObject 14 = .ok (.istore 6, 2) := by decide +kernel
theorem dX1_newObject_16 : decode cX1_newObject 16 = .ok (.iload 6, 2) := by decide +kernel
theorem dX1_newObject_18 : decode cX1_newObject 18 = .ok (.iconst 3, 1) := by decide +kernel
theorem dX1_newObject_19 : decode cX1_newObject 19 = .ok (.if_icmp .ge 26, 3) := by decide +kernel
theorem dX1_newObject_22 : decode cX1_newObject 22 = .ok (.aload 5, 2) := by decide +kernel
theorem dX1_newObject_24 : decode cX1_newObject 24 = .ok (.iload 4, 2) := by decide +kernel
theorem dX1_newObject_26 : decode cX1_newObject 26 = .ok (.invokevirtual 100, 3) := by decide +kernel
theorem dX1_newObject_29 : decode cX1_newObject 29 = .ok (.ifCond .ne 16, 3) := by decide +kernel
theorem dX1_newObject_32 : decode cX1_newObject 32 = .ok (.aload_n 0, 1) := by decide +kernel
theorem dX1_newObject_33 : decode cX1_newObject 33 = .ok (.iload 6, 2) := by decide +kernel
theorem dX1_newObject_35 : decode cX1_newObject 35 = .ok (.invokevirtual 103, 3) := by decide +kernel
theorem dX1_newObject_38 : decode cX1_newObject 38 = .ok (.pop, 1) := by decide +kernel
theorem dX1_newObject_39 : decode cX1_newObject 39 = .ok (.iinc 6 1, 3) := by decide +kernel
theorem dX1_newObject_42 : decode cX1_newObject 42 = .ok (.goto (-26), 3) := by decide +kernel
theorem dX1_newObject_45 : decode cX1_newObject 45 = .ok (.aload 5, 2) := by decide +kernel
theorem dX1_newObject_47 : decode cX1_newObject 47 = .ok (.iload 4, 2) := by decide +kernel
theorem dX1_newObject_49 : decode cX1_newObject 49 = .ok (.invokevirtual 100, 3) := by decide +kernel
theorem dX1_newObject_52 : decode cX1_newObject 52 = .ok (.ifCond .ne 5, 3) := by decide +kernel
theorem dX1_newObject_55 : decode cX1_newObject 55 = .ok (.iconst 0, 1) := by decide +kernel
theorem dX1_newObject_56 : decode cX1_newObject 56 = .ok (.ireturn, 1) := by decide +kernel
theorem dX1_newObject_57 : decode cX1_newObject 57 = .ok (.aload 5, 2) := by decide +kernel
theorem dX1_newObject_59 : decode cX1_newObject 59 = .ok (.iload 4, 2) := by decide +kernel
theorem dX1_newObject_61 : decode cX1_newObject 61 = .ok (.invokevirtual 106, 3) := by decide +kernel
theorem dX1_newObject_64 : decode cX1_newObject 64 = .ok (.istore 6, 2) := by decide +kernel
theorem dX1_newObject_66 : decode cX1_newObject 66 = .ok (.aload_n 0, 1) := by decide +kernel
theorem dX1_newObject_67 : decode cX1_newObject 67 = .ok (.getfield 32, 3) := by decide +kernel
theorem dX1_newObject_70 : decode cX1_newObject 70 = .ok (.iload 6, 2) := by decide +kernel
theorem dX1_newObject_72 : decode cX1_newObject 72 = .ok (.iload_n 3, 1) := by decide +kernel
theorem dX1_newObject_73 : decode cX1_newObject 73 = .ok (.ifCond .eq 10, 3) := by decide +kernel
theorem dX1_newObject_76 : decode cX1_newObject 76 = .ok (.iload_n 1, 1) := by decide +kernel
theorem dX1_newObject_77 : decode cX1_newObject 77 = .ok (.bipush 64, 2) := by decide +kernel
theorem dX1_newObject_79 : decode cX1_newObject 79 = .ok (.iadd, 1) := by decide +kernel
theorem dX1_newObject_80 : decode cX1_newObject 80 = .ok (.goto 4, 3) := by decide +kernel
theorem dX1_newObject_83 : decode cX1_newObject 83 = .ok (.iload_n 1, 1) := by decide +kernel
theorem dX1_newObject_84 : decode cX1_newObject 84 = .ok (.iastore, 1) := by decide +kernel
theorem dX1_newObject_85 : decode cX1_newObject 85 = .ok (.aload_n 0, 1) := by decide +kernel
theorem dX1_newObject_86 : decode cX1_newObject 86 = .ok (.getfield 32, 3) := by decide +kernel
theorem dX1_newObject_89 : decode cX1_newObject 89 = .ok (.iload 6, 2) := by decide +kernel
theorem dX1_newObject_91 : decode cX1_newObject 91 = .ok (.iconst 1, 1) := by decide +kernel
theorem dX1_newObject_92 : decode cX1_newObject 92 = .ok (.iadd, 1) := by decide +kernel
theorem dX1_newObject_93 : decode cX1_newObject 93 = .ok (.iload_n 2, 1) := by decide +kernel
theorem dX1_newObject_94 : decode cX1_newObject 94 = .ok (.iastore, 1) := by decide +kernel
theorem dX1_newObject_95 : decode cX1_newObject 95 = .ok (.iconst 0, 1) := by decide +kernel
theorem dX1_newObject_96 : decode cX1_newObject 96 = .ok (.istore 7, 2) := by decide +kernel
theorem dX1_newObject_98 : decode cX1_newObject 98 = .ok (.iload 7, 2) := by decide +kernel
theorem dX1_newObject_100 : decode cX1_newObject 100 = .ok (.iload_n 1, 1) := by decide +kernel
theorem dX1_newObject_101 : decode cX1_newObject 101 = .ok (.if_icmp .ge 22, 3) := by decide +kernel
theorem dX1_newObject_104 : decode cX1_newObject 104 = .ok (.aload_n 0, 1) := by decide +kernel
theorem dX1_newObject_105 : decode cX1_newObject 105 = .ok (.getfield 32, 3) := by decide +kernel
theorem dX1_newObject_108 : decode cX1_newObject 108 = .ok (.iload 6, 2) := by decide +kernel
theorem dX1_newObject_110 : decode cX1_newObject 110 = .ok (.iconst 2, 1) := by decide +kernel
theorem dX1_newObject_111 : decode cX1_newObject 111 = .ok (.iadd, 1) := by decide +kernel
theorem dX1_newObject_112 : decode cX1_newObject 112 = .ok (.iload 7, 2) := by decide +kernel
theorem dX1_newObject_114 : decode cX1_newObject 114 = .ok (.iadd, 1) := by decide +kernel
theorem dX1_newObject_115 : decode cX1_newObject 115 = .ok (.iconst 0, 1) := by decide +kernel
theorem dX1_newObject_116 : decode cX1_newObject 116 = .ok (.iastore, 1) := by decide +kernel
theorem dX1_newObject_117 : decode cX1_newObject 117 = .ok (.iinc 7 1, 3) := by decide +kernel
theorem dX1_newObject_120 : decode cX1_newObject 120 = .ok (.goto (-22), 3) := by decide +kernel
theorem dX1_newObject_123 : decode cX1_newObject 123 = .ok (.iload_n 3, 1) := by decide +kernel
theorem dX1_newObject_124 : decode cX1_newObject 124 = .ok (.ifCond .eq 12, 3) := by decide +kernel
theorem dX1_newObject_127 : decode cX1_newObject 127 = .ok (.aload_n 0, 1) := by decide +kernel
theorem dX1_newObject_128 : decode cX1_newObject 128 = .ok (.getfield 39, 3) := by decide +kernel
theorem dX1_newObject_131 : decode cX1_newObject 131 = .ok (.iload 6, 2) := by decide +kernel
theorem dX1_newObject_133 : decode cX1_newObject 133 = .ok (.invokevirtual 109, 3) := by decide +kernel
theorem dX1_newObject_136 : decode cX1_newObject 136 = .ok (.iload 6, 2) := by decide +kernel
theorem dX1_newObject_138 : decode cX1_newObject 138 = .ok (.ireturn, 1) := by decide +kernel
theorem dX1_store_0 : decode cX1_store 0 = .ok (.iload_n 1, 1) := by decide +kernel
theorem dX1_store_1 : decode cX1_store 1 = .ok (.iconst 2, 1) := by decide +kernel
theorem dX1_store_2 : decode cX1_store 2 = .ok (.iadd, 1) := by decide +kernel
theorem dX1_store_3 : decode cX1_store 3 = .ok (.iload_n 2, 1) := by decide +kernel
theorem dX1_store_4 : decode cX1_store 4 = .ok (.iadd, 1) := by decide +kernel
theorem dX1_store_5 : decode cX1_store 5 = .ok (.istore 4, 2) := by decide +kernel
theorem dX1_store_7 : decode cX1_store 7 = .ok (.aload_n 0, 1) := by decide +kernel
theorem dX1_store_8 : decode cX1_store 8 = .ok (.getfield 32, 3) := by decide +kernel
theorem dX1_store_11 : decode cX1_store 11 = .ok (.iload 4, 2) := by decide +kernel
theorem dX1_store_13 : decode cX1_store 13 = .ok (.iload_n 3, 1) := by decide +kernel
theorem dX1_store_14 : decode cX1_store 14 = .ok (.iastore, 1) := by decide +kernel
theorem dX1_store_15 : decode cX1_store 15 = .ok (.iload_n 3, 1) := by decide +kernel
theorem dX1_store_16 : decode cX1_store 16 = .ok (.ifCond .ne 4, 3) := by decide +kernel
theorem dX1_store_19 : decode cX1_store 19 = .ok (.return_, 1) := by decide +kernel
theorem dX1_store_20 : decode cX1_store 20 = .ok (.aload_n 0, 1) := by decide +kernel
theorem dX1_store_21 : decode cX1_store 21 = .ok (.getfield 45, 3) := by decide +kernel
theorem dX1_store_24 : decode cX1_store 24 = .ok (.invokevirtual 113, 3) := by decide +kernel
theorem dX1_store_27 : decode cX1_store 27 = .ok (.ifCond .eq 17, 3) := by decide +kernel
theorem dX1_store_30 : decode cX1_store 30 = .ok (.aload_n 0, 1) := by decide +kernel
theorem dX1_store_31 : decode cX1_store 31 = .ok (.dup, 1) := by decide +kernel
theorem dX1_store_32 : decode cX1_store 32 = .ok (.getfield 84, 3) := by decide +kernel
theorem dX1_store_35 : decode cX1_store 35 = .ok (.iconst 1, 1) := by decide +kernel
theorem dX1_store_36 : decode cX1_store 36 = .ok (.iadd, 1) := by decide +kernel
theorem dX1_store_37 : decode cX1_store 37 = .ok (.putfield 84, 3) := by decide +kernel
theorem dX1_store_40 : decode cX1_store 40 = .ok (.aload_n 0, 1) := by decide +kernel
theorem dX1_store_41 : decode cX1_store 41 = .ok (.invokevirtual 117, 3) := by decide +kernel
theorem dX1_store_44 : decode cX1_store 44 = .ok (.aload_n 0, 1) := by decide +kernel
theorem dX1_store_45 : decode cX1_store 45 = .ok (.getfield 45, 3) := by decide +kernel
theorem dX1_store_48 : decode cX1_store 48 = .ok (.iload 4, 2) := by decide +kernel
theorem dX1_store_50 : decode cX1_store 50 = .ok (.invokevirtual 109, 3) := by decide +kernel
theorem dX1_store_53 : decode cX1_store 53 = .ok (.return_, 1) := by decide +kernel
theorem dX1_filter_0 : decode cX1_filter 0 = .ok (.iconst 0, 1) := by decide +kernel
theorem dX1_filter_1 : decode cX1_filter 1 = .ok (.istore_n 1, 1) := by decide +kernel
theorem dX1_filter_2 : decode cX1_filter 2 = .ok (.iload_n 1, 1) := by decide +kernel
theorem dX1_filter_3 : decode cX1_filter 3 = .ok (.aload_n 0, 1) := by decide +kernel
theorem dX1_filter_4 : decode cX1_filter 4 = .ok (.getfield 45, 3) := by decide +kernel
theorem dX1_filter_7 : decode cX1_filter 7 = .ok (.getfield 97, 3) := by decide +kernel
theorem dX1_filter_10 : decode cX1_filter 10 = .ok (.if_icmp .ge 22, 3) := by decide +kernel
theorem dX1_filter_13 : decode cX1_filter 13 = .ok (.aload_n 0, 1) := by decide +kernel
theorem dX1_filter_14 : decode cX1_filter 14 = .ok (.aload_n 0, 1) := by decide +kernel
theorem dX1_filter_15 : decode cX1_filter 15 = .ok (.getfield 45, 3) := by decide +kernel
theorem dX1_filter_18 : decode cX1_filter 18 = .ok (.getfield 63, 3) := by decide +kernel
theorem dX1_filter_21 : decode cX1_filter 21 = .ok (.iload_n 1, 1) := by decide +kernel
theorem dX1_filter_22 : decode cX1_filter 22 = .ok (.iaload, 1) := by decide +kernel
theorem dX1_filter_23 : decode cX1_filter 23 = .ok (.invokevirtual 120, 3) := by decide +kernel
theorem dX1_filter_26 : decode cX1_filter 26 = .ok (.iinc 1 1, 3) := by decide +kernel
theorem dX1_filter_29 : decode cX1_filter 29 = .ok (.goto (-27), 3) := by decide +kernel
theorem dX1_filter_32 : decode cX1_filter 32 = .ok (.aload_n 0, 1) := by decide +kernel
theorem dX1_filter_33 : decode cX1_filter 33 = .ok (.getfield 45, 3) := by decide +kernel
theorem dX1_filter_36 : decode cX1_filter 36 = .ok (.iconst 0, 1) := by decide +kernel
theorem dX1_filter_37 : decode cX1_filter 37 = .ok (.putfield 97, 3) := by decide +kernel
theorem dX1_filter_40 : decode cX1_filter 40 = .ok (.return_, 1) := by decide +kernel
theorem dX1_remember_0 : decode cX1_remember 0 = .ok (.aload_n 0, 1) := by decide +kernel
theorem dX1_remember_1 : decode cX1_remember 1 = .ok (.getfield 32, 3) := by decide +kernel
theorem dX1_remember_4 : decode cX1_remember 4 = .ok (.iload_n 1, 1) := by decide +kernel
theorem dX1_remember_5 : decode cX1_remember 5 = .ok (.iaload, 1) := by decide +kernel
theorem dX1_remember_6 : decode cX1_remember 6 = .ok (.istore_n 2, 1) := by decide +kernel
theorem dX1_remember_7 : decode cX1_remember 7 = .ok (.iload_n 2, 1) := by decide +kernel
theorem dX1_remember_8 : decode cX1_remember 8 = .ok (.ifCond .ne 4, 3) := by decide +kernel
theorem dX1_remember_11 : decode cX1_remember 11 = .ok (.return_, 1) := by decide +kernel
theorem dX1_remember_12 : decode cX1_remember 12 = .ok (.aload_n 0, 1) := by decide +kernel
theorem dX1_remember_13 : decode cX1_remember 13 = .ok (.iload_n 2, 1) := by decide +kernel
theorem dX1_remember_14 : decode cX1_remember 14 = .ok (.invokevirtual 70, 3) := by decide +kernel
theorem dX1_remember_17 : decode cX1_remember 17 = .ok (.getfield 123, 3) := by decide +kernel
theorem dX1_remember_20 : decode cX1_remember 20 = .ok (.istore_n 3, 1) := by decide +kernel
theorem dX1_remember_21 : decode cX1_remember 21 = .ok (.iload_n 3, 1) := by decide +kernel
theorem dX1_remember_22 : decode cX1_remember 22 = .ok (.aload_n 0, 1) := by decide +kernel
theorem dX1_remember_23 : decode cX1_remember 23 = .ok (.iload_n 1, 1) := by decide +kernel
theorem dX1_remember_24 : decode cX1_remember 24 = .ok (.invokevirtual 70, 3) := by decide +kernel
theorem dX1_remember_27 : decode cX1_remember 27 = .ok (.getfield 123, 3) := by decide +kernel
theorem dX1_remember_30 : decode cX1_remember 30 = .ok (.if_icmp .ge 26, 3) := by decide +kernel
theorem dX1_remember_33 : decode cX1_remember 33 = .ok (.aload_n 0, 1) := by decide +kernel
theorem dX1_remember_34 : decode cX1_remember 34 = .ok (.getfield 52, 3) := by decide +kernel
theorem dX1_remember_37 : decode cX1_remember 37 = .ok (.iload_n 3, 1) := by decide +kernel
theorem dX1_remember_38 : decode cX1_remember 38 = .ok (.aaload, 1) := by decide +kernel
theorem dX1_remember_39 : decode cX1_remember 39 = .ok (.iload_n 1, 1) := by decide +kernel
theorem dX1_remember_40 : decode cX1_remember 40 = .ok (.invokevirtual 126, 3) := by decide +kernel
theorem dX1_remember_43 : decode cX1_remember 43 = .ok (.ifCond .ne 13, 3) := by decide +kernel
theorem dX1_remember_46 : decode cX1_remember 46 = .ok (.aload_n 0, 1) := by decide +kernel
theorem dX1_remember_47 : decode cX1_remember 47 = .ok (.getfield 52, 3) := by decide +kernel
theorem dX1_remember_50 : decode cX1_remember 50 = .ok (.iload_n 3, 1) := by decide +kernel
theorem dX1_remember_51 : decode cX1_remember 51 = .ok (.aaload, 1) := by decide +kernel
theorem dX1_remember_52 : decode cX1_remember 52 = .ok (.iload_n 1, 1) := by decide +kernel
theorem dX1_remember_53 : decode cX1_remember 53 = .ok (.invokevirtual 109, 3) := by decide +kernel
theorem dX1_remember_56 : decode cX1_remember 56 = .ok (.return_, 1) := by decide +kernel
theorem dX1_gather_0 : decode cX1_gather 0 = .ok (.aload_n 0, 1) := by decide +kernel
theorem dX1_gather_1 : decode cX1_gather 1 = .ok (.getfield 87, 3) := by decide +kernel
theorem dX1_gather_4 : decode cX1_gather 4 = .ok (.istore_n 2, 1) := by decide +kernel
theorem dX1_gather_5 : decode cX1_gather 5 = .ok (.aload_n 0, 1) := by decide +kernel
theorem dX1_gather_6 : decode cX1_gather 6 = .ok (.invokevirtual 117, 3) := by decide +kernel
theorem dX1_gather_9 : decode cX1_gather 9 = .ok (.iconst 0, 1) := by decide +kernel
theorem dX1_gather_10 : decode cX1_gather 10 = .ok (.istore_n 3, 1) := by decide +kernel
theorem dX1_gather_11 : decode cX1_gather 11 = .ok (.iload_n 3, 1) := by decide +kernel
theorem dX1_gather_12 : decode cX1_gather 12 = .ok (.iconst 3, 1) := by decide +kernel
theorem dX1_gather_13 : decode cX1_gather 13 = .ok (.if_icmp .ge 28, 3) := by decide +kernel
theorem dX1_gather_16 : decode cX1_gather 16 = .ok (.aload_n 0, 1) := by decide +kernel
theorem dX1_gather_17 : decode cX1_gather 17 = .ok (.getfield 11, 3) := by decide +kernel
theorem dX1_gather_20 : decode cX1_gather 20 = .ok (.iload_n 3, 1) := by decide +kernel
theorem dX1_gather_21 : decode cX1_gather 21 = .ok (.aaload, 1) := by decide +kernel
theorem dX1_gather_22 : decode cX1_gather 22 = .ok (.iload_n 3, 1) := by decide +kernel
theorem dX1_gather_23 : decode cX1_gather 23 = .ok (.iload_n 1, 1) := by decide +kernel
theorem dX1_gather_24 : decode cX1_gather 24 = .ok (.if_icmp .gt 7, 3) := by decide +kernel
theorem dX1_gather_27 : decode cX1_gather 27 = .ok (.iconst 1, 1) := by decide +kernel
theorem dX1_gather_28 : decode cX1_gather 28 = .ok (.goto 4, 3) := by decide +kernel
theorem dX1_gather_31 : decode cX1_gather 31 = .ok (.iconst 0, 1) := by decide +kernel
theorem dX1_gather_32 : decode cX1_gather 32 = .ok (.invokevirtual 129, 3) := by decide +kernel
theorem dX1_gather_35 : decode cX1_gather 35 = .ok (.iinc 3 1, 3) := by decide +kernel
theorem dX1_gather_38 : decode cX1_gather 38 = .ok (.goto (-27), 3) := by decide +kernel
theorem dX1_gather_41 : decode cX1_gather 41 = .ok (.aload_n 0, 1) := by decide +kernel
theorem dX1_gather_42 : decode cX1_gather 42 = .ok (.invokevirtual 133, 3) := by decide +kernel
theorem dX1_gather_45 : decode cX1_gather 45 = .ok (.aload_n 0, 1) := by decide +kernel
theorem dX1_gather_46 : decode cX1_gather 46 = .ok (.aload_n 0, 1) := by decide +kernel
theorem dX1_gather_47 : decode cX1_gather 47 = .ok (.getfield 22, 3) := by decide +kernel
theorem dX1_gather_50 : decode cX1_gather 50 = .ok (.invokevirtual 136, 3) := by decide +kernel
theorem dX1_gather_53 : decode cX1_gather 53 = .ok (.aload_n 0, 1) := by decide +kernel
theorem dX1_gather_54 : decode cX1_gather 54 = .ok (.aload_n 0, 1) := by decide +kernel
theorem dX1_gather_55 : decode cX1_gather 55 = .ok (.getfield 26, 3) := by decide +kernel
theorem dX1_gather_58 : decode cX1_gather 58 = .ok (.invokevirtual 136, 3) := by decide +kernel
theorem dX1_gather_61 : decode cX1_gather 61 = .ok (.aload_n 0, 1) := by decide +kernel
theorem dX1_gather_62 : decode cX1_gather 62 = .ok (.aload_n 0, 1) := by decide +kernel
theorem dX1_gather_63 : decode cX1_gather 63 = .ok (.getfield 42, 3) := by decide +kernel
theorem dX1_gather_66 : decode cX1_gather 66 = .ok (.invokevirtual 136, 3) := by decide +kernel
theorem dX1_gather_69 : decode cX1_gather 69 = .ok (.aload_n 0, 1) := by decide +kernel
theorem dX1_gather_70 : decode cX1_gather 70 = .ok (.aload_n 0, 1) := by decide +kernel
theorem dX1_gather_71 : decode cX1_gather 71 = .ok (.getfield 56, 3) := by decide +kernel
theorem dX1_gather_74 : decode cX1_gather 74 = .ok (.iconst 0, 1) := by decide +kernel
theorem dX1_gather_75 : decode cX1_gather 75 = .ok (.aaload, 1) := by decide +kernel
theorem dX1_gather_76 : decode cX1_gather 76 = .ok (.iload_n 1, 1) := by decide +kernel
theorem dX1_gather_77 : decode cX1_gather 77 = .ok (.invokevirtual 140, 3) := by decide +kernel
theorem dX1_gather_80 : decode cX1_gather 80 = .ok (.aload_n 0, 1) := by decide +kernel
theorem dX1_gather_81 : decode cX1_gather 81 = .ok (.aload_n 0, 1) := by decide +kernel
theorem dX1_gather_82 : decode cX1_gather 82 = .ok (.getfield 56, 3) := by decide +kernel
theorem dX1_gather_85 : decode cX1_gather 85 = .ok (.iconst 1, 1) := by decide +kernel
theorem dX1_gather_86 : decode cX1_gather 86 = .ok (.aaload, 1) := by decide +kernel
theorem dX1_gather_87 : decode cX1_gather 87 = .ok (.iload_n 1, 1) := by decide +kernel
theorem dX1_gather_88 : decode cX1_gather 88 = .ok (.invokevirtual 140, 3) := by decide +kernel
theorem dX1_gather_91 : decode cX1_gather 91 = .ok (.aload_n 0, 1) := by decide +kernel
theorem dX1_gather_92 : decode cX1_gather 92 = .ok (.invokevirtual 144, 3) := by decide +kernel
theorem dX1_gather_95 : decode cX1_gather 95 = .ok (.aload_n 0, 1) := by decide +kernel
theorem dX1_gather_96 : decode cX1_gather 96 = .ok (.invokevirtual 147, 3) := by decide +kernel
theorem dX1_gather_99 : decode cX1_gather 99 = .ok (.aload_n 0, 1) := by decide +kernel
theorem dX1_gather_100 : decode cX1_gather 100 = .ok (.invokevirtual 144, 3) := by decide +kernel
theorem dX1_gather_103 : decode cX1_gather 103 = .ok (.aload_n 0, 1) := by decide +kernel
theorem dX1_gather_104 : decode cX1_gather 104 = .ok (.invokevirtual 150, 3) := by decide +kernel
theorem dX1_gather_107 : decode cX1_gather 107 = .ok (.iconst 0, 1) := by decide +kernel
theorem dX1_gather_108 : decode cX1_gather 108 = .ok (.istore_n 3, 1) := by decide +kernel
theorem dX1_gather_109 : decode cX1_gather 109 = .ok (.iload_n 3, 1) := by decide +kernel
theorem dX1_gather_110 : decode cX1_gather 110 = .ok (.iload_n 1, 1) := by decide +kernel
theorem dX1_gather_111 : decode cX1_gather 111 = .ok (.if_icmp .gt 18, 3) := by decide +kernel
theorem dX1_gather_114 : decode cX1_gather 114 = .ok (.aload_n 0, 1) := by decide +kernel
theorem dX1_gather_115 : decode cX1_gather 115 = .ok (.getfield 11, 3) := by decide +kernel
theorem dX1_gather_118 : decode cX1_gather 118 = .ok (.iload_n 3, 1) := by decide +kernel
theorem dX1_gather_119 : decode cX1_gather 119 = .ok (.aaload, 1) := by decide +kernel
theorem dX1_gather_120 : decode cX1_gather 120 = .ok (.invokevirtual 153, 3) := by decide +kernel
theorem dX1_gather_123 : decode cX1_gather 123 = .ok (.iinc 3 1, 3) := by decide +kernel
theorem dX1_gather_126 : decode cX1_gather 126 = .ok (.goto (-17), 3) := by decide +kernel
theorem dX1_gather_129 : decode cX1_gather 129 = .ok (.aload_n 0, 1) := by decide +kernel
theorem dX1_gather_130 : decode cX1_gather 130 = .ok (.getfield 11, 3) := by decide +kernel
theorem dX1_gather_133 : decode cX1_gather 133 = .ok (.iload_n 1, 1) := by decide +kernel
theorem dX1_gather_134 : decode cX1_gather 134 = .ok (.aaload, 1) := by decide +kernel
theorem dX1_gather_135 : decode cX1_gather 135 = .ok (.dup, 1) := by decide +kernel
theorem dX1_gather_136 : decode cX1_gather 136 = .ok (.getfield 81, 3) := by decide +kernel
theorem dX1_gather_139 : decode cX1_gather 139 = .ok (.iconst 1, 1) := by decide +kernel
theorem dX1_gather_140 : decode cX1_gather 140 = .ok (.iadd, 1) := by decide +kernel
theorem dX1_gather_141 : decode cX1_gather 141 = .ok (.putfield 81, 3) := by decide +kernel
theorem dX1_gather_144 : decode cX1_gather 144 = .ok (.aload_n 0, 1) := by decide +kernel
theorem dX1_gather_145 : decode cX1_gather 145 = .ok (.getfield 87, 3) := by decide +kernel
theorem dX1_gather_148 : decode cX1_gather 148 = .ok (.iload_n 2, 1) := by decide +kernel
theorem dX1_gather_149 : decode cX1_gather 149 = .ok (.isub, 1) := by decide +kernel
theorem dX1_gather_150 : decode cX1_gather 150 = .ok (.ireturn, 1) := by decide +kernel
theorem dX1_putRowsAside_0 : decode cX1_putRowsAside 0 = .ok (.aload_n 0, 1) := by decide +kernel
theorem dX1_putRowsAside_1 : decode cX1_putRowsAside 1 = .ok (.getfield 56, 3) := by decide +kernel
theorem dX1_putRowsAside_4 : decode cX1_putRowsAside 4 = .ok (.astore_n 1, 1) := by decide +kernel
theorem dX1_putRowsAside_5 : decode cX1_putRowsAside 5 = .ok (.aload_n 0, 1) := by decide +kernel
theorem dX1_putRowsAside_6 : decode cX1_putRowsAside 6 = .ok (.aload_n 0, 1) := by decide +kernel
theorem dX1_putRowsAside_7 : decode cX1_putRowsAside 7 = .ok (.getfield 52, 3) := by decide +kernel
theorem dX1_putRowsAside_10 : decode cX1_putRowsAside 10 = .ok (.putfield 56, 3) := by decide +kernel
theorem dX1_putRowsAside_13 : decode cX1_putRowsAside 13 = .ok (.aload_n 0, 1) := by decide +kernel
theorem dX1_putRowsAside_14 : decode cX1_putRowsAside 14 = .ok (.aload_n 1, 1) := by decide +kernel
theorem dX1_putRowsAside_15 : decode cX1_putRowsAside 15 = .ok (.putfield 52, 3) := by decide +kernel
theorem dX1_putRowsAside_18 : decode cX1_putRowsAside 18 = .ok (.aload_n 0, 1) := by decide +kernel
theorem dX1_putRowsAside_19 : decode cX1_putRowsAside 19 = .ok (.getfield 52, 3) := by decide +kernel
theorem dX1_putRowsAside_22 : decode cX1_putRowsAside 22 = .ok (.iconst 0, 1) := by decide +kernel
theorem dX1_putRowsAside_23 : decode cX1_putRowsAside 23 = .ok (.aaload, 1) := by decide +kernel
theorem dX1_putRowsAside_24 : decode cX1_putRowsAside 24 = .ok (.iconst 0, 1) := by decide +kernel
theorem dX1_putRowsAside_25 : decode cX1_putRowsAside 25 = .ok (.putfield 97, 3) := by decide +kernel
theorem dX1_putRowsAside_28 : decode cX1_putRowsAside 28 = .ok (.aload_n 0, 1) := by decide +kernel
theorem dX1_putRowsAside_29 : decode cX1_putRowsAside 29 = .ok (.getfield 52, 3) := by decide +kernel
theorem dX1_putRowsAside_32 : decode cX1_putRowsAside 32 = .ok (.iconst 1, 1) := by decide +kernel
theorem dX1_putRowsAside_33 : decode cX1_putRowsAside 33 = .ok (.aaload, 1) := by decide +kernel
theorem dX1_putRowsAside_34 : decode cX1_putRowsAside 34 = .ok (.iconst 0, 1) := by decide +kernel
theorem dX1_putRowsAside_35 : decode cX1_putRowsAside 35 = .ok (.putfield 97, 3) := by decide +kernel
theorem dX1_putRowsAside_38 : decode cX1_putRowsAside 38 = .ok (.return_, 1) := by decide +kernel
theorem dX1_bringAll_0 : decode cX1_bringAll 0 = .ok (.iconst 0, 1) := by decide +kernel
theorem dX1_bringAll_1 : decode cX1_bringAll 1 = .ok (.istore_n 2, 1) := by decide +kernel
theorem dX1_bringAll_2 : decode cX1_bringAll 2 = .ok (.iload_n 2, 1) := by decide +kernel
theorem dX1_bringAll_3 : decode cX1_bringAll 3 = .ok (.aload_n 1, 1) := by decide +kernel
theorem dX1_bringAll_4 : decode cX1_bringAll 4 = .ok (.getfield 97, 3) := by decide +kernel
theorem dX1_bringAll_7 : decode cX1_bringAll 7 = .ok (.if_icmp .ge 25, 3) := by decide +kernel
theorem dX1_bringAll_10 : decode cX1_bringAll 10 = .ok (.aload_n 1, 1) := by decide +kernel
theorem dX1_bringAll_11 : decode cX1_bringAll 11 = .ok (.getfield 63, 3) := by decide +kernel
theorem dX1_bringAll_14 : decode cX1_bringAll 14 = .ok (.iload_n 2, 1) := by decide +kernel
theorem dX1_bringAll_15 : decode cX1_bringAll 15 = .ok (.aload_n 0, 1) := by decide +kernel
theorem dX1_bringAll_16 : decode cX1_bringAll 16 = .ok (.aload_n 1, 1) := by decide +kernel
theorem dX1_bringAll_17 : decode cX1_bringAll 17 = .ok (.getfield 63, 3) := by decide +kernel
theorem dX1_bringAll_20 : decode cX1_bringAll 20 = .ok (.iload_n 2, 1) := by decide +kernel
theorem dX1_bringAll_21 : decode cX1_bringAll 21 = .ok (.iaload, 1) := by decide +kernel
theorem dX1_bringAll_22 : decode cX1_bringAll 22 = .ok (.invokevirtual 156, 3) := by decide +kernel
theorem dX1_bringAll_25 : decode cX1_bringAll 25 = .ok (.iastore, 1) := by decide +kernel
theorem dX1_bringAll_26 : decode cX1_bringAll 26 = .ok (.iinc 2 1, 3) := by decide +kernel
theorem dX1_bringAll_29 : decode cX1_bringAll 29 = .ok (.goto (-27), 3) := by decide +kernel
theorem dX1_bringAll_32 : decode cX1_bringAll 32 = .ok (.return_, 1) := by decide +kernel
theorem dX1_bringRemembered_0 : decode cX1_bringRemembered 0 = .ok (.iconst 0, 1) := by decide +kernel
theorem dX1_bringRemembered_1 : decode cX1_bringRemembered 1 = .ok (.istore_n 3, 1) := by decide +kernel
theorem dX1_bringRemembered_2 : decode cX1_bringRemembered 2 = .ok (.iload_n 3, 1) := by decide +kernel
theorem dX1_bringRemembered_3 : decode cX1_bringRemembered 3 = .ok (.aload_n 1, 1) := by decide +kernel
theorem dX1_bringRemembered_4 : decode cX1_bringRemembered 4 = .ok (.getfield 97, 3) := by decide +kernel
theorem dX1_bringRemembered_7 : decode cX1_bringRemembered 7 = .ok (.if_icmp .ge 54, 3) := by decide +kernel
theorem dX1_bringRemembered_10 : decode cX1_bringRemembered 10 = .ok (.aload_n 1, 1) := by decide +kernel
theorem dX1_bringRemembered_11 : decode cX1_bringRemembered 11 = .ok (.getfield 63, 3) := by decide +kernel
theorem dX1_bringRemembered_14 : decode cX1_bringRemembered 14 = .ok (.iload_n 3, 1) := by decide +kernel
theorem dX1_bringRemembered_15 : decode cX1_bringRemembered 15 = .ok (.iaload, 1) := by decide +kernel
theorem dX1_bringRemembered_16 : decode cX1_bringRemembered 16 = .ok (.istore 4, 2) := by decide +kernel
theorem dX1_bringRemembered_18 : decode cX1_bringRemembered 18 = .ok (.aload_n 0, 1) := by decide +kernel
theorem dX1_bringRemembered_19 : decode cX1_bringRemembered 19 = .ok (.iload 4, 2) := by decide +kernel
theorem dX1_bringRemembered_21 : decode cX1_bringRemembered 21 = .ok (.invokevirtual 70, 3) := by decide +kernel
theorem dX1_bringRemembered_24 : decode cX1_bringRemembered 24 = .ok (.getfield 123, 3) := by decide +kernel
theorem dX1_bringRemembered_27 : decode cX1_bringRemembered 27 = .ok (.iload_n 2, 1) := by decide +kernel
theorem dX1_bringRemembered_28 : decode cX1_bringRemembered 28 = .ok (.if_icmp .le 27, 3) := by decide +kernel
theorem dX1_bringRemembered_31 : decode cX1_bringRemembered 31 = .ok (.aload_n 0, 1) := by decide +kernel
theorem dX1_bringRemembered_32 : decode cX1_bringRemembered 32 = .ok (.getfield 32, 3) := by decide +kernel
theorem dX1_bringRemembered_35 : decode cX1_bringRemembered 35 = .ok (.iload 4, 2) := by decide +kernel
theorem dX1_bringRemembered_37 : decode cX1_bringRemembered 37 = .ok (.aload_n 0, 1) := by decide +kernel
theorem dX1_bringRemembered_38 : decode cX1_bringRemembered 38 = .ok (.aload_n 0, 1) := by decide +kernel
theorem dX1_bringRemembered_39 : decode cX1_bringRemembered 39 = .ok (.getfield 32, 3) := by decide +kernel
theorem dX1_bringRemembered_42 : decode cX1_bringRemembered 42 = .ok (.iload 4, 2) := by decide +kernel
theorem dX1_bringRemembered_44 : decode cX1_bringRemembered 44 = .ok (.iaload, 1) := by decide +kernel
theorem dX1_bringRemembered_45 : decode cX1_bringRemembered 45 = .ok (.invokevirtual 156, 3) := by decide +kernel
theorem dX1_bringRemembered_48 : decode cX1_bringRemembered 48 = .ok (.iastore, 1) := by decide +kernel
theorem dX1_bringRemembered_49 : decode cX1_bringRemembered 49 = .ok (.aload_n 0, 1) := by decide +kernel
theorem dX1_bringRemembered_50 : decode cX1_bringRemembered 50 = .ok (.iload 4, 2) := by decide +kernel
theorem dX1_bringRemembered_52 : decode cX1_bringRemembered 52 = .ok (.invokevirtual 120, 3) := by decide +kernel
theorem dX1_bringRemembered_55 : decode cX1_bringRemembered 55 = .ok (.iinc 3 1, 3) := by decide +kernel
theorem dX1_bringRemembered_58 : decode cX1_bringRemembered 58 = .ok (.goto (-56), 3) := by decide +kernel
theorem dX1_bringRemembered_61 : decode cX1_bringRemembered 61 = .ok (.return_, 1) := by decide +kernel
theorem dX1_brought_0 : decode cX1_brought 0 = .ok (.aload_n 0, 1) := by decide +kernel
theorem dX1_brought_1 : decode cX1_brought 1 = .ok (.iload_n 1, 1) := by decide +kernel
theorem dX1_brought_2 : decode cX1_brought 2 = .ok (.invokevirtual 70, 3) := by decide +kernel
theorem dX1_brought_5 : decode cX1_brought 5 = .ok (.astore_n 2, 1) := by decide +kernel
theorem dX1_brought_6 : decode cX1_brought 6 = .ok (.aload_n 2, 1) := by decide +kernel
theorem dX1_brought_7 : decode cX1_brought 7 = .ok (.iload_n 1, 1) := by decide +kernel
theorem dX1_brought_8 : decode cX1_brought 8 = .ok (.invokevirtual 159, 3) := by decide +kernel
theorem dX1_brought_11 : decode cX1_brought 11 = .ok (.ifCond .ne 5, 3) := by decide +kernel
theorem dX1_brought_14 : decode cX1_brought 14 = .ok (.iload_n 1, 1) := by decide +kernel
theorem dX1_brought_15 : decode cX1_brought 15 = .ok (.ireturn, 1) := by decide +kernel
theorem dX1_brought_16 : decode cX1_brought 16 = .ok (.aload_n 0, 1) := by decide +kernel
theorem dX1_brought_17 : decode cX1_brought 17 = .ok (.getfield 32, 3) := by decide +kernel
theorem dX1_brought_20 : decode cX1_brought 20 = .ok (.iload_n 1, 1) := by decide +kernel
theorem dX1_brought_21 : decode cX1_brought 21 = .ok (.iaload, 1) := by decide +kernel
theorem dX1_brought_22 : decode cX1_brought 22 = .ok (.ifCond .ge 11, 3) := by decide +kernel
theorem dX1_brought_25 : decode cX1_brought 25 = .ok (.aload_n 0, 1) := by decide +kernel
theorem dX1_brought_26 : decode cX1_brought 26 = .ok (.getfield 32, 3) := by decide +kernel
theorem dX1_brought_29 : decode cX1_brought 29 = .ok (.iload_n 1, 1) := by decide +kernel
theorem dX1_brought_30 : decode cX1_brought 30 = .ok (.iaload, 1) := by decide +kernel
theorem dX1_brought_31 : decode cX1_brought 31 = .ok (.ineg, 1) := by decide +kernel
theorem dX1_brought_32 : decode cX1_brought 32 = .ok (.ireturn, 1) := by decide +kernel
theorem dX1_brought_33 : decode cX1_brought 33 = .ok (.iconst 2, 1) := by decide +kernel
theorem dX1_brought_34 : decode cX1_brought 34 = .ok (.aload_n 0, 1) := by decide +kernel
theorem dX1_brought_35 : decode cX1_brought 35 = .ok (.iload_n 1, 1) := by decide +kernel
theorem dX1_brought_36 : decode cX1_brought 36 = .ok (.invokevirtual 59, 3) := by decide +kernel
theorem dX1_brought_39 : decode cX1_brought 39 = .ok (.iadd, 1) := by decide +kernel
theorem dX1_brought_40 : decode cX1_brought 40 = .ok (.istore_n 3, 1) := by decide +kernel
theorem dX1_brought_41 : decode cX1_brought 41 = .ok (.aload_n 0, 1) := by decide +kernel
theorem dX1_brought_42 : decode cX1_brought 42 = .ok (.iload_n 1, 1) := by decide +kernel
theorem dX1_brought_43 : decode cX1_brought 43 = .ok (.invokevirtual 162, 3) := by decide +kernel
theorem dX1_brought_46 : decode cX1_brought 46 = .ok (.iconst 1, 1) := by decide +kernel
theorem dX1_brought_47 : decode cX1_brought 47 = .ok (.iadd, 1) := by decide +kernel
theorem dX1_brought_48 : decode cX1_brought 48 = .ok (.bipush 7, 2) := by decide +kernel
theorem dX1_brought_50 : decode cX1_brought 50 = .ok (.invokestatic 165, 3) := by decide +kernel
theorem dX1_brought_53 : decode cX1_brought 53 = .ok (.istore 4, 2) := by decide +kernel
theorem dX1_brought_55 : decode cX1_brought 55 = .ok (.aload_n 2, 1) := by decide +kernel
theorem dX1_brought_56 : decode cX1_brought 56 = .ok (.dup, 1) := by decide +kernel
theorem dX1_brought_57 : decode cX1_brought 57 = .ok (.getfield 171, 3) := by decide +kernel
theorem dX1_brought_60 : decode cX1_brought 60 = .ok (.iload_n 3, 1) := by decide +kernel
theorem dX1_brought_61 : decode cX1_brought 61 = .ok (.isub, 1) := by decide +kernel
theorem dX1_brought_62 : decode cX1_brought 62 = .ok (.putfield 171, 3) := by decide +kernel
theorem dX1_brought_65 : decode cX1_brought 65 = .ok (.aload_n 2, 1) := by decide +kernel
theorem dX1_brought_66 : decode cX1_brought 66 = .ok (.getfield 123, 3) := by decide +kernel
theorem dX1_brought_69 : decode cX1_brought 69 = .ok (.iconst 2, 1) := by decide +kernel
theorem dX1_brought_70 : decode cX1_brought 70 = .ok (.if_icmp .ge 55, 3) := by decide +kernel
theorem dX1_brought_73 : decode cX1_brought 73 = .ok (.iload 4, 2) := by decide +kernel
theorem dX1_brought_75 : decode cX1_brought 75 = .ok (.aload_n 2, 1) := by decide +kernel
theorem dX1_brought_76 : decode cX1_brought 76 = .ok (.getfield 174, 3) := by decide +kernel
theorem dX1_brought_79 : decode cX1_brought 79 = .ok (.if_icmp .le 46, 3) := by decide +kernel
theorem dX1_brought_82 : decode cX1_brought 82 = .ok (.aload_n 0, 1) := by decide +kernel
theorem dX1_brought_83 : decode cX1_brought 83 = .ok (.getfield 11, 3) := by decide +kernel
theorem dX1_brought_86 : decode cX1_brought 86 = .ok (.aload_n 2, 1) := by decide +kernel
theorem dX1_brought_87 : decode cX1_brought 87 = .ok (.getfield 123, 3) := by decide +kernel
theorem dX1_brought_90 : decode cX1_brought 90 = .ok (.iconst 1, 1) := by decide +kernel
theorem dX1_brought_91 : decode cX1_brought 91 = .ok (.iadd, 1) := by decide +kernel
theorem dX1_brought_92 : decode cX1_brought 92 = .ok (.aaload, 1) := by decide +kernel
theorem dX1_brought_93 : decode cX1_brought 93 = .ok (.iload_n 3, 1) := by decide +kernel
theorem dX1_brought_94 : decode cX1_brought 94 = .ok (.invokevirtual 100, 3) := by decide +kernel
theorem dX1_brought_97 : decode cX1_brought 97 = .ok (.ifCond .eq 28, 3) := by decide +kernel
theorem dX1_brought_100 : decode cX1_brought 100 = .ok (.aload_n 0, 1) := by decide +kernel
theorem dX1_brought_101 : decode cX1_brought 101 = .ok (.getfield 11, 3) := by decide +kernel
theorem dX1_brought_104 : decode cX1_brought 104 = .ok (.aload_n 2, 1) := by decide +kernel
theorem dX1_brought_105 : decode cX1_brought 105 = .ok (.getfield 123, 3) := by decide +kernel
theorem dX1_brought_108 : decode cX1_brought 108 = .ok (.iconst 1, 1) := by decide +kernel
theorem dX1_brought_109 : decode cX1_brought 109 = .ok (.iadd, 1) := by decide +kernel
theorem dX1_brought_110 : decode cX1_brought 110 = .ok (.aaload, 1) := by decide +kernel
theorem dX1_brought_111 : decode cX1_brought 111 = .ok (.astore_n 2, 1) := by decide +kernel
theorem dX1_brought_112 : decode cX1_brought 112 = .ok (.iconst 0, 1) := by decide +kernel
theorem dX1_brought_113 : decode cX1_brought 113 = .ok (.istore 4, 2) := by decide +kernel
theorem dX1_brought_115 : decode cX1_brought 115 = .ok (.aload_n 0, 1) := by decide +kernel
theorem dX1_brought_116 : decode cX1_brought 116 = .ok (.dup, 1) := by decide +kernel
theorem dX1_brought_117 : decode cX1_brought 117 = .ok (.getfield 90, 3) := by decide +kernel
theorem dX1_brought_120 : decode cX1_brought 120 = .ok (.iconst 1, 1) := by decide +kernel
theorem dX1_brought_121 : decode cX1_brought 121 = .ok (.iadd, 1) := by decide +kernel
theorem dX1_brought_122 : decode cX1_brought 122 = .ok (.putfield 90, 3) := by decide +kernel
theorem dX1_brought_125 : decode cX1_brought 125 = .ok (.aload_n 2, 1) := by decide +kernel
theorem dX1_brought_126 : decode cX1_brought 126 = .ok (.iload_n 3, 1) := by decide +kernel
theorem dX1_brought_127 : decode cX1_brought 127 = .ok (.invokevirtual 106, 3) := by decide +kernel
theorem dX1_brought_130 : decode cX1_brought 130 = .ok (.istore 5, 2) := by decide +kernel
theorem dX1_brought_132 : decode cX1_brought 132 = .ok (.aload_n 0, 1) := by decide +kernel
theorem dX1_brought_133 : decode cX1_brought 133 = .ok (.getfield 32, 3) := by decide +kernel
theorem dX1_brought_136 : decode cX1_brought 136 = .ok (.iload_n 1, 1) := by decide +kernel
theorem dX1_brought_137 : decode cX1_brought 137 = .ok (.aload_n 0, 1) := by decide +kernel
theorem dX1_brought_138 : decode cX1_brought 138 = .ok (.getfield 32, 3) := by decide +kernel
theorem dX1_brought_141 : decode cX1_brought 141 = .ok (.iload 5, 2) := by decide +kernel
theorem dX1_brought_143 : decode cX1_brought 143 = .ok (.iload_n 3, 1) := by decide +kernel
theorem dX1_brought_144 : decode cX1_brought 144 = .ok (.invokestatic 177, 3) := by decide +kernel
theorem dX1_brought_147 : decode cX1_brought 147 = .ok (.aload_n 0, 1) := by decide +kernel
theorem dX1_brought_148 : decode cX1_brought 148 = .ok (.getfield 32, 3) := by decide +kernel
theorem dX1_brought_151 : decode cX1_brought 151 = .ok (.iload 5, 2) := by decide +kernel
theorem dX1_brought_153 : decode cX1_brought 153 = .ok (.aload_n 0, 1) := by decide +kernel
theorem dX1_brought_154 : decode cX1_brought 154 = .ok (.getfield 32, 3) := by decide +kernel
theorem dX1_brought_157 : decode cX1_brought 157 = .ok (.iload_n 1, 1) := by decide +kernel
theorem dX1_brought_158 : decode cX1_brought 158 = .ok (.iaload, 1) := by decide +kernel
theorem dX1_brought_159 : decode cX1_brought 159 = .ok (.bipush (-57), 2) := by decide +kernel
theorem dX1_brought_161 : decode cX1_brought 161 = .ok (.iand, 1) := by decide +kernel
theorem dX1_brought_162 : decode cX1_brought 162 = .ok (.iload 4, 2) := by decide +kernel
theorem dX1_brought_164 : decode cX1_brought 164 = .ok (.iconst 3, 1) := by decide +kernel
theorem dX1_brought_165 : decode cX1_brought 165 = .ok (.ishl, 1) := by decide +kernel
theorem dX1_brought_166 : decode cX1_brought 166 = .ok (.ior, 1) := by decide +kernel
theorem dX1_brought_167 : decode cX1_brought 167 = .ok (.iastore, 1) := by decide +kernel
theorem dX1_brought_168 : decode cX1_brought 168 = .ok (.aload_n 0, 1) := by decide +kernel
theorem dX1_brought_169 : decode cX1_brought 169 = .ok (.getfield 32, 3) := by decide +kernel
theorem dX1_brought_172 : decode cX1_brought 172 = .ok (.iload_n 1, 1) := by decide +kernel
theorem dX1_brought_173 : decode cX1_brought 173 = .ok (.iload 5, 2) := by decide +kernel
theorem dX1_brought_175 : decode cX1_brought 175 = .ok (.ineg, 1) := by decide +kernel
theorem dX1_brought_176 : decode cX1_brought 176 = .ok (.iastore, 1) := by decide +kernel
theorem dX1_brought_177 : decode cX1_brought 177 = .ok (.aload_n 0, 1) := by decide +kernel
theorem dX1_brought_178 : decode cX1_brought 178 = .ok (.dup, 1) := by decide +kernel
theorem dX1_brought_179 : decode cX1_brought 179 = .ok (.getfield 87, 3) := by decide +kernel
theorem dX1_brought_182 : decode cX1_brought 182 = .ok (.iload_n 3, 1) := by decide +kernel
theorem dX1_brought_183 : decode cX1_brought 183 = .ok (.iadd, 1) := by decide +kernel
theorem dX1_brought_184 : decode cX1_brought 184 = .ok (.putfield 87, 3) := by decide +kernel
theorem dX1_brought_187 : decode cX1_brought 187 = .ok (.iload 5, 2) := by decide +kernel
theorem dX1_brought_189 : decode cX1_brought 189 = .ok (.ireturn, 1) := by decide +kernel
theorem dX1_scan_0 : decode cX1_scan 0 = .ok (.iconst 0, 1) := by decide +kernel
theorem dX1_scan_1 : decode cX1_scan 1 = .ok (.istore_n 1, 1) := by decide +kernel
theorem dX1_scan_2 : decode cX1_scan 2 = .ok (.iload_n 1, 1) := by decide +kernel
theorem dX1_scan_3 : decode cX1_scan 3 = .ok (.aload_n 0, 1) := by decide +kernel
theorem dX1_scan_4 : decode cX1_scan 4 = .ok (.getfield 32, 3) := by decide +kernel
theorem dX1_scan_7 : decode cX1_scan 7 = .ok (.arraylength, 1) := by decide +kernel
theorem dX1_scan_8 : decode cX1_scan 8 = .ok (.if_icmp .ge 95, 3) := by decide +kernel
theorem dX1_scan_11 : decode cX1_scan 11 = .ok (.aload_n 0, 1) := by decide +kernel
theorem dX1_scan_12 : decode cX1_scan 12 = .ok (.invokevirtual 183, 3) := by decide +kernel
theorem dX1_scan_15 : decode cX1_scan 15 = .ok (.astore_n 2, 1) := by decide +kernel
theorem dX1_scan_16 : decode cX1_scan 16 = .ok (.aload_n 2, 1) := by decide +kernel
theorem dX1_scan_17 : decode cX1_scan 17 = .ok (.ifnonnull 4, 3) := by decide +kernel
theorem dX1_scan_20 : decode cX1_scan 20 = .ok (.return_, 1) := by decide +kernel
theorem dX1_scan_21 : decode cX1_scan 21 = .ok (.aload_n 2, 1) := by decide +kernel
theorem dX1_scan_22 : decode cX1_scan 22 = .ok (.getfield 187, 3) := by decide +kernel
theorem dX1_scan_25 : decode cX1_scan 25 = .ok (.aload_n 2, 1) := by decide +kernel
theorem dX1_scan_26 : decode cX1_scan 26 = .ok (.getfield 190, 3) := by decide +kernel
theorem dX1_scan_29 : decode cX1_scan 29 = .ok (.iadd, 1) := by decide +kernel
theorem dX1_scan_30 : decode cX1_scan 30 = .ok (.istore_n 3, 1) := by decide +kernel
theorem dX1_scan_31 : decode cX1_scan 31 = .ok (.iload_n 3, 1) := by decide +kernel
theorem dX1_scan_32 : decode cX1_scan 32 = .ok (.iconst 2, 1) := by decide +kernel
theorem dX1_scan_33 : decode cX1_scan 33 = .ok (.iadd, 1) := by decide +kernel
theorem dX1_scan_34 : decode cX1_scan 34 = .ok (.aload_n 0, 1) := by decide +kernel
theorem dX1_scan_35 : decode cX1_scan 35 = .ok (.iload_n 3, 1) := by decide +kernel
theorem dX1_scan_36 : decode cX1_scan 36 = .ok (.invokevirtual 59, 3) := by decide +kernel
theorem dX1_scan_39 : decode cX1_scan 39 = .ok (.iadd, 1) := by decide +kernel
theorem dX1_scan_40 : decode cX1_scan 40 = .ok (.istore 4, 2) := by decide +kernel
theorem dX1_scan_42 : decode cX1_scan 42 = .ok (.iload_n 3, 1) := by decide +kernel
theorem dX1_scan_43 : decode cX1_scan 43 = .ok (.iconst 2, 1) := by decide +kernel
theorem dX1_scan_44 : decode cX1_scan 44 = .ok (.iadd, 1) := by decide +kernel
theorem dX1_scan_45 : decode cX1_scan 45 = .ok (.istore 5, 2) := by decide +kernel
theorem dX1_scan_47 : decode cX1_scan 47 = .ok (.iload 5, 2) := by decide +kernel
theorem dX1_scan_49 : decode cX1_scan 49 = .ok (.iload 4, 2) := by decide +kernel
theorem dX1_scan_51 : decode cX1_scan 51 = .ok (.if_icmp .ge 33, 3) := by decide +kernel
theorem dX1_scan_54 : decode cX1_scan 54 = .ok (.aload_n 0, 1) := by decide +kernel
theorem dX1_scan_55 : decode cX1_scan 55 = .ok (.getfield 32, 3) := by decide +kernel
theorem dX1_scan_58 : decode cX1_scan 58 = .ok (.iload 5, 2) := by decide +kernel
theorem dX1_scan_60 : decode cX1_scan 60 = .ok (.aload_n 0, 1) := by decide +kernel
theorem dX1_scan_61 : decode cX1_scan 61 = .ok (.aload_n 0, 1) := by decide +kernel
theorem dX1_scan_62 : decode cX1_scan 62 = .ok (.getfield 32, 3) := by decide +kernel
theorem dX1_scan_65 : decode cX1_scan 65 = .ok (.iload 5, 2) := by decide +kernel
theorem dX1_scan_67 : decode cX1_scan 67 = .ok (.iaload, 1) := by decide +kernel
theorem dX1_scan_68 : decode cX1_scan 68 = .ok (.invokevirtual 156, 3) := by decide +kernel
theorem dX1_scan_71 : decode cX1_scan 71 = .ok (.iastore, 1) := by decide +kernel
theorem dX1_scan_72 : decode cX1_scan 72 = .ok (.aload_n 0, 1) := by decide +kernel
theorem dX1_scan_73 : decode cX1_scan 73 = .ok (.iload 5, 2) := by decide +kernel
theorem dX1_scan_75 : decode cX1_scan 75 = .ok (.invokevirtual 120, 3) := by decide +kernel
theorem dX1_scan_78 : decode cX1_scan 78 = .ok (.iinc 5 1, 3) := by decide +kernel
theorem dX1_scan_81 : decode cX1_scan 81 = .ok (.goto (-34), 3) := by decide +kernel
theorem dX1_scan_84 : decode cX1_scan 84 = .ok (.aload_n 2, 1) := by decide +kernel
theorem dX1_scan_85 : decode cX1_scan 85 = .ok (.dup, 1) := by decide +kernel
theorem dX1_scan_86 : decode cX1_scan 86 = .ok (.getfield 190, 3) := by decide +kernel
theorem dX1_scan_89 : decode cX1_scan 89 = .ok (.iload 4, 2) := by decide +kernel
theorem dX1_scan_91 : decode cX1_scan 91 = .ok (.iload_n 3, 1) := by decide +kernel
theorem dX1_scan_92 : decode cX1_scan 92 = .ok (.isub, 1) := by decide +kernel
theorem dX1_scan_93 : decode cX1_scan 93 = .ok (.iadd, 1) := by decide +kernel
theorem dX1_scan_94 : decode cX1_scan 94 = .ok (.putfield 190, 3) := by decide +kernel
theorem dX1_scan_97 : decode cX1_scan 97 = .ok (.iinc 1 1, 3) := by decide +kernel
theorem dX1_scan_100 : decode cX1_scan 100 = .ok (.goto (-98), 3) := by decide +kernel
theorem dX1_scan_103 : decode cX1_scan 103 = .ok (.return_, 1) := by decide +kernel
theorem dX1_leastUnscanned_0 : decode cX1_leastUnscanned 0 = .ok (.iconst 0, 1) := by decide +kernel
theorem dX1_leastUnscanned_1 : decode cX1_leastUnscanned 1 = .ok (.istore_n 1, 1) := by decide +kernel
theorem dX1_leastUnscanned_2 : decode cX1_leastUnscanned 2 = .ok (.iload_n 1, 1) := by decide +kernel
theorem dX1_leastUnscanned_3 : decode cX1_leastUnscanned 3 = .ok (.iconst 3, 1) := by decide +kernel
theorem dX1_leastUnscanned_4 : decode cX1_leastUnscanned 4 = .ok (.if_icmp .ge 37, 3) := by decide +kernel
theorem dX1_leastUnscanned_7 : decode cX1_leastUnscanned 7 = .ok (.aload_n 0, 1) := by decide +kernel
theorem dX1_leastUnscanned_8 : decode cX1_leastUnscanned 8 = .ok (.getfield 11, 3) := by decide +kernel
theorem dX1_leastUnscanned_11 : decode cX1_leastUnscanned 11 = .ok (.iload_n 1, 1) := by decide +kernel
theorem dX1_leastUnscanned_12 : decode cX1_leastUnscanned 12 = .ok (.aaload, 1) := by decide +kernel
theorem dX1_leastUnscanned_13 : decode cX1_leastUnscanned 13 = .ok (.getfield 190, 3) := by decide +kernel
theorem dX1_leastUnscanned_16 : decode cX1_leastUnscanned 16 = .ok (.aload_n 0, 1) := by decide +kernel
theorem dX1_leastUnscanned_17 : decode cX1_leastUnscanned 17 = .ok (.getfield 11, 3) := by decide +kernel
theorem dX1_leastUnscanned_20 : decode cX1_leastUnscanned 20 = .ok (.iload_n 1, 1) := by decide +kernel
theorem dX1_leastUnscanned_21 : decode cX1_leastUnscanned 21 = .ok (.aaload, 1) := by decide +kernel
theorem dX1_leastUnscanned_22 : decode cX1_leastUnscanned 22 = .ok (.getfield 78, 3) := by decide +kernel
theorem dX1_leastUnscanned_25 : decode cX1_leastUnscanned 25 = .ok (.if_icmp .ge 10, 3) := by decide +kernel
theorem dX1_leastUnscanned_28 : decode cX1_leastUnscanned 28 = .ok (.aload_n 0, 1) := by decide +kernel
theorem dX1_leastUnscanned_29 : decode cX1_leastUnscanned 29 = .ok (.getfield 11, 3) := by decide +kernel
theorem dX1_leastUnscanned_32 : decode cX1_leastUnscanned 32 = .ok (.iload_n 1, 1) := by decide +kernel
theorem dX1_leastUnscanned_33 : decode cX1_leastUnscanned 33 = .ok (.aaload, 1) := by decide +kernel
theorem dX1_leastUnscanned_34 : decode cX1_leastUnscanned 34 = .ok (.areturn, 1) := by decide +kernel
theorem dX1_leastUnscanned_35 : decode cX1_leastUnscanned 35 = .ok (.iinc 1 1, 3) := by decide +kernel
theorem dX1_leastUnscanned_38 : decode cX1_leastUnscanned 38 = .ok (.goto (-36), 3) := by decide +kernel
theorem dX1_leastUnscanned_41 : decode cX1_leastUnscanned 41 = .ok (.aconst_null, 1) := by decide +kernel
theorem dX1_leastUnscanned_42 : decode cX1_leastUnscanned 42 = .ok (.areturn, 1) := by decide +kernel
theorem dX1_grantWishes_0 : decode cX1_grantWishes 0 = .ok (.iconst 0, 1) := by decide +kernel
theorem dX1_grantWishes_1 : decode cX1_grantWishes 1 = .ok (.istore_n 1, 1) := by decide +kernel
theorem dX1_grantWishes_2 : decode cX1_grantWishes 2 = .ok (.iconst 0, 1) := by decide +kernel
theorem dX1_grantWishes_3 : decode cX1_grantWishes 3 = .ok (.istore_n 2, 1) := by decide +kernel
theorem dX1_grantWishes_4 : decode cX1_grantWishes 4 = .ok (.iload_n 2, 1) := by decide +kernel
theorem dX1_grantWishes_5 : decode cX1_grantWishes 5 = .ok (.aload_n 0, 1) := by decide +kernel
theorem dX1_grantWishes_6 : decode cX1_grantWishes 6 = .ok (.getfield 39, 3) := by decide +kernel
theorem dX1_grantWishes_9 : decode cX1_grantWishes 9 = .ok (.getfield 97, 3) := by decide +kernel
theorem dX1_grantWishes_12 : decode cX1_grantWishes 12 = .ok (.if_icmp .ge 97, 3) := by decide +kernel
theorem dX1_grantWishes_15 : decode cX1_grantWishes 15 = .ok (.aload_n 0, 1) := by decide +kernel
theorem dX1_grantWishes_16 : decode cX1_grantWishes 16 = .ok (.getfield 39, 3) := by decide +kernel
theorem dX1_grantWishes_19 : decode cX1_grantWishes 19 = .ok (.getfield 63, 3) := by decide +kernel
theorem dX1_grantWishes_22 : decode cX1_grantWishes 22 = .ok (.iload_n 2, 1) := by decide +kernel
theorem dX1_grantWishes_23 : decode cX1_grantWishes 23 = .ok (.iaload, 1) := by decide +kernel
theorem dX1_grantWishes_24 : decode cX1_grantWishes 24 = .ok (.istore_n 3, 1) := by decide +kernel
theorem dX1_grantWishes_25 : decode cX1_grantWishes 25 = .ok (.aload_n 0, 1) := by decide +kernel
theorem dX1_grantWishes_26 : decode cX1_grantWishes 26 = .ok (.iload_n 3, 1) := by decide +kernel
theorem dX1_grantWishes_27 : decode cX1_grantWishes 27 = .ok (.invokevirtual 70, 3) := by decide +kernel
theorem dX1_grantWishes_30 : decode cX1_grantWishes 30 = .ok (.iload_n 3, 1) := by decide +kernel
theorem dX1_grantWishes_31 : decode cX1_grantWishes 31 = .ok (.invokevirtual 159, 3) := by decide +kernel
theorem dX1_grantWishes_34 : decode cX1_grantWishes 34 = .ok (.ifCond .eq 16, 3) := by decide +kernel
theorem dX1_grantWishes_37 : decode cX1_grantWishes 37 = .ok (.aload_n 0, 1) := by decide +kernel
theorem dX1_grantWishes_38 : decode cX1_grantWishes 38 = .ok (.getfield 32, 3) := by decide +kernel
theorem dX1_grantWishes_41 : decode cX1_grantWishes 41 = .ok (.iload_n 3, 1) := by decide +kernel
theorem dX1_grantWishes_42 : decode cX1_grantWishes 42 = .ok (.iaload, 1) := by decide +kernel
theorem dX1_grantWishes_43 : decode cX1_grantWishes 43 = .ok (.ifCond .lt 7, 3) := by decide +kernel
theorem dX1_grantWishes_46 : decode cX1_grantWishes 46 = .ok (.iconst 1, 1) := by decide +kernel
theorem dX1_grantWishes_47 : decode cX1_grantWishes 47 = .ok (.goto 4, 3) := by decide +kernel
theorem dX1_grantWishes_50 : decode cX1_grantWishes 50 = .ok (.iconst 0, 1) := by decide +kernel
theorem dX1_grantWishes_51 : decode cX1_grantWishes 51 = .ok (.istore 4, 2) := by decide +kernel
theorem dX1_grantWishes_53 : decode cX1_grantWishes 53 = .ok (.aload_n 0, 1) := by decide +kernel
theorem dX1_grantWishes_54 : decode cX1_grantWishes 54 = .ok (.iload_n 3, 1) := by decide +kernel
theorem dX1_grantWishes_55 : decode cX1_grantWishes 55 = .ok (.invokevirtual 156, 3) := by decide +kernel
theorem dX1_grantWishes_58 : decode cX1_grantWishes 58 = .ok (.istore 5, 2) := by decide +kernel
theorem dX1_grantWishes_60 : decode cX1_grantWishes 60 = .ok (.iload 4, 2) := by decide +kernel
theorem dX1_grantWishes_62 : decode cX1_grantWishes 62 = .ok (.ifCond .eq 27, 3) := by decide +kernel
theorem dX1_grantWishes_65 : decode cX1_grantWishes 65 = .ok (.aload_n 0, 1) := by decide +kernel
theorem dX1_grantWishes_66 : decode cX1_grantWishes 66 = .ok (.getfield 32, 3) := by decide +kernel
theorem dX1_grantWishes_69 : decode cX1_grantWishes 69 = .ok (.iload 5, 2) := by decide +kernel
theorem dX1_grantWishes_71 : decode cX1_grantWishes 71 = .ok (.dup2, 1) := by decide +kernel
theorem dX1_grantWishes_72 : decode cX1_grantWishes 72 = .ok (.iaload, 1) := by decide +kernel
theorem dX1_grantWishes_73 : decode cX1_grantWishes 73 = .ok (.bipush (-65), 2) := by decide +kernel
theorem dX1_grantWishes_75 : decode cX1_grantWishes 75 = .ok (.iand, 1) := by decide +kernel
theorem dX1_grantWishes_76 : decode cX1_grantWishes 76 = .ok (.iastore, 1) := by decide +kernel
theorem dX1_grantWishes_77 : decode cX1_grantWishes 77 = .ok (.aload_n 0, 1) := by decide +kernel
theorem dX1_grantWishes_78 : decode cX1_grantWishes 78 = .ok (.getfield 42, 3) := by decide +kernel
theorem dX1_grantWishes_81 : decode cX1_grantWishes 81 = .ok (.iload 5, 2) := by decide +kernel
theorem dX1_grantWishes_83 : decode cX1_grantWishes 83 = .ok (.invokevirtual 109, 3) := by decide +kernel
theorem dX1_grantWishes_86 : decode cX1_grantWishes 86 = .ok (.goto 17, 3) := by decide +kernel
theorem dX1_grantWishes_89 : decode cX1_grantWishes 89 = .ok (.aload_n 0, 1) := by decide +kernel
theorem dX1_grantWishes_90 : decode cX1_grantWishes 90 = .ok (.getfield 39, 3) := by decide +kernel
theorem dX1_grantWishes_93 : decode cX1_grantWishes 93 = .ok (.getfield 63, 3) := by decide +kernel
theorem dX1_grantWishes_96 : decode cX1_grantWishes 96 = .ok (.iload_n 1, 1) := by decide +kernel
theorem dX1_grantWishes_97 : decode cX1_grantWishes 97 = .ok (.iload 5, 2) := by decide +kernel
theorem dX1_grantWishes_99 : decode cX1_grantWishes 99 = .ok (.iastore, 1) := by decide +kernel
theorem dX1_grantWishes_100 : decode cX1_grantWishes 100 = .ok (.iinc 1 1, 3) := by decide +kernel
theorem dX1_grantWishes_103 : decode cX1_grantWishes 103 = .ok (.iinc 2 1, 3) := by decide +kernel
theorem dX1_grantWishes_106 : decode cX1_grantWishes 106 = .ok (.goto (-102), 3) := by decide +kernel
theorem dX1_grantWishes_109 : decode cX1_grantWishes 109 = .ok (.aload_n 0, 1) := by decide +kernel
theorem dX1_grantWishes_110 : decode cX1_grantWishes 110 = .ok (.getfield 39, 3) := by decide +kernel
theorem dX1_grantWishes_113 : decode cX1_grantWishes 113 = .ok (.iload_n 1, 1) := by decide +kernel
theorem dX1_grantWishes_114 : decode cX1_grantWishes 114 = .ok (.putfield 97, 3) := by decide +kernel
theorem dX1_grantWishes_117 : decode cX1_grantWishes 117 = .ok (.return_, 1) := by decide +kernel
theorem dX1_clearWeakPlaces_0 : decode cX1_clearWeakPlaces 0 = .ok (.iconst 0, 1) := by decide +kernel
theorem dX1_clearWeakPlaces_1 : decode cX1_clearWeakPlaces 1 = .ok (.istore_n 1, 1) := by decide +kernel
theorem dX1_clearWeakPlaces_2 : decode cX1_clearWeakPlaces 2 = .ok (.iload_n 1, 1) := by decide +kernel
theorem dX1_clearWeakPlaces_3 : decode cX1_clearWeakPlaces 3 = .ok (.aload_n 0, 1) := by decide +kernel
theorem dX1_clearWeakPlaces_4 : decode cX1_clearWeakPlaces 4 = .ok (.getfield 29, 3) := by decide +kernel
theorem dX1_clearWeakPlaces_7 : decode cX1_clearWeakPlaces 7 = .ok (.getfield 97, 3) := by decide +kernel
theorem dX1_clearWeakPlaces_10 : decode cX1_clearWeakPlaces 10 = .ok (.if_icmp .ge 60, 3) := by decide +kernel
theorem dX1_clearWeakPlaces_13 : decode cX1_clearWeakPlaces 13 = .ok (.aload_n 0, 1) := by decide +kernel
theorem dX1_clearWeakPlaces_14 : decode cX1_clearWeakPlaces 14 = .ok (.getfield 29, 3) := by decide +kernel
theorem dX1_clearWeakPlaces_17 : decode cX1_clearWeakPlaces 17 = .ok (.getfield 63, 3) := by decide +kernel
theorem dX1_clearWeakPlaces_20 : decode cX1_clearWeakPlaces 20 = .ok (.iload_n 1, 1) := by decide +kernel
theorem dX1_clearWeakPlaces_21 : decode cX1_clearWeakPlaces 21 = .ok (.iaload, 1) := by decide +kernel
theorem dX1_clearWeakPlaces_22 : decode cX1_clearWeakPlaces 22 = .ok (.istore_n 2, 1) := by decide +kernel
theorem dX1_clearWeakPlaces_23 : decode cX1_clearWeakPlaces 23 = .ok (.aload_n 0, 1) := by decide +kernel
theorem dX1_clearWeakPlaces_24 : decode cX1_clearWeakPlaces 24 = .ok (.iload_n 2, 1) := by decide +kernel
theorem dX1_clearWeakPlaces_25 : decode cX1_clearWeakPlaces 25 = .ok (.invokevirtual 70, 3) := by decide +kernel
theorem dX1_clearWeakPlaces_28 : decode cX1_clearWeakPlaces 28 = .ok (.iload_n 2, 1) := by decide +kernel
theorem dX1_clearWeakPlaces_29 : decode cX1_clearWeakPlaces 29 = .ok (.invokevirtual 159, 3) := by decide +kernel
theorem dX1_clearWeakPlaces_32 : decode cX1_clearWeakPlaces 32 = .ok (.ifCond .eq 32, 3) := by decide +kernel
theorem dX1_clearWeakPlaces_35 : decode cX1_clearWeakPlaces 35 = .ok (.aload_n 0, 1) := by decide +kernel
theorem dX1_clearWeakPlaces_36 : decode cX1_clearWeakPlaces 36 = .ok (.getfield 29, 3) := by decide +kernel
theorem dX1_clearWeakPlaces_39 : decode cX1_clearWeakPlaces 39 = .ok (.getfield 63, 3) := by decide +kernel
theorem dX1_clearWeakPlaces_42 : decode cX1_clearWeakPlaces 42 = .ok (.iload_n 1, 1) := by decide +kernel
theorem dX1_clearWeakPlaces_43 : decode cX1_clearWeakPlaces 43 = .ok (.aload_n 0, 1) := by decide +kernel
theorem dX1_clearWeakPlaces_44 : decode cX1_clearWeakPlaces 44 = .ok (.getfield 32, 3) := by decide +kernel
theorem dX1_clearWeakPlaces_47 : decode cX1_clearWeakPlaces 47 = .ok (.iload_n 2, 1) := by decide +kernel
theorem dX1_clearWeakPlaces_48 : decode cX1_clearWeakPlaces 48 = .ok (.iaload, 1) := by decide +kernel
theorem dX1_clearWeakPlaces_49 : decode cX1_clearWeakPlaces 49 = .ok (.ifCond .ge 13, 3) := by decide +kernel
theorem dX1_clearWeakPlaces_52 : decode cX1_clearWeakPlaces 52 = .ok (.aload_n 0, 1) := by decide +kernel
theorem dX1_clearWeakPlaces_53 : decode cX1_clearWeakPlaces 53 = .ok (.getfield 32, 3) := by decide +kernel
theorem dX1_clearWeakPlaces_56 : decode cX1_clearWeakPlaces 56 = .ok (.iload_n 2, 1) := by decide +kernel
theorem dX1_clearWeakPlaces_57 : decode cX1_clearWeakPlaces 57 = .ok (.iaload, 1) := by decide +kernel
theorem dX1_clearWeakPlaces_58 : decode cX1_clearWeakPlaces 58 = .ok (.ineg, 1) := by decide +kernel
theorem dX1_clearWeakPlaces_59 : decode cX1_clearWeakPlaces 59 = .ok (.goto 4, 3) := by decide +kernel
theorem dX1_clearWeakPlaces_62 : decode cX1_clearWeakPlaces 62 = .ok (.iconst 0, 1) := by decide +kernel
theorem dX1_clearWeakPlaces_63 : decode cX1_clearWeakPlaces 63 = .ok (.iastore, 1) := by decide +kernel
theorem dX1_clearWeakPlaces_64 : decode cX1_clearWeakPlaces 64 = .ok (.iinc 1 1, 3) := by decide +kernel
theorem dX1_clearWeakPlaces_67 : decode cX1_clearWeakPlaces 67 = .ok (.goto (-65), 3) := by decide +kernel
theorem dX1_clearWeakPlaces_70 : decode cX1_clearWeakPlaces 70 = .ok (.return_, 1) := by decide +kernel
theorem dX2_init_0 : decode cX2_init 0 = .ok (.aload_n 0, 1) := by decide +kernel
theorem dX2_init_1 : decode cX2_init 1 = .ok (.invokespecial 3, 3) := by decide +kernel
theorem dX2_init_4 : decode cX2_init 4 = .ok (.aload_n 0, 1) := by decide +kernel
theorem dX2_init_5 : decode cX2_init 5 = .ok (.sipush 256, 3) := by decide +kernel
theorem dX2_init_8 : decode cX2_init 8 = .ok (.newarray .int, 2) := by decide +kernel
theorem dX2_init_10 : decode cX2_init 10 = .ok (.putfield 11, 3) := by decide +kernel
theorem dX2_init_13 : decode cX2_init 13 = .ok (.aload_n 0, 1) := by decide +kernel
theorem dX2_init_14 : decode cX2_init 14 = .ok (.bipush 8, 2) := by decide +kernel
theorem dX2_init_16 : decode cX2_init 16 = .ok (.newarray .int, 2) := by decide +kernel
theorem dX2_init_18 : decode cX2_init 18 = .ok (.putfield 15, 3) := by decide +kernel
theorem dX2_init_21 : decode cX2_init 21 = .ok (.aload_n 0, 1) := by decide +kernel
theorem dX2_init_22 : decode cX2_init 22 = .ok (.aload_n 1, 1) := by decide +kernel
theorem dX2_init_23 : decode cX2_init 23 = .ok (.putfield 18, 3) := by decide +kernel
theorem dX2_init_26 : decode cX2_init 26 = .ok (.return_, 1) := by decide +kernel
theorem dX2_append_0 : decode cX2_append 0 = .ok (.aload_n 0, 1) := by decide +kernel
theorem dX2_append_1 : decode cX2_append 1 = .ok (.getfield 22, 3) := by decide +kernel
theorem dX2_append_4 : decode cX2_append 4 = .ok (.bipush 64, 2) := by decide +kernel
theorem dX2_append_6 : decode cX2_append 6 = .ok (.if_icmp .ge 60, 3) := by decide +kernel
theorem dX2_append_9 : decode cX2_append 9 = .ok (.iconst 4, 1) := by decide +kernel
theorem dX2_append_10 : decode cX2_append 10 = .ok (.aload_n 0, 1) := by decide +kernel
theorem dX2_append_11 : decode cX2_append 11 = .ok (.getfield 22, 3) := by decide +kernel
theorem dX2_append_14 : decode cX2_append 14 = .ok (.imul, 1) := by decide +kernel
theorem dX2_append_15 : decode cX2_append 15 = .ok (.istore 5, 2) := by decide +kernel
theorem dX2_append_17 : decode cX2_append 17 = .ok (.aload_n 0, 1) := by decide +kernel
theorem dX2_append_18 : decode cX2_append 18 = .ok (.getfield 11, 3) := by decide +kernel
theorem dX2_append_21 : decode cX2_append 21 = .ok (.iload 5, 2) := by decide +kernel
theorem dX2_append_23 : decode cX2_append 23 = .ok (.iload_n 1, 1) := by decide +kernel
theorem dX2_append_24 : decode cX2_append 24 = .ok (.iastore, 1) := by decide +kernel
theorem dX2_append_25 : decode cX2_append 25 = .ok (.aload_n 0, 1) := by decide +kernel
theorem dX2_append_26 : decode cX2_append 26 = .ok (.getfield 11, 3) := by decide +kernel
theorem dX2_append_29 : decode cX2_append 29 = .ok (.iload 5, 2) := by decide +kernel
theorem dX2_append_31 : decode cX2_append 31 = .ok (.iconst 1, 1) := by decide +kernel
theorem dX2_append_32 : decode cX2_append 32 = .ok (.iadd, 1) := by decide +kernel
theorem dX2_append_33 : decode cX2_append 33 = .ok (.iload_n 2, 1) := by decide +kernel
theorem dX2_append_34 : decode cX2_append 34 = .ok (.iastore, 1) := by decide +kernel
theorem dX2_append_35 : decode cX2_append 35 = .ok (.aload_n 0, 1) := by decide +kernel
theorem dX2_append_36 : decode cX2_append 36 = .ok (.getfield 11, 3) := by decide +kernel
theorem dX2_append_39 : decode cX2_append 39 = .ok (.iload 5, 2) := by decide +kernel
theorem dX2_append_41 : decode cX2_append 41 = .ok (.iconst 2, 1) := by decide +kernel
theorem dX2_append_42 : decode cX2_append 42 = .ok (.iadd, 1) := by decide +kernel
theorem dX2_append_43 : decode cX2_append 43 = .ok (.iload_n 3, 1) := by decide +kernel
theorem dX2_append_44 : decode cX2_append 44 = .ok (.iastore, 1) := by decide +kernel
theorem dX2_append_45 : decode cX2_append 45 = .ok (.aload_n 0, 1) := by decide +kernel
theorem dX2_append_46 : decode cX2_append 46 = .ok (.getfield 11, 3) := by decide +kernel
theorem dX2_append_49 : decode cX2_append 49 = .ok (.iload 5, 2) := by decide +kernel
theorem dX2_append_51 : decode cX2_append 51 = .ok (.iconst 3, 1) := by decide +kernel
theorem dX2_append_52 : decode cX2_append 52 = .ok (.iadd, 1) := by decide +kernel
theorem dX2_append_53 : decode cX2_append 53 = .ok (.iload 4, 2) := by decide +kernel
theorem dX2_append_55 : decode cX2_append 55 = .ok (.iastore, 1) := by decide +kernel
theorem dX2_append_56 : decode cX2_append 56 = .ok (.aload_n 0, 1) := by decide +kernel
theorem dX2_append_57 : decode cX2_append 57 = .ok (.dup, 1) := by decide +kernel
theorem dX2_append_58 : decode cX2_append 58 = .ok (.getfield 22, 3) := by decide +kernel
theorem dX2_append_61 : decode cX2_append 61 = .ok (.iconst 1, 1) := by decide +kernel
theorem dX2_append_62 : decode cX2_append 62 = .ok (.iadd, 1) := by decide +kernel
theorem dX2_append_63 : decode cX2_append 63 = .ok (.putfield 22, 3) := by decide +kernel
theorem dX2_append_66 : decode cX2_append 66 = .ok (.return_, 1) := by decide +kernel
theorem dX2_endBefore_0 : decode cX2_endBefore 0 = .ok (.aload_n 0, 1) := by decide +kernel
theorem dX2_endBefore_1 : decode cX2_endBefore 1 = .ok (.getfield 26, 3) := by decide +kernel
theorem dX2_endBefore_4 : decode cX2_endBefore 4 = .ok (.aload_n 0, 1) := by decide +kernel
theorem dX2_endBefore_5 : decode cX2_endBefore 5 = .ok (.getfield 22, 3) := by decide +kernel
theorem dX2_endBefore_8 : decode cX2_endBefore 8 = .ok (.if_icmp .lt 5, 3) := by decide +kernel
theorem dX2_endBefore_11 : decode cX2_endBefore 11 = .ok (.iconst 0, 1) := by decide +kernel
theorem dX2_endBefore_12 : decode cX2_endBefore 12 = .ok (.ireturn, 1) := by decide +kernel
theorem dX2_endBefore_13 : decode cX2_endBefore 13 = .ok (.iload_n 1, 1) := by decide +kernel
theorem dX2_endBefore_14 : decode cX2_endBefore 14 = .ok (.ifCond .eq 6, 3) := by decide +kernel
theorem dX2_endBefore_17 : decode cX2_endBefore 17 = .ok (.bipush 6, 2) := by decide +kernel
theorem dX2_endBefore_19 : decode cX2_endBefore 19 = .ok (.ireturn, 1) := by decide +kernel
theorem dX2_endBefore_20 : decode cX2_endBefore 20 = .ok (.aload_n 0, 1) := by decide +kernel
theorem dX2_endBefore_21 : decode cX2_endBefore 21 = .ok (.invokevirtual 29, 3) := by decide +kernel
theorem dX2_endBefore_24 : decode cX2_endBefore 24 = .ok (.ifCond .eq 5, 3) := by decide +kernel
theorem dX2_endBefore_27 : decode cX2_endBefore 27 = .ok (.iconst 1, 1) := by decide +kernel
theorem dX2_endBefore_28 : decode cX2_endBefore 28 = .ok (.ireturn, 1) := by decide +kernel
theorem dX2_endBefore_29 : decode cX2_endBefore 29 = .ok (.aload_n 0, 1) := by decide +kernel
theorem dX2_endBefore_30 : decode cX2_endBefore 30 = .ok (.getfield 11, 3) := by decide +kernel
theorem dX2_endBefore_33 : decode cX2_endBefore 33 = .ok (.iconst 4, 1) := by decide +kernel
theorem dX2_endBefore_34 : decode cX2_endBefore 34 = .ok (.aload_n 0, 1) := by decide +kernel
theorem dX2_endBefore_35 : decode cX2_endBefore 35 = .ok (.getfield 26, 3) := by decide +kernel
theorem dX2_endBefore_38 : decode cX2_endBefore 38 = .ok (.imul, 1) := by decide +kernel
theorem dX2_endBefore_39 : decode cX2_endBefore 39 = .ok (.iaload, 1) := by decide +kernel
theorem dX2_endBefore_40 : decode cX2_endBefore 40 = .ok (.tableswitch 181 2 9 #[48, 79, 181, 143, 162, 181, 181, 110], 48) := by decide +kernel
theorem dX2_endBefore_88 : decode cX2_endBefore 88 = .ok (.aload_n 0, 1) := by decide +kernel
theorem dX2_endBefore_89 : decode cX2_endBefore 89 = .ok (.aload_n 0, 1) := by decide +kernel
theorem dX2_endBefore_90 : decode cX2_endBefore 90 = .ok (.getfield 11, 3) := by decide +kernel
theorem dX2_endBefore_93 : decode cX2_endBefore 93 = .ok (.iconst 4, 1) := by decide +kernel
theorem dX2_endBefore_94 : decode cX2_endBefore 94 = .ok (.aload_n 0, 1) := by decide +kernel
theorem dX2_endBefore_95 : decode cX2_endBefore 95 = .ok (.getfield 26, 3) := by decide +kernel
theorem dX2_endBefore_98 : decode cX2_endBefore 98 = .ok (.imul, 1) := by decide +kernel
theorem dX2_endBefore_99 : decode cX2_endBefore 99 = .ok (.iconst 1, 1) := by decide +kernel
theorem dX2_endBefore_100 : decode cX2_endBefore 100 = .ok (.iadd, 1) := by decide +kernel
theorem dX2_endBefore_101 : decode cX2_endBefore 101 = .ok (.iaload, 1) := by decide +kernel
theorem dX2_endBefore_102 : decode cX2_endBefore 102 = .ok (.aload_n 0, 1) := by decide +kernel
theorem dX2_endBefore_103 : decode cX2_endBefore 103 = .ok (.getfield 11, 3) := by decide +kernel
theorem dX2_endBefore_106 : decode cX2_endBefore 106 = .ok (.iconst 4, 1) := by decide +kernel
theorem dX2_endBefore_107 : decode cX2_endBefore 107 = .ok (.aload_n 0, 1) := by decide +kernel
theorem dX2_endBefore_108 : decode cX2_endBefore 108 = .ok (.getfield 26, 3) := by decide +kernel
theorem dX2_endBefore_111 : decode cX2_endBefore 111 = .ok (.imul, 1) := by decide +kernel
theorem dX2_endBefore_112 : decode cX2_endBefore 112 = .ok (.iconst 2, 1) := by decide +kernel
theorem dX2_endBefore_113 : decode cX2_endBefore 113 = .ok (.iadd, 1) := by decide +kernel
theorem dX2_endBefore_114 : decode cX2_endBefore 114 = .ok (.iaload, 1) := by decide +kernel
theorem dX2_endBefore_115 : decode cX2_endBefore 115 = .ok (.invokevirtual 33, 3) := by decide +kernel
theorem dX2_endBefore_118 : decode cX2_endBefore 118 = .ok (.ireturn, 1) := by decide +kernel
theorem dX2_endBefore_119 : decode cX2_endBefore 119 = .ok (.aload_n 0, 1) := by decide +kernel
theorem dX2_endBefore_120 : decode cX2_endBefore 120 = .ok (.aload_n 0, 1) := by decide +kernel
theorem dX2_endBefore_121 : decode cX2_endBefore 121 = .ok (.getfield 11, 3) := by decide +kernel
theorem dX2_endBefore_124 : decode cX2_endBefore 124 = .ok (.iconst 4, 1) := by decide +kernel
theorem dX2_endBefore_125 : decode cX2_endBefore 125 = .ok (.aload_n 0, 1) := by decide +kernel
theorem dX2_endBefore_126 : decode cX2_endBefore 126 = .ok (.getfield 26, 3) := by decide +kernel
theorem dX2_endBefore_129 : decode cX2_endBefore 129 = .ok (.imul, 1) := by decide +kernel
theorem dX2_endBefore_130 : decode cX2_endBefore 130 = .ok (.iconst 2, 1) := by decide +kernel
theorem dX2_endBefore_131 : decode cX2_endBefore 131 = .ok (.iadd, 1) := by decide +kernel
theorem dX2_endBefore_132 : decode cX2_endBefore 132 = .ok (.iaload, 1) := by decide +kernel
theorem dX2_endBefore_133 : decode cX2_endBefore 133 = .ok (.aload_n 0, 1) := by decide +kernel
theorem dX2_endBefore_134 : decode cX2_endBefore 134 = .ok (.getfield 11, 3) := by decide +kernel
theorem dX2_endBefore_137 : decode cX2_endBefore 137 = .ok (.iconst 4, 1) := by decide +kernel
theorem dX2_endBefore_138 : decode cX2_endBefore 138 = .ok (.aload_n 0, 1) := by decide +kernel
theorem dX2_endBefore_139 : decode cX2_endBefore 139 = .ok (.getfield 26, 3) := by decide +kernel
theorem dX2_endBefore_142 : decode cX2_endBefore 142 = .ok (.imul, 1) := by decide +kernel
theorem dX2_endBefore_143 : decode cX2_endBefore 143 = .ok (.iconst 3, 1) := by decide +kernel
theorem dX2_endBefore_144 : decode cX2_endBefore 144 = .ok (.iadd, 1) := by decide +kernel
theorem dX2_endBefore_145 : decode cX2_endBefore 145 = .ok (.iaload, 1) := by decide +kernel
theorem dX2_endBefore_146 : decode cX2_endBefore 146 = .ok (.invokevirtual 33, 3) := by decide +kernel
theorem dX2_endBefore_149 : decode cX2_endBefore 149 = .ok (.ireturn, 1) := by decide +kernel
theorem dX2_endBefore_150 : decode cX2_endBefore 150 = .ok (.aload_n 0, 1) := by decide +kernel
theorem dX2_endBefore_151 : decode cX2_endBefore 151 = .ok (.getfield 18, 3) := by decide +kernel
theorem dX2_endBefore_154 : decode cX2_endBefore 154 = .ok (.getfield 37, 3) := by decide +kernel
theorem dX2_endBefore_157 : decode cX2_endBefore 157 = .ok (.getfield 43, 3) := by decide +kernel
theorem dX2_endBefore_160 : decode cX2_endBefore 160 = .ok (.aload_n 0, 1) := by decide +kernel
theorem dX2_endBefore_161 : decode cX2_endBefore 161 = .ok (.getfield 11, 3) := by decide +kernel
theorem dX2_endBefore_164 : decode cX2_endBefore 164 = .ok (.iconst 4, 1) := by decide +kernel
theorem dX2_endBefore_165 : decode cX2_endBefore 165 = .ok (.aload_n 0, 1) := by decide +kernel
theorem dX2_endBefore_166 : decode cX2_endBefore 166 = .ok (.getfield 26, 3) := by decide +kernel
theorem dX2_endBefore_169 : decode cX2_endBefore 169 = .ok (.imul, 1) := by decide +kernel
theorem dX2_endBefore_170 : decode cX2_endBefore 170 = .ok (.iconst 2, 1) := by decide +kernel
theorem dX2_endBefore_171 : decode cX2_endBefore 171 = .ok (.iadd, 1) := by decide +kernel
theorem dX2_endBefore_172 : decode cX2_endBefore 172 = .ok (.iaload, 1) := by decide +kernel
theorem dX2_endBefore_173 : decode cX2_endBefore 173 = .ok (.iaload, 1) := by decide +kernel
theorem dX2_endBefore_174 : decode cX2_endBefore 174 = .ok (.ifCond .ne 7, 3) := by decide +kernel
theorem dX2_endBefore_177 : decode cX2_endBefore 177 = .ok (.iconst 2, 1) := by decide +kernel
theorem dX2_endBefore_178 : decode cX2_endBefore 178 = .ok (.goto 4, 3) := by decide +kernel
theorem dX2_endBefore_181 : decode cX2_endBefore 181 = .ok (.iconst (-1), 1) := by decide +kernel
theorem dX2_endBefore_182 : decode cX2_endBefore 182 = .ok (.ireturn, 1) := by decide +kernel
theorem dX2_endBefore_183 : decode cX2_endBefore 183 = .ok (.aload_n 0, 1) := by decide +kernel
theorem dX2_endBefore_184 : decode cX2_endBefore 184 = .ok (.getfield 18, 3) := by decide +kernel
theorem dX2_endBefore_187 : decode cX2_endBefore 187 = .ok (.getfield 48, 3) := by decide +kernel
theorem dX2_endBefore_190 : decode cX2_endBefore 190 = .ok (.invokevirtual 51, 3) := by decide +kernel
theorem dX2_endBefore_193 : decode cX2_endBefore 193 = .ok (.ifCond .eq 7, 3) := by decide +kernel
theorem dX2_endBefore_196 : decode cX2_endBefore 196 = .ok (.iconst 4, 1) := by decide +kernel
theorem dX2_endBefore_197 : decode cX2_endBefore 197 = .ok (.goto 4, 3) := by decide +kernel
theorem dX2_endBefore_200 : decode cX2_endBefore 200 = .ok (.iconst (-1), 1) := by decide +kernel
theorem dX2_endBefore_201 : decode cX2_endBefore 201 = .ok (.ireturn, 1) := by decide +kernel
theorem dX2_endBefore_202 : decode cX2_endBefore 202 = .ok (.aload_n 0, 1) := by decide +kernel
theorem dX2_endBefore_203 : decode cX2_endBefore 203 = .ok (.getfield 18, 3) := by decide +kernel
theorem dX2_endBefore_206 : decode cX2_endBefore 206 = .ok (.getfield 48, 3) := by decide +kernel
theorem dX2_endBefore_209 : decode cX2_endBefore 209 = .ok (.getfield 54, 3) := by decide +kernel
theorem dX2_endBefore_212 : decode cX2_endBefore 212 = .ok (.ifCond .ne 7, 3) := by decide +kernel
theorem dX2_endBefore_215 : decode cX2_endBefore 215 = .ok (.iconst 4, 1) := by decide +kernel
theorem dX2_endBefore_216 : decode cX2_endBefore 216 = .ok (.goto 4, 3) := by decide +kernel
theorem dX2_endBefore_219 : decode cX2_endBefore 219 = .ok (.iconst (-1), 1) := by decide +kernel
theorem dX2_endBefore_220 : decode cX2_endBefore 220 = .ok (.ireturn, 1) := by decide +kernel
theorem dX2_endBefore_221 : decode cX2_endBefore 221 = .ok (.iconst (-1), 1) := by decide +kernel
theorem dX2_endBefore_222 : decode cX2_endBefore 222 = .ok (.ireturn, 1) := by decide +kernel
theorem dX2_isWrong_0 : decode cX2_isWrong 0 = .ok (.aload_n 0, 1) := by decide +kernel
theorem dX2_isWrong_1 : decode cX2_isWrong 1 = .ok (.getfield 11, 3) := by decide +kernel
theorem dX2_isWrong_4 : decode cX2_isWrong 4 = .ok (.iconst 4, 1) := by decide +kernel
theorem dX2_isWrong_5 : decode cX2_isWrong 5 = .ok (.aload_n 0, 1) := by decide +kernel
theorem dX2_isWrong_6 : decode cX2_isWrong 6 = .ok (.getfield 26, 3) := by decide +kernel
theorem dX2_isWrong_9 : decode cX2_isWrong 9 = .ok (.imul, 1) := by decide +kernel
theorem dX2_isWrong_10 : decode cX2_isWrong 10 = .ok (.iaload, 1) := by decide +kernel
theorem dX2_isWrong_11 : decode cX2_isWrong 11 = .ok (.istore_n 1, 1) := by decide +kernel
theorem dX2_isWrong_12 : decode cX2_isWrong 12 = .ok (.iload_n 1, 1) := by decide +kernel
theorem dX2_isWrong_13 : decode cX2_isWrong 13 = .ok (.ifCond .lt 9, 3) := by decide +kernel
theorem dX2_isWrong_16 : decode cX2_isWrong 16 = .ok (.iload_n 1, 1) := by decide +kernel
theorem dX2_isWrong_17 : decode cX2_isWrong 17 = .ok (.bipush 14, 2) := by decide +kernel
theorem dX2_isWrong_19 : decode cX2_isWrong 19 = .ok (.if_icmp .le 5, 3) := by decide +kernel
theorem dX2_isWrong_22 : decode cX2_isWrong 22 = .ok (.iconst 1, 1) := by decide +kernel
theorem dX2_isWrong_23 : decode cX2_isWrong 23 = .ok (.ireturn, 1) := by decide +kernel
theorem dX2_isWrong_24 : decode cX2_isWrong 24 = .ok (.iconst 0, 1) := by decide +kernel
theorem dX2_isWrong_25 : decode cX2_isWrong 25 = .ok (.istore_n 2, 1) := by decide +kernel
theorem dX2_isWrong_26 : decode cX2_isWrong 26 = .ok (.iload_n 2, 1) := by decide +kernel
theorem dX2_isWrong_27 : decode cX2_isWrong 27 = .ok (.iconst 3, 1) := by decide +kernel
theorem dX2_isWrong_28 : decode cX2_isWrong 28 = .ok (.if_icmp .ge 43, 3) := by decide +kernel
theorem dX2_isWrong_31 : decode cX2_isWrong 31 = .ok (.aload_n 0, 1) := by decide +kernel
theorem dX2_isWrong_32 : decode cX2_isWrong 32 = .ok (.ldc 57, 2) := by decide +kernel
theorem dX2_isWrong_34 : decode cX2_isWrong 34 = .ok (.iconst 4, 1) := by decide +kernel
theorem dX2_isWrong_35 : decode cX2_isWrong 35 = .ok (.iload_n 1, 1) := by decide +kernel
theorem dX2_isWrong_36 : decode cX2_isWrong 36 = .ok (.imul, 1) := by decide +kernel
theorem dX2_isWrong_37 : decode cX2_isWrong 37 = .ok (.iload_n 2, 1) := by decide +kernel
theorem dX2_isWrong_38 : decode cX2_isWrong 38 = .ok (.iadd, 1) := by decide +kernel
theorem dX2_isWrong_39 : decode cX2_isWrong 39 = .ok (.invokevirtual 59, 3) := by decide +kernel
theorem dX2_isWrong_42 : decode cX2_isWrong 42 = .ok (.aload_n 0, 1) := by decide +kernel
theorem dX2_isWrong_43 : decode cX2_isWrong 43 = .ok (.getfield 11, 3) := by decide +kernel
theorem dX2_isWrong_46 : decode cX2_isWrong 46 = .ok (.iconst 4, 1) := by decide +kernel
theorem dX2_isWrong_47 : decode cX2_isWrong 47 = .ok (.aload_n 0, 1) := by decide +kernel
theorem dX2_isWrong_48 : decode cX2_isWrong 48 = .ok (.getfield 26, 3) := by decide +kernel
theorem dX2_isWrong_51 : decode cX2_isWrong 51 = .ok (.imul, 1) := by decide +kernel
theorem dX2_isWrong_52 : decode cX2_isWrong 52 = .ok (.iconst 1, 1) := by decide +kernel
theorem dX2_isWrong_53 : decode cX2_isWrong 53 = .ok (.iadd, 1) := by decide +kernel
theorem dX2_isWrong_54 : decode cX2_isWrong 54 = .ok (.iload_n 2, 1) := by decide +kernel
theorem dX2_isWrong_55 : decode cX2_isWrong 55 = .ok (.iadd, 1) := by decide +kernel
theorem dX2_isWrong_56 : decode cX2_isWrong 56 = .ok (.iaload, 1) := by decide +kernel
theorem dX2_isWrong_57 : decode cX2_isWrong 57 = .ok (.invokevirtual 65, 3) := by decide +kernel
theorem dX2_isWrong_60 : decode cX2_isWrong 60 = .ok (.ifCond .ne 5, 3) := by decide +kernel
theorem dX2_isWrong_63 : decode cX2_isWrong 63 = .ok (.iconst 1, 1) := by decide +kernel
theorem dX2_isWrong_64 : decode cX2_isWrong 64 = .ok (.ireturn, 1) := by decide +kernel
theorem dX2_isWrong_65 : decode cX2_isWrong 65 = .ok (.iinc 2 1, 3) := by decide +kernel
theorem dX2_isWrong_68 : decode cX2_isWrong 68 = .ok (.goto (-42), 3) := by decide +kernel
theorem dX2_isWrong_71 : decode cX2_isWrong 71 = .ok (.iconst 0, 1) := by decide +kernel
theorem dX2_isWrong_72 : decode cX2_isWrong 72 = .ok (.ireturn, 1) := by decide +kernel
theorem dX2_isAsTold_0 : decode cX2_isAsTold 0 = .ok (.iload_n 1, 1) := by decide +kernel
theorem dX2_isAsTold_1 : decode cX2_isAsTold 1 = .ok (.tableswitch 156 102 114 #[106, 156, 156, 122, 156, 156, 156, 156, 90, 156, 138, 72, 67], 67) := by decide +kernel
theorem dX2_isAsTold_68 : decode cX2_isAsTold 68 = .ok (.iload_n 2, 1) := by decide +kernel
theorem dX2_isAsTold_69 : decode cX2_isAsTold 69 = .ok (.invokestatic 69, 3) := by decide +kernel
theorem dX2_isAsTold_72 : decode cX2_isAsTold 72 = .ok (.ireturn, 1) := by decide +kernel
theorem dX2_isAsTold_73 : decode cX2_isAsTold 73 = .ok (.iload_n 2, 1) := by decide +kernel
theorem dX2_isAsTold_74 : decode cX2_isAsTold 74 = .ok (.iconst (-1), 1) := by decide +kernel
theorem dX2_isAsTold_75 : decode cX2_isAsTold 75 = .ok (.if_icmp .eq 10, 3) := by decide +kernel
theorem dX2_isAsTold_78 : decode cX2_isAsTold 78 = .ok (.iload_n 2, 1) := by decide +kernel
theorem dX2_isAsTold_79 : decode cX2_isAsTold 79 = .ok (.invokestatic 69, 3) := by decide +kernel
theorem dX2_isAsTold_82 : decode cX2_isAsTold 82 = .ok (.ifCond .eq 7, 3) := by decide +kernel
theorem dX2_isAsTold_85 : decode cX2_isAsTold 85 = .ok (.iconst 1, 1) := by decide +kernel
theorem dX2_isAsTold_86 : decode cX2_isAsTold 86 = .ok (.goto 4, 3) := by decide +kernel
theorem dX2_isAsTold_89 : decode cX2_isAsTold 89 = .ok (.iconst 0, 1) := by decide +kernel
theorem dX2_isAsTold_90 : decode cX2_isAsTold 90 = .ok (.ireturn, 1) := by decide +kernel
theorem dX2_isAsTold_91 : decode cX2_isAsTold 91 = .ok (.iload_n 2, 1) := by decide +kernel
theorem dX2_isAsTold_92 : decode cX2_isAsTold 92 = .ok (.ifCond .lt 13, 3) := by decide +kernel
theorem dX2_isAsTold_95 : decode cX2_isAsTold 95 = .ok (.iload_n 2, 1) := by decide +kernel
theorem dX2_isAsTold_96 : decode cX2_isAsTold 96 = .ok (.bipush 6, 2) := by decide +kernel
theorem dX2_isAsTold_98 : decode cX2_isAsTold 98 = .ok (.if_icmp .gt 7, 3) := by decide +kernel
theorem dX2_isAsTold_101 : decode cX2_isAsTold 101 = .ok (.iconst 1, 1) := by decide +kernel
theorem dX2_isAsTold_102 : decode cX2_isAsTold 102 = .ok (.goto 4, 3) := by decide +kernel
theorem dX2_isAsTold_105 : decode cX2_isAsTold 105 = .ok (.iconst 0, 1) := by decide +kernel
theorem dX2_isAsTold_106 : decode cX2_isAsTold 106 = .ok (.ireturn, 1) := by decide +kernel
theorem dX2_isAsTold_107 : decode cX2_isAsTold 107 = .ok (.iload_n 2, 1) := by decide +kernel
theorem dX2_isAsTold_108 : decode cX2_isAsTold 108 = .ok (.ifCond .lt 13, 3) := by decide +kernel
theorem dX2_isAsTold_111 : decode cX2_isAsTold 111 = .ok (.iload_n 2, 1) := by decide +kernel
theorem dX2_isAsTold_112 : decode cX2_isAsTold 112 = .ok (.bipush 6, 2) := by decide +kernel
theorem dX2_isAsTold_114 : decode cX2_isAsTold 114 = .ok (.if_icmp .ge 7, 3) := by decide +kernel
theorem dX2_isAsTold_117 : decode cX2_isAsTold 117 = .ok (.iconst 1, 1) := by decide +kernel
theorem dX2_isAsTold_118 : decode cX2_isAsTold 118 = .ok (.goto 4, 3) := by decide +kernel
theorem dX2_isAsTold_121 : decode cX2_isAsTold 121 = .ok (.iconst 0, 1) := by decide +kernel
theorem dX2_isAsTold_122 : decode cX2_isAsTold 122 = .ok (.ireturn, 1) := by decide +kernel
theorem dX2_isAsTold_123 : decode cX2_isAsTold 123 = .ok (.iload_n 2, 1) := by decide +kernel
theorem dX2_isAsTold_124 : decode cX2_isAsTold 124 = .ok (.ifCond .lt 13, 3) := by decide +kernel
theorem dX2_isAsTold_127 : decode cX2_isAsTold 127 = .ok (.iload_n 2, 1) := by decide +kernel
theorem dX2_isAsTold_128 : decode cX2_isAsTold 128 = .ok (.bipush 8, 2) := by decide +kernel
theorem dX2_isAsTold_130 : decode cX2_isAsTold 130 = .ok (.if_icmp .ge 7, 3) := by decide +kernel
theorem dX2_isAsTold_133 : decode cX2_isAsTold 133 = .ok (.iconst 1, 1) := by decide +kernel
theorem dX2_isAsTold_134 : decode cX2_isAsTold 134 = .ok (.goto 4, 3) := by decide +kernel
theorem dX2_isAsTold_137 : decode cX2_isAsTold 137 = .ok (.iconst 0, 1) := by decide +kernel
theorem dX2_isAsTold_138 : decode cX2_isAsTold 138 = .ok (.ireturn, 1) := by decide +kernel
theorem dX2_isAsTold_139 : decode cX2_isAsTold 139 = .ok (.iload_n 2, 1) := by decide +kernel
theorem dX2_isAsTold_140 : decode cX2_isAsTold 140 = .ok (.ifCond .lt 15, 3) := by decide +kernel
theorem dX2_isAsTold_143 : decode cX2_isAsTold 143 = .ok (.iload_n 2, 1) := by decide +kernel
theorem dX2_isAsTold_144 : decode cX2_isAsTold 144 = .ok (.aload_n 0, 1) := by decide +kernel
theorem dX2_isAsTold_145 : decode cX2_isAsTold 145 = .ok (.getfield 22, 3) := by decide +kernel
theorem dX2_isAsTold_148 : decode cX2_isAsTold 148 = .ok (.if_icmp .gt 7, 3) := by decide +kernel
theorem dX2_isAsTold_151 : decode cX2_isAsTold 151 = .ok (.iconst 1, 1) := by decide +kernel
theorem dX2_isAsTold_152 : decode cX2_isAsTold 152 = .ok (.goto 4, 3) := by decide +kernel
theorem dX2_isAsTold_155 : decode cX2_isAsTold 155 = .ok (.iconst 0, 1) := by decide +kernel
theorem dX2_isAsTold_156 : decode cX2_isAsTold 156 = .ok (.ireturn, 1) := by decide +kernel
theorem dX2_isAsTold_157 : decode cX2_isAsTold 157 = .ok (.iconst 1, 1) := by decide +kernel
theorem dX2_isAsTold_158 : decode cX2_isAsTold 158 = .ok (.ireturn, 1) := by decide +kernel
theorem dX2_endOfObject_0 : decode cX2_endOfObject 0 = .ok (.aload_n 0, 1) := by decide +kernel
theorem dX2_endOfObject_1 : decode cX2_endOfObject 1 = .ok (.getfield 18, 3) := by decide +kernel
theorem dX2_endOfObject_4 : decode cX2_endOfObject 4 = .ok (.getfield 37, 3) := by decide +kernel
theorem dX2_endOfObject_7 : decode cX2_endOfObject 7 = .ok (.getfield 43, 3) := by decide +kernel
theorem dX2_endOfObject_10 : decode cX2_endOfObject 10 = .ok (.iload_n 1, 1) := by decide +kernel
theorem dX2_endOfObject_11 : decode cX2_endOfObject 11 = .ok (.iaload, 1) := by decide +kernel
theorem dX2_endOfObject_12 : decode cX2_endOfObject 12 = .ok (.istore_n 3, 1) := by decide +kernel
theorem dX2_endOfObject_13 : decode cX2_endOfObject 13 = .ok (.iload_n 3, 1) := by decide +kernel
theorem dX2_endOfObject_14 : decode cX2_endOfObject 14 = .ok (.ifCond .ne 5, 3) := by decide +kernel
theorem dX2_endOfObject_17 : decode cX2_endOfObject 17 = .ok (.iconst 2, 1) := by decide +kernel
theorem dX2_endOfObject_18 : decode cX2_endOfObject 18 = .ok (.ireturn, 1) := by decide +kernel
theorem dX2_endOfObject_19 : decode cX2_endOfObject 19 = .ok (.aload_n 0, 1) := by decide +kernel
theorem dX2_endOfObject_20 : decode cX2_endOfObject 20 = .ok (.getfield 18, 3) := by decide +kernel
theorem dX2_endOfObject_23 : decode cX2_endOfObject 23 = .ok (.iload_n 3, 1) := by decide +kernel
theorem dX2_endOfObject_24 : decode cX2_endOfObject 24 = .ok (.iload_n 2, 1) := by decide +kernel
theorem dX2_endOfObject_25 : decode cX2_endOfObject 25 = .ok (.invokevirtual 73, 3) := by decide +kernel
theorem dX2_endOfObject_28 : decode cX2_endOfObject 28 = .ok (.ifCond .eq 7, 3) := by decide +kernel
theorem dX2_endOfObject_31 : decode cX2_endOfObject 31 = .ok (.iconst (-1), 1) := by decide +kernel
theorem dX2_endOfObject_32 : decode cX2_endOfObject 32 = .ok (.goto 4, 3) := by decide +kernel
theorem dX2_endOfObject_35 : decode cX2_endOfObject 35 = .ok (.iconst 3, 1) := by decide +kernel
theorem dX2_endOfObject_36 : decode cX2_endOfObject 36 = .ok (.ireturn, 1) := by decide +kernel
theorem dX2_step_0 : decode cX2_step 0 = .ok (.aload_n 0, 1) := by decide +kernel
theorem dX2_step_1 : decode cX2_step 1 = .ok (.getfield 11, 3) := by decide +kernel
theorem dX2_step_4 : decode cX2_step 4 = .ok (.iconst 4, 1) := by decide +kernel
theorem dX2_step_5 : decode cX2_step 5 = .ok (.aload_n 0, 1) := by decide +kernel
theorem dX2_step_6 : decode cX2_step 6 = .ok (.getfield 26, 3) := by decide +kernel
theorem dX2_step_9 : decode cX2_step 9 = .ok (.imul, 1) := by decide +kernel
theorem dX2_step_10 : decode cX2_step 10 = .ok (.iaload, 1) := by decide +kernel
theorem dX2_step_11 : decode cX2_step 11 = .ok (.istore_n 1, 1) := by decide +kernel
theorem dX2_step_12 : decode cX2_step 12 = .ok (.aload_n 0, 1) := by decide +kernel
theorem dX2_step_13 : decode cX2_step 13 = .ok (.getfield 11, 3) := by decide +kernel
theorem dX2_step_16 : decode cX2_step 16 = .ok (.iconst 4, 1) := by decide +kernel
theorem dX2_step_17 : decode cX2_step 17 = .ok (.aload_n 0, 1) := by decide +kernel
theorem dX2_step_18 : decode cX2_step 18 = .ok (.getfield 26, 3) := by decide +kernel
theorem dX2_step_21 : decode cX2_step 21 = .ok (.imul, 1) := by decide +kernel
theorem dX2_step_22 : decode cX2_step 22 = .ok (.iconst 1, 1) := by decide +kernel
theorem dX2_step_23 : decode cX2_step 23 = .ok (.iadd, 1) := by decide +kernel
theorem dX2_step_24 : decode cX2_step 24 = .ok (.iaload, 1) := by decide +kernel
theorem dX2_step_25 : decode cX2_step 25 = .ok (.istore_n 2, 1) := by decide +kernel
theorem dX2_step_26 : decode cX2_step 26 = .ok (.aload_n 0, 1) := by decide +kernel
theorem dX2_step_27 : decode cX2_step 27 = .ok (.getfield 11, 3) := by decide +kernel
theorem dX2_step_30 : decode cX2_step 30 = .ok (.iconst 4, 1) := by decide +kernel
theorem dX2_step_31 : decode cX2_step 31 = .ok (.aload_n 0, 1) := by decide +kernel
theorem dX2_step_32 : decode cX2_step 32 = .ok (.getfield 26, 3) := by decide +kernel
theorem dX2_step_35 : decode cX2_step 35 = .ok (.imul, 1) := by decide +kernel
theorem dX2_step_36 : decode cX2_step 36 = .ok (.iconst 2, 1) := by decide +kernel
theorem dX2_step_37 : decode cX2_step 37 = .ok (.iadd, 1) := by decide +kernel
theorem dX2_step_38 : decode cX2_step 38 = .ok (.iaload, 1) := by decide +kernel
theorem dX2_step_39 : decode cX2_step 39 = .ok (.istore_n 3, 1) := by decide +kernel
theorem dX2_step_40 : decode cX2_step 40 = .ok (.aload_n 0, 1) := by decide +kernel
theorem dX2_step_41 : decode cX2_step 41 = .ok (.getfield 11, 3) := by decide +kernel
theorem dX2_step_44 : decode cX2_step 44 = .ok (.iconst 4, 1) := by decide +kernel
theorem dX2_step_45 : decode cX2_step 45 = .ok (.aload_n 0, 1) := by decide +kernel
theorem dX2_step_46 : decode cX2_step 46 = .ok (.getfield 26, 3) := by decide +kernel
theorem dX2_step_49 : decode cX2_step 49 = .ok (.imul, 1) := by decide +kernel
theorem dX2_step_50 : decode cX2_step 50 = .ok (.iconst 3, 1) := by decide +kernel
theorem dX2_step_51 : decode cX2_step 51 = .ok (.iadd, 1) := by decide +kernel
theorem dX2_step_52 : decode cX2_step 52 = .ok (.iaload, 1) := by decide +kernel
theorem dX2_step_53 : decode cX2_step 53 = .ok (.istore 4, 2) := by decide +kernel
theorem dX2_step_55 : decode cX2_step 55 = .ok (.iload_n 1, 1) := by decide +kernel
theorem dX2_step_56 : decode cX2_step 56 = .ok (.iconst 1, 1) := by decide +kernel
theorem dX2_step_57 : decode cX2_step 57 = .ok (.if_icmp .eq 9, 3) := by decide +kernel
theorem dX2_step_60 : decode cX2_step 60 = .ok (.iload_n 1, 1) := by decide +kernel
theorem dX2_step_61 : decode cX2_step 61 = .ok (.bipush 14, 2) := by decide +kernel
theorem dX2_step_63 : decode cX2_step 63 = .ok (.if_icmp .ne 52, 3) := by decide +kernel
theorem dX2_step_66 : decode cX2_step 66 = .ok (.aload_n 0, 1) := by decide +kernel
theorem dX2_step_67 : decode cX2_step 67 = .ok (.getfield 18, 3) := by decide +kernel
theorem dX2_step_70 : decode cX2_step 70 = .ok (.iload_n 3, 1) := by decide +kernel
theorem dX2_step_71 : decode cX2_step 71 = .ok (.aload_n 0, 1) := by decide +kernel
theorem dX2_step_72 : decode cX2_step 72 = .ok (.getfield 15, 3) := by decide +kernel
theorem dX2_step_75 : decode cX2_step 75 = .ok (.iload 4, 2) := by decide +kernel
theorem dX2_step_77 : decode cX2_step 77 = .ok (.iaload, 1) := by decide +kernel
theorem dX2_step_78 : decode cX2_step 78 = .ok (.iload_n 1, 1) := by decide +kernel
theorem dX2_step_79 : decode cX2_step 79 = .ok (.bipush 14, 2) := by decide +kernel
theorem dX2_step_81 : decode cX2_step 81 = .ok (.if_icmp .ne 7, 3) := by decide +kernel
theorem dX2_step_84 : decode cX2_step 84 = .ok (.iconst 1, 1) := by decide +kernel
theorem dX2_step_85 : decode cX2_step 85 = .ok (.goto 4, 3) := by decide +kernel
theorem dX2_step_88 : decode cX2_step 88 = .ok (.iconst 0, 1) := by decide +kernel
theorem dX2_step_89 : decode cX2_step 89 = .ok (.invokevirtual 77, 3) := by decide +kernel
theorem dX2_step_92 : decode cX2_step 92 = .ok (.istore 5, 2) := by decide +kernel
theorem dX2_step_94 : decode cX2_step 94 = .ok (.iload 5, 2) := by decide +kernel
theorem dX2_step_96 : decode cX2_step 96 = .ok (.ifCond .ne 5, 3) := by decide +kernel
theorem dX2_step_99 : decode cX2_step 99 = .ok (.iconst 5, 1) := by decide +kernel
theorem dX2_step_100 : decode cX2_step 100 = .ok (.ireturn, 1) := by decide +kernel
theorem dX2_step_101 : decode cX2_step 101 = .ok (.aload_n 0, 1) := by decide +kernel
theorem dX2_step_102 : decode cX2_step 102 = .ok (.getfield 18, 3) := by decide +kernel
theorem dX2_step_105 : decode cX2_step 105 = .ok (.getfield 37, 3) := by decide +kernel
theorem dX2_step_108 : decode cX2_step 108 = .ok (.getfield 43, 3) := by decide +kernel
theorem dX2_step_111 : decode cX2_step 111 = .ok (.iload_n 2, 1) := by decide +kernel
theorem dX2_step_112 : decode cX2_step 112 = .ok (.iload 5, 2) := by decide +kernel
theorem dX2_step_114 : decode cX2_step 114 = .ok (.iastore, 1) := by decide +kernel
theorem dX2_step_115 : decode cX2_step 115 = .ok (.aload_n 0, 1) := by decide +kernel
theorem dX2_step_116 : decode cX2_step 116 = .ok (.dup, 1) := by decide +kernel
theorem dX2_step_117 : decode cX2_step 117 = .ok (.getfield 81, 3) := by decide +kernel
theorem dX2_step_120 : decode cX2_step 120 = .ok (.iconst 1, 1) := by decide +kernel
theorem dX2_step_121 : decode cX2_step 121 = .ok (.iadd, 1) := by decide +kernel
theorem dX2_step_122 : decode cX2_step 122 = .ok (.putfield 81, 3) := by decide +kernel
theorem dX2_step_125 : decode cX2_step 125 = .ok (.iload_n 1, 1) := by decide +kernel
theorem dX2_step_126 : decode cX2_step 126 = .ok (.ifCond .ne 5, 3) := by decide +kernel
theorem dX2_step_129 : decode cX2_step 129 = .ok (.iconst 0, 1) := by decide +kernel
theorem dX2_step_130 : decode cX2_step 130 = .ok (.ireturn, 1) := by decide +kernel
theorem dX2_step_131 : decode cX2_step 131 = .ok (.aload_n 0, 1) := by decide +kernel
theorem dX2_step_132 : decode cX2_step 132 = .ok (.iload_n 1, 1) := by decide +kernel
theorem dX2_step_133 : decode cX2_step 133 = .ok (.iload_n 2, 1) := by decide +kernel
theorem dX2_step_134 : decode cX2_step 134 = .ok (.iload_n 3, 1) := by decide +kernel
theorem dX2_step_135 : decode cX2_step 135 = .ok (.iload 4, 2) := by decide +kernel
theorem dX2_step_137 : decode cX2_step 137 = .ok (.invokevirtual 84, 3) := by decide +kernel
theorem dX2_step_140 : decode cX2_step 140 = .ok (.aload_n 0, 1) := by decide +kernel
theorem dX2_step_141 : decode cX2_step 141 = .ok (.aload_n 0, 1) := by decide +kernel
theorem dX2_step_142 : decode cX2_step 142 = .ok (.iload_n 1, 1) := by decide +kernel
theorem dX2_step_143 : decode cX2_step 143 = .ok (.iload_n 2, 1) := by decide +kernel
theorem dX2_step_144 : decode cX2_step 144 = .ok (.iload_n 3, 1) := by decide +kernel
theorem dX2_step_145 : decode cX2_step 145 = .ok (.iload 4, 2) := by decide +kernel
theorem dX2_step_147 : decode cX2_step 147 = .ok (.invokevirtual 88, 3) := by decide +kernel
theorem dX2_step_150 : decode cX2_step 150 = .ok (.putfield 26, 3) := by decide +kernel
theorem dX2_step_153 : decode cX2_step 153 = .ok (.iconst (-1), 1) := by decide +kernel
theorem dX2_step_154 : decode cX2_step 154 = .ok (.ireturn, 1) := by decide +kernel
theorem dX2_change_0 : decode cX2_change 0 = .ok (.aload_n 0, 1) := by decide +kernel
theorem dX2_change_1 : decode cX2_change 1 = .ok (.getfield 18, 3) := by decide +kernel
theorem dX2_change_4 : decode cX2_change 4 = .ok (.getfield 37, 3) := by decide +kernel
theorem dX2_change_7 : decode cX2_change 7 = .ok (.getfield 43, 3) := by decide +kernel
theorem dX2_change_10 : decode cX2_change 10 = .ok (.astore 5, 2) := by decide +kernel
theorem dX2_change_12 : decode cX2_change 12 = .ok (.iload_n 1, 1) := by decide +kernel
theorem dX2_change_13 : decode cX2_change 13 = .ok (.tableswitch 193 2 9 #[47, 71, 91, 106, 123, 140, 150, 173], 47) := by decide +kernel
theorem dX2_change_60 : decode cX2_change 60 = .ok (.aload_n 0, 1) := by decide +kernel
theorem dX2_change_61 : decode cX2_change 61 = .ok (.getfield 18, 3) := by decide +kernel
theorem dX2_change_64 : decode cX2_change 64 = .ok (.aload 5, 2) := by decide +kernel
theorem dX2_change_66 : decode cX2_change 66 = .ok (.iload_n 2, 1) := by decide +kernel
theorem dX2_change_67 : decode cX2_change 67 = .ok (.iaload, 1) := by decide +kernel
theorem dX2_change_68 : decode cX2_change 68 = .ok (.iload_n 3, 1) := by decide +kernel
theorem dX2_change_69 : decode cX2_change 69 = .ok (.aload_n 0, 1) := by decide +kernel
theorem dX2_change_70 : decode cX2_change 70 = .ok (.getfield 18, 3) := by decide +kernel
theorem dX2_change_73 : decode cX2_change 73 = .ok (.iload 4, 2) := by decide +kernel
theorem dX2_change_75 : decode cX2_change 75 = .ok (.invokevirtual 92, 3) := by decide +kernel
theorem dX2_change_78 : decode cX2_change 78 = .ok (.invokevirtual 96, 3) := by decide +kernel
theorem dX2_change_81 : decode cX2_change 81 = .ok (.goto 125, 3) := by decide +kernel
theorem dX2_change_84 : decode cX2_change 84 = .ok (.aload 5, 2) := by decide +kernel
theorem dX2_change_86 : decode cX2_change 86 = .ok (.iload_n 2, 1) := by decide +kernel
theorem dX2_change_87 : decode cX2_change 87 = .ok (.aload_n 0, 1) := by decide +kernel
theorem dX2_change_88 : decode cX2_change 88 = .ok (.getfield 18, 3) := by decide +kernel
theorem dX2_change_91 : decode cX2_change 91 = .ok (.aload 5, 2) := by decide +kernel
theorem dX2_change_93 : decode cX2_change 93 = .ok (.iload_n 3, 1) := by decide +kernel
theorem dX2_change_94 : decode cX2_change 94 = .ok (.iaload, 1) := by decide +kernel
theorem dX2_change_95 : decode cX2_change 95 = .ok (.iload 4, 2) := by decide +kernel
theorem dX2_change_97 : decode cX2_change 97 = .ok (.invokevirtual 100, 3) := by decide +kernel
theorem dX2_change_100 : decode cX2_change 100 = .ok (.iastore, 1) := by decide +kernel
theorem dX2_change_101 : decode cX2_change 101 = .ok (.goto 105, 3) := by decide +kernel
theorem dX2_change_104 : decode cX2_change 104 = .ok (.aload 5, 2) := by decide +kernel
theorem dX2_change_106 : decode cX2_change 106 = .ok (.iload_n 2, 1) := by decide +kernel
theorem dX2_change_107 : decode cX2_change 107 = .ok (.aload_n 0, 1) := by decide +kernel
theorem dX2_change_108 : decode cX2_change 108 = .ok (.getfield 18, 3) := by decide +kernel
theorem dX2_change_111 : decode cX2_change 111 = .ok (.iload_n 3, 1) := by decide +kernel
theorem dX2_change_112 : decode cX2_change 112 = .ok (.invokevirtual 92, 3) := by decide +kernel
theorem dX2_change_115 : decode cX2_change 115 = .ok (.iastore, 1) := by decide +kernel
theorem dX2_change_116 : decode cX2_change 116 = .ok (.goto 90, 3) := by decide +kernel
theorem dX2_change_119 : decode cX2_change 119 = .ok (.aload_n 0, 1) := by decide +kernel
theorem dX2_change_120 : decode cX2_change 120 = .ok (.getfield 18, 3) := by decide +kernel
theorem dX2_change_123 : decode cX2_change 123 = .ok (.getfield 48, 3) := by decide +kernel
theorem dX2_change_126 : decode cX2_change 126 = .ok (.aload 5, 2) := by decide +kernel
theorem dX2_change_128 : decode cX2_change 128 = .ok (.iload_n 2, 1) := by decide +kernel
theorem dX2_change_129 : decode cX2_change 129 = .ok (.iaload, 1) := by decide +kernel
theorem dX2_change_130 : decode cX2_change 130 = .ok (.invokevirtual 103, 3) := by decide +kernel
theorem dX2_change_133 : decode cX2_change 133 = .ok (.goto 73, 3) := by decide +kernel
theorem dX2_change_136 : decode cX2_change 136 = .ok (.aload 5, 2) := by decide +kernel
theorem dX2_change_138 : decode cX2_change 138 = .ok (.iload_n 2, 1) := by decide +kernel
theorem dX2_change_139 : decode cX2_change 139 = .ok (.aload_n 0, 1) := by decide +kernel
theorem dX2_change_140 : decode cX2_change 140 = .ok (.getfield 18, 3) := by decide +kernel
theorem dX2_change_143 : decode cX2_change 143 = .ok (.getfield 48, 3) := by decide +kernel
theorem dX2_change_146 : decode cX2_change 146 = .ok (.invokevirtual 107, 3) := by decide +kernel
theorem dX2_change_149 : decode cX2_change 149 = .ok (.iastore, 1) := by decide +kernel
theorem dX2_change_150 : decode cX2_change 150 = .ok (.goto 56, 3) := by decide +kernel
theorem dX2_change_153 : decode cX2_change 153 = .ok (.aload_n 0, 1) := by decide +kernel
theorem dX2_change_154 : decode cX2_change 154 = .ok (.getfield 15, 3) := by decide +kernel
theorem dX2_change_157 : decode cX2_change 157 = .ok (.iload_n 2, 1) := by decide +kernel
theorem dX2_change_158 : decode cX2_change 158 = .ok (.iload_n 3, 1) := by decide +kernel
theorem dX2_change_159 : decode cX2_change 159 = .ok (.iastore, 1) := by decide +kernel
theorem dX2_change_160 : decode cX2_change 160 = .ok (.goto 46, 3) := by decide +kernel
theorem dX2_change_163 : decode cX2_change 163 = .ok (.aload_n 0, 1) := by decide +kernel
theorem dX2_change_164 : decode cX2_change 164 = .ok (.getfield 15, 3) := by decide +kernel
theorem dX2_change_167 : decode cX2_change 167 = .ok (.iload_n 2, 1) := by decide +kernel
theorem dX2_change_168 : decode cX2_change 168 = .ok (.aload_n 0, 1) := by decide +kernel
theorem dX2_change_169 : decode cX2_change 169 = .ok (.getfield 15, 3) := by decide +kernel
theorem dX2_change_172 : decode cX2_change 172 = .ok (.iload_n 3, 1) := by decide +kernel
theorem dX2_change_173 : decode cX2_change 173 = .ok (.iaload, 1) := by decide +kernel
theorem dX2_change_174 : decode cX2_change 174 = .ok (.aload_n 0, 1) := by decide +kernel
theorem dX2_change_175 : decode cX2_change 175 = .ok (.getfield 15, 3) := by decide +kernel
theorem dX2_change_178 : decode cX2_change 178 = .ok (.iload 4, 2) := by decide +kernel
theorem dX2_change_180 : decode cX2_change 180 = .ok (.iaload, 1) := by decide +kernel
theorem dX2_change_181 : decode cX2_change 181 = .ok (.iadd, 1) := by decide +kernel
theorem dX2_change_182 : decode cX2_change 182 = .ok (.iastore, 1) := by decide +kernel
theorem dX2_change_183 : decode cX2_change 183 = .ok (.goto 23, 3) := by decide +kernel
theorem dX2_change_186 : decode cX2_change 186 = .ok (.aload_n 0, 1) := by decide +kernel
theorem dX2_change_187 : decode cX2_change 187 = .ok (.getfield 15, 3) := by decide +kernel
theorem dX2_change_190 : decode cX2_change 190 = .ok (.iload_n 2, 1) := by decide +kernel
theorem dX2_change_191 : decode cX2_change 191 = .ok (.aload_n 0, 1) := by decide +kernel
theorem dX2_change_192 : decode cX2_change 192 = .ok (.getfield 18, 3) := by decide +kernel
theorem dX2_change_195 : decode cX2_change 195 = .ok (.aload 5, 2) := by decide +kernel
theorem dX2_change_197 : decode cX2_change 197 = .ok (.iload_n 3, 1) := by decide +kernel
theorem dX2_change_198 : decode cX2_change 198 = .ok (.iaload, 1) := by decide +kernel
theorem dX2_change_199 : decode cX2_change 199 = .ok (.invokevirtual 111, 3) := by decide +kernel
theorem dX2_change_202 : decode cX2_change 202 = .ok (.iastore, 1) := by decide +kernel
theorem dX2_change_203 : decode cX2_change 203 = .ok (.goto 3, 3) := by decide +kernel
theorem dX2_change_206 : decode cX2_change 206 = .ok (.return_, 1) := by decide +kernel
theorem dX2_goesOnAt_0 : decode cX2_goesOnAt 0 = .ok (.aload_n 0, 1) := by decide +kernel
theorem dX2_goesOnAt_1 : decode cX2_goesOnAt 1 = .ok (.getfield 18, 3) := by decide +kernel
theorem dX2_goesOnAt_4 : decode cX2_goesOnAt 4 = .ok (.getfield 37, 3) := by decide +kernel
theorem dX2_goesOnAt_7 : decode cX2_goesOnAt 7 = .ok (.getfield 43, 3) := by decide +kernel
theorem dX2_goesOnAt_10 : decode cX2_goesOnAt 10 = .ok (.astore 5, 2) := by decide +kernel
theorem dX2_goesOnAt_12 : decode cX2_goesOnAt 12 = .ok (.iload_n 1, 1) := by decide +kernel
theorem dX2_goesOnAt_13 : decode cX2_goesOnAt 13 = .ok (.tableswitch 101 10 13 #[31, 49, 76, 78], 31) := by decide +kernel
theorem dX2_goesOnAt_44 : decode cX2_goesOnAt 44 = .ok (.aload 5, 2) := by decide +kernel
theorem dX2_goesOnAt_46 : decode cX2_goesOnAt 46 = .ok (.iload_n 2, 1) := by decide +kernel
theorem dX2_goesOnAt_47 : decode cX2_goesOnAt 47 = .ok (.iaload, 1) := by decide +kernel
theorem dX2_goesOnAt_48 : decode cX2_goesOnAt 48 = .ok (.ifCond .ne 7, 3) := by decide +kernel
theorem dX2_goesOnAt_51 : decode cX2_goesOnAt 51 = .ok (.iload_n 3, 1) := by decide +kernel
theorem dX2_goesOnAt_52 : decode cX2_goesOnAt 52 = .ok (.goto 9, 3) := by decide +kernel
theorem dX2_goesOnAt_55 : decode cX2_goesOnAt 55 = .ok (.aload_n 0, 1) := by decide +kernel
theorem dX2_goesOnAt_56 : decode cX2_goesOnAt 56 = .ok (.getfield 26, 3) := by decide +kernel
theorem dX2_goesOnAt_59 : decode cX2_goesOnAt 59 = .ok (.iconst 1, 1) := by decide +kernel
theorem dX2_goesOnAt_60 : decode cX2_goesOnAt 60 = .ok (.iadd, 1) := by decide +kernel
theorem dX2_goesOnAt_61 : decode cX2_goesOnAt 61 = .ok (.ireturn, 1) := by decide +kernel
theorem dX2_goesOnAt_62 : decode cX2_goesOnAt 62 = .ok (.aload_n 0, 1) := by decide +kernel
theorem dX2_goesOnAt_63 : decode cX2_goesOnAt 63 = .ok (.getfield 15, 3) := by decide +kernel
theorem dX2_goesOnAt_66 : decode cX2_goesOnAt 66 = .ok (.iload_n 2, 1) := by decide +kernel
theorem dX2_goesOnAt_67 : decode cX2_goesOnAt 67 = .ok (.iaload, 1) := by decide +kernel
theorem dX2_goesOnAt_68 : decode cX2_goesOnAt 68 = .ok (.aload_n 0, 1) := by decide +kernel
theorem dX2_goesOnAt_69 : decode cX2_goesOnAt 69 = .ok (.getfield 15, 3) := by decide +kernel
theorem dX2_goesOnAt_72 : decode cX2_goesOnAt 72 = .ok (.iload_n 3, 1) := by decide +kernel
theorem dX2_goesOnAt_73 : decode cX2_goesOnAt 73 = .ok (.iaload, 1) := by decide +kernel
theorem dX2_goesOnAt_74 : decode cX2_goesOnAt 74 = .ok (.if_icmp .ge 8, 3) := by decide +kernel
theorem dX2_goesOnAt_77 : decode cX2_goesOnAt 77 = .ok (.iload 4, 2) := by decide +kernel
theorem dX2_goesOnAt_79 : decode cX2_goesOnAt 79 = .ok (.goto 9, 3) := by decide +kernel
theorem dX2_goesOnAt_82 : decode cX2_goesOnAt 82 = .ok (.aload_n 0, 1) := by decide +kernel
theorem dX2_goesOnAt_83 : decode cX2_goesOnAt 83 = .ok (.getfield 26, 3) := by decide +kernel
theorem dX2_goesOnAt_86 : decode cX2_goesOnAt 86 = .ok (.iconst 1, 1) := by decide +kernel
theorem dX2_goesOnAt_87 : decode cX2_goesOnAt 87 = .ok (.iadd, 1) := by decide +kernel
theorem dX2_goesOnAt_88 : decode cX2_goesOnAt 88 = .ok (.ireturn, 1) := by decide +kernel
theorem dX2_goesOnAt_89 : decode cX2_goesOnAt 89 = .ok (.iload_n 2, 1) := by decide +kernel
theorem dX2_goesOnAt_90 : decode cX2_goesOnAt 90 = .ok (.ireturn, 1) := by decide +kernel
theorem dX2_goesOnAt_91 : decode cX2_goesOnAt 91 = .ok (.aload 5, 2) := by decide +kernel
theorem dX2_goesOnAt_93 : decode cX2_goesOnAt 93 = .ok (.iload_n 2, 1) := by decide +kernel
theorem dX2_goesOnAt_94 : decode cX2_goesOnAt 94 = .ok (.iaload, 1) := by decide +kernel
theorem dX2_goesOnAt_95 : decode cX2_goesOnAt 95 = .ok (.aload 5, 2) := by decide +kernel
theorem dX2_goesOnAt_97 : decode cX2_goesOnAt 97 = .ok (.iload_n 3, 1) := by decide +kernel
theorem dX2_goesOnAt_98 : decode cX2_goesOnAt 98 = .ok (.iaload, 1) := by decide +kernel
theorem dX2_goesOnAt_99 : decode cX2_goesOnAt 99 = .ok (.if_icmp .ne 8, 3) := by decide +kernel
theorem dX2_goesOnAt_102 : decode cX2_goesOnAt 102 = .ok (.iload 4, 2) := by decide +kernel
theorem dX2_goesOnAt_104 : decode cX2_goesOnAt 104 = .ok (.goto 9, 3) := by decide +kernel
theorem dX2_goesOnAt_107 : decode cX2_goesOnAt 107 = .ok (.aload_n 0, 1) := by decide +kernel
theorem dX2_goesOnAt_108 : decode cX2_goesOnAt 108 = .ok (.getfield 26, 3) := by decide +kernel
theorem dX2_goesOnAt_111 : decode cX2_goesOnAt 111 = .ok (.iconst 1, 1) := by decide +kernel
theorem dX2_goesOnAt_112 : decode cX2_goesOnAt 112 = .ok (.iadd, 1) := by decide +kernel
theorem dX2_goesOnAt_113 : decode cX2_goesOnAt 113 = .ok (.ireturn, 1) := by decide +kernel
theorem dX2_goesOnAt_114 : decode cX2_goesOnAt 114 = .ok (.aload_n 0, 1) := by decide +kernel
theorem dX2_goesOnAt_115 : decode cX2_goesOnAt 115 = .ok (.getfield 26, 3) := by decide +kernel
theorem dX2_goesOnAt_118 : decode cX2_goesOnAt 118 = .ok (.iconst 1, 1) := by decide +kernel
theorem dX2_goesOnAt_119 : decode cX2_goesOnAt 119 = .ok (.iadd, 1) := by decide +kernel
theorem dX2_goesOnAt_120 : decode cX2_goesOnAt 120 = .ok (.ireturn, 1) := by decide +kernel
theorem dX3_init_0 : decode cX3_init 0 = .ok (.aload_n 0, 1) := by decide +kernel
theorem dX3_init_1 : decode cX3_init 1 = .ok (.invokespecial 3, 3) := by decide +kernel
theorem dX3_init_4 : decode cX3_init 4 = .ok (.aload_n 0, 1) := by decide +kernel
theorem dX3_init_5 : decode cX3_init 5 = .ok (.iload_n 1, 1) := by decide +kernel
theorem dX3_init_6 : decode cX3_init 6 = .ok (.newarray .int, 2) := by decide +kernel
theorem dX3_init_8 : decode cX3_init 8 = .ok (.putfield 9, 3) := by decide +kernel
theorem dX3_init_11 : decode cX3_init 11 = .ok (.aload_n 0, 1) := by decide +kernel
theorem dX3_init_12 : decode cX3_init 12 = .ok (.iload_n 2, 1) := by decide +kernel
theorem dX3_init_13 : decode cX3_init 13 = .ok (.putfield 15, 3) := by decide +kernel
theorem dX3_init_16 : decode cX3_init 16 = .ok (.return_, 1) := by decide +kernel
theorem dX3_isFull_0 : decode cX3_isFull 0 = .ok (.aload_n 0, 1) := by decide +kernel
theorem dX3_isFull_1 : decode cX3_isFull 1 = .ok (.getfield 15, 3) := by decide +kernel
theorem dX3_isFull_4 : decode cX3_isFull 4 = .ok (.aload_n 0, 1) := by decide +kernel
theorem dX3_isFull_5 : decode cX3_isFull 5 = .ok (.getfield 9, 3) := by decide +kernel
theorem dX3_isFull_8 : decode cX3_isFull 8 = .ok (.arraylength, 1) := by decide +kernel
theorem dX3_isFull_9 : decode cX3_isFull 9 = .ok (.if_icmp .ne 7, 3) := by decide +kernel
theorem dX3_isFull_12 : decode cX3_isFull 12 = .ok (.iconst 1, 1) := by decide +kernel
theorem dX3_isFull_13 : decode cX3_isFull 13 = .ok (.goto 4, 3) := by decide +kernel
theorem dX3_isFull_16 : decode cX3_isFull 16 = .ok (.iconst 0, 1) := by decide +kernel
theorem dX3_isFull_17 : decode cX3_isFull 17 = .ok (.ireturn, 1) := by decide +kernel
theorem dX3_add_0 : decode cX3_add 0 = .ok (.aload_n 0, 1) := by decide +kernel
theorem dX3_add_1 : decode cX3_add 1 = .ok (.getfield 15, 3) := by decide +kernel
theorem dX3_add_4 : decode cX3_add 4 = .ok (.aload_n 0, 1) := by decide +kernel
theorem dX3_add_5 : decode cX3_add 5 = .ok (.getfield 9, 3) := by decide +kernel
theorem dX3_add_8 : decode cX3_add 8 = .ok (.arraylength, 1) := by decide +kernel
theorem dX3_add_9 : decode cX3_add 9 = .ok (.if_icmp .ge 23, 3) := by decide +kernel
theorem dX3_add_12 : decode cX3_add 12 = .ok (.aload_n 0, 1) := by decide +kernel
theorem dX3_add_13 : decode cX3_add 13 = .ok (.getfield 9, 3) := by decide +kernel
theorem dX3_add_16 : decode cX3_add 16 = .ok (.aload_n 0, 1) := by decide +kernel
theorem dX3_add_17 : decode cX3_add 17 = .ok (.getfield 15, 3) := by decide +kernel
theorem dX3_add_20 : decode cX3_add 20 = .ok (.iload_n 1, 1) := by decide +kernel
theorem dX3_add_21 : decode cX3_add 21 = .ok (.iastore, 1) := by decide +kernel
theorem dX3_add_22 : decode cX3_add 22 = .ok (.aload_n 0, 1) := by decide +kernel
theorem dX3_add_23 : decode cX3_add 23 = .ok (.dup, 1) := by decide +kernel
theorem dX3_add_24 : decode cX3_add 24 = .ok (.getfield 15, 3) := by decide +kernel
theorem dX3_add_27 : decode cX3_add 27 = .ok (.iconst 1, 1) := by decide +kernel
theorem dX3_add_28 : decode cX3_add 28 = .ok (.iadd, 1) := by decide +kernel
theorem dX3_add_29 : decode cX3_add 29 = .ok (.putfield 15, 3) := by decide +kernel
theorem dX3_add_32 : decode cX3_add 32 = .ok (.return_, 1) := by decide +kernel
theorem dX3_has_0 : decode cX3_has 0 = .ok (.iconst 0, 1) := by decide +kernel
theorem dX3_has_1 : decode cX3_has 1 = .ok (.istore_n 2, 1) := by decide +kernel
theorem dX3_has_2 : decode cX3_has 2 = .ok (.iload_n 2, 1) := by decide +kernel
theorem dX3_has_3 : decode cX3_has 3 = .ok (.aload_n 0, 1) := by decide +kernel
theorem dX3_has_4 : decode cX3_has 4 = .ok (.getfield 15, 3) := by decide +kernel
theorem dX3_has_7 : decode cX3_has 7 = .ok (.if_icmp .ge 21, 3) := by decide +kernel
theorem dX3_has_10 : decode cX3_has 10 = .ok (.aload_n 0, 1) := by decide +kernel
theorem dX3_has_11 : decode cX3_has 11 = .ok (.getfield 9, 3) := by decide +kernel
theorem dX3_has_14 : decode cX3_has 14 = .ok (.iload_n 2, 1) := by decide +kernel
theorem dX3_has_15 : decode cX3_has 15 = .ok (.iaload, 1) := by decide +kernel
theorem dX3_has_16 : decode cX3_has 16 = .ok (.iload_n 1, 1) := by decide +kernel
theorem dX3_has_17 : decode cX3_has 17 = .ok (.if_icmp .ne 5, 3) := by decide +kernel
theorem dX3_has_20 : decode cX3_has 20 = .ok (.iconst 1, 1) := by decide +kernel
theorem dX3_has_21 : decode cX3_has 21 = .ok (.ireturn, 1) := by decide +kernel
theorem dX3_has_22 : decode cX3_has 22 = .ok (.iinc 2 1, 3) := by decide +kernel
theorem dX3_has_25 : decode cX3_has 25 = .ok (.goto (-23), 3) := by decide +kernel
theorem dX3_has_28 : decode cX3_has 28 = .ok (.iconst 0, 1) := by decide +kernel
theorem dX3_has_29 : decode cX3_has 29 = .ok (.ireturn, 1) := by decide +kernel
theorem dX3_takeFirst_0 : decode cX3_takeFirst 0 = .ok (.aload_n 0, 1) := by decide +kernel
theorem dX3_takeFirst_1 : decode cX3_takeFirst 1 = .ok (.getfield 15, 3) := by decide +kernel
theorem dX3_takeFirst_4 : decode cX3_takeFirst 4 = .ok (.ifCond .ne 5, 3) := by decide +kernel
theorem dX3_takeFirst_7 : decode cX3_takeFirst 7 = .ok (.iconst 0, 1) := by decide +kernel
theorem dX3_takeFirst_8 : decode cX3_takeFirst 8 = .ok (.ireturn, 1) := by decide +kernel
theorem dX3_takeFirst_9 : decode cX3_takeFirst 9 = .ok (.aload_n 0, 1) := by decide +kernel
theorem dX3_takeFirst_10 : decode cX3_takeFirst 10 = .ok (.getfield 9, 3) := by decide +kernel
theorem dX3_takeFirst_13 : decode cX3_takeFirst 13 = .ok (.iconst 0, 1) := by decide +kernel
theorem dX3_takeFirst_14 : decode cX3_takeFirst 14 = .ok (.iaload, 1) := by decide +kernel
theorem dX3_takeFirst_15 : decode cX3_takeFirst 15 = .ok (.istore_n 1, 1) := by decide +kernel
theorem dX3_takeFirst_16 : decode cX3_takeFirst 16 = .ok (.aload_n 0, 1) := by decide +kernel
theorem dX3_takeFirst_17 : decode cX3_takeFirst 17 = .ok (.dup, 1) := by decide +kernel
theorem dX3_takeFirst_18 : decode cX3_takeFirst 18 = .ok (.getfield 15, 3) := by decide +kernel
theorem dX3_takeFirst_21 : decode cX3_takeFirst 21 = .ok (.iconst 1, 1) := by decide +kernel
theorem dX3_takeFirst_22 : decode cX3_takeFirst 22 = .ok (.isub, 1) := by decide +kernel
theorem dX3_takeFirst_23 : decode cX3_takeFirst 23 = .ok (.putfield 15, 3) := by decide +kernel
theorem dX3_takeFirst_26 : decode cX3_takeFirst 26 = .ok (.aload_n 0, 1) := by decide +kernel
theorem dX3_takeFirst_27 : decode cX3_takeFirst 27 = .ok (.getfield 9, 3) := by decide +kernel
theorem dX3_takeFirst_30 : decode cX3_takeFirst 30 = .ok (.iconst 1, 1) := by decide +kernel
theorem dX3_takeFirst_31 : decode cX3_takeFirst 31 = .ok (.aload_n 0, 1) := by decide +kernel
theorem dX3_takeFirst_32 : decode cX3_takeFirst 32 = .ok (.getfield 9, 3) := by decide +kernel
theorem dX3_takeFirst_35 : decode cX3_takeFirst 35 = .ok (.iconst 0, 1) := by decide +kernel
theorem dX3_takeFirst_36 : decode cX3_takeFirst 36 = .ok (.aload_n 0, 1) := by decide +kernel
theorem dX3_takeFirst_37 : decode cX3_takeFirst 37 = .ok (.getfield 15, 3) := by decide +kernel
theorem dX3_takeFirst_40 : decode cX3_takeFirst 40 = .ok (.invokestatic 19, 3) := by decide +kernel
theorem dX3_takeFirst_43 : decode cX3_takeFirst 43 = .ok (.iload_n 1, 1) := by decide +kernel
theorem dX3_takeFirst_44 : decode cX3_takeFirst 44 = .ok (.ireturn, 1) := by decide +kernel
theorem dX3_takeLast_0 : decode cX3_takeLast 0 = .ok (.aload_n 0, 1) := by decide +kernel
theorem dX3_takeLast_1 : decode cX3_takeLast 1 = .ok (.getfield 15, 3) := by decide +kernel
theorem dX3_takeLast_4 : decode cX3_takeLast 4 = .ok (.ifCond .ne 5, 3) := by decide +kernel
theorem dX3_takeLast_7 : decode cX3_takeLast 7 = .ok (.iconst 0, 1) := by decide +kernel
theorem dX3_takeLast_8 : decode cX3_takeLast 8 = .ok (.ireturn, 1) := by decide +kernel
theorem dX3_takeLast_9 : decode cX3_takeLast 9 = .ok (.aload_n 0, 1) := by decide +kernel
theorem dX3_takeLast_10 : decode cX3_takeLast 10 = .ok (.dup, 1) := by decide +kernel
theorem dX3_takeLast_11 : decode cX3_takeLast 11 = .ok (.getfield 15, 3) := by decide +kernel
theorem dX3_takeLast_14 : decode cX3_takeLast 14 = .ok (.iconst 1, 1) := by decide +kernel
theorem dX3_takeLast_15 : decode cX3_takeLast 15 = .ok (.isub, 1) := by decide +kernel
theorem dX3_takeLast_16 : decode cX3_takeLast 16 = .ok (.putfield 15, 3) := by decide +kernel
theorem dX3_takeLast_19 : decode cX3_takeLast 19 = .ok (.aload_n 0, 1) := by decide +kernel
theorem dX3_takeLast_20 : decode cX3_takeLast 20 = .ok (.getfield 9, 3) := by decide +kernel
theorem dX3_takeLast_23 : decode cX3_takeLast 23 = .ok (.aload_n 0, 1) := by decide +kernel
theorem dX3_takeLast_24 : decode cX3_takeLast 24 = .ok (.getfield 15, 3) := by decide +kernel
theorem dX3_takeLast_27 : decode cX3_takeLast 27 = .ok (.iaload, 1) := by decide +kernel
theorem dX3_takeLast_28 : decode cX3_takeLast 28 = .ok (.ireturn, 1) := by decide +kernel
theorem dX4_init_0 : decode cX4_init 0 = .ok (.aload_n 0, 1) := by decide +kernel
theorem dX4_init_1 : decode cX4_init 1 = .ok (.invokespecial 1, 3) := by decide +kernel
theorem dX4_init_4 : decode cX4_init 4 = .ok (.aload_n 0, 1) := by decide +kernel
theorem dX4_init_5 : decode cX4_init 5 = .ok (.new 7, 3) := by decide +kernel
theorem dX4_init_8 : decode cX4_init 8 = .ok (.dup, 1) := by decide +kernel
theorem dX4_init_9 : decode cX4_init 9 = .ok (.iload_n 1, 1) := by decide +kernel
theorem dX4_init_10 : decode cX4_init 10 = .ok (.bipush 16, 2) := by decide +kernel
theorem dX4_init_12 : decode cX4_init 12 = .ok (.sipush 128, 3) := by decide +kernel
theorem dX4_init_15 : decode cX4_init 15 = .ok (.invokestatic 9, 3) := by decide +kernel
theorem dX4_init_18 : decode cX4_init 18 = .ok (.iload_n 2, 1) := by decide +kernel
theorem dX4_init_19 : decode cX4_init 19 = .ok (.iconst 0, 1) := by decide +kernel
theorem dX4_init_20 : decode cX4_init 20 = .ok (.bipush 6, 2) := by decide +kernel
theorem dX4_init_22 : decode cX4_init 22 = .ok (.invokestatic 9, 3) := by decide +kernel
theorem dX4_init_25 : decode cX4_init 25 = .ok (.iload_n 3, 1) := by decide +kernel
theorem dX4_init_26 : decode cX4_init 26 = .ok (.iconst 0, 1) := by decide +kernel
theorem dX4_init_27 : decode cX4_init 27 = .ok (.bipush 6, 2) := by decide +kernel
theorem dX4_init_29 : decode cX4_init 29 = .ok (.invokestatic 9, 3) := by decide +kernel
theorem dX4_init_32 : decode cX4_init 32 = .ok (.iload 4, 2) := by decide +kernel
theorem dX4_init_34 : decode cX4_init 34 = .ok (.iconst 2, 1) := by decide +kernel
theorem dX4_init_35 : decode cX4_init 35 = .ok (.bipush 64, 2) := by decide +kernel
theorem dX4_init_37 : decode cX4_init 37 = .ok (.invokestatic 9, 3) := by decide +kernel
theorem dX4_init_40 : decode cX4_init 40 = .ok (.invokespecial 15, 3) := by decide +kernel
theorem dX4_init_43 : decode cX4_init 43 = .ok (.putfield 18, 3) := by decide +kernel
theorem dX4_init_46 : decode cX4_init 46 = .ok (.aload_n 0, 1) := by decide +kernel
theorem dX4_init_47 : decode cX4_init 47 = .ok (.new 22, 3) := by decide +kernel
theorem dX4_init_50 : decode cX4_init 50 = .ok (.dup, 1) := by decide +kernel
theorem dX4_init_51 : decode cX4_init 51 = .ok (.aload_n 0, 1) := by decide +kernel
theorem dX4_init_52 : decode cX4_init 52 = .ok (.getfield 18, 3) := by decide +kernel
theorem dX4_init_55 : decode cX4_init 55 = .ok (.invokespecial 24, 3) := by decide +kernel
theorem dX4_init_58 : decode cX4_init 58 = .ok (.putfield 27, 3) := by decide +kernel
theorem dX4_init_61 : decode cX4_init 61 = .ok (.return_, 1) := by decide +kernel
theorem dX4_make_0 : decode cX4_make 0 = .ok (.iload_n 1, 1) := by decide +kernel
theorem dX4_make_1 : decode cX4_make 1 = .ok (.invokestatic 31, 3) := by decide +kernel
theorem dX4_make_4 : decode cX4_make 4 = .ok (.iload_n 2, 1) := by decide +kernel
theorem dX4_make_5 : decode cX4_make 5 = .ok (.ifCond .lt 9, 3) := by decide +kernel
theorem dX4_make_8 : decode cX4_make 8 = .ok (.iload_n 2, 1) := by decide +kernel
theorem dX4_make_9 : decode cX4_make 9 = .ok (.bipush 6, 2) := by decide +kernel
theorem dX4_make_11 : decode cX4_make 11 = .ok (.if_icmp .le 11, 3) := by decide +kernel
theorem dX4_make_14 : decode cX4_make 14 = .ok (.new 35, 3) := by decide +kernel
theorem dX4_make_17 : decode cX4_make 17 = .ok (.dup, 1) := by decide +kernel
theorem dX4_make_18 : decode cX4_make 18 = .ok (.invokespecial 37, 3) := by decide +kernel
theorem dX4_make_21 : decode cX4_make 21 = .ok (.athrow, 1) := by decide +kernel
theorem dX4_make_22 : decode cX4_make 22 = .ok (.aload_n 0, 1) := by decide +kernel
theorem dX4_make_23 : decode cX4_make 23 = .ok (.getfield 18, 3) := by decide +kernel
theorem dX4_make_26 : decode cX4_make 26 = .ok (.iload_n 2, 1) := by decide +kernel
theorem dX4_make_27 : decode cX4_make 27 = .ok (.iload_n 3, 1) := by decide +kernel
theorem dX4_make_28 : decode cX4_make 28 = .ok (.iload 4, 2) := by decide +kernel
theorem dX4_make_30 : decode cX4_make 30 = .ok (.invokevirtual 38, 3) := by decide +kernel
theorem dX4_make_33 : decode cX4_make 33 = .ok (.istore 5, 2) := by decide +kernel
theorem dX4_make_35 : decode cX4_make 35 = .ok (.iload 5, 2) := by decide +kernel
theorem dX4_make_37 : decode cX4_make 37 = .ok (.ifCond .eq 17, 3) := by decide +kernel
theorem dX4_make_40 : decode cX4_make 40 = .ok (.aload_n 0, 1) := by decide +kernel
theorem dX4_make_41 : decode cX4_make 41 = .ok (.getfield 18, 3) := by decide +kernel
theorem dX4_make_44 : decode cX4_make 44 = .ok (.getfield 42, 3) := by decide +kernel
theorem dX4_make_47 : decode cX4_make 47 = .ok (.getfield 46, 3) := by decide +kernel
theorem dX4_make_50 : decode cX4_make 50 = .ok (.iload_n 1, 1) := by decide +kernel
theorem dX4_make_51 : decode cX4_make 51 = .ok (.iload 5, 2) := by decide +kernel
theorem dX4_make_53 : decode cX4_make 53 = .ok (.iastore, 1) := by decide +kernel
theorem dX4_make_54 : decode cX4_make 54 = .ok (.iload 5, 2) := by decide +kernel
theorem dX4_make_56 : decode cX4_make 56 = .ok (.ireturn, 1) := by decide +kernel
theorem dX4_push_0 : decode cX4_push 0 = .ok (.iload_n 1, 1) := by decide +kernel
theorem dX4_push_1 : decode cX4_push 1 = .ok (.invokestatic 31, 3) := by decide +kernel
theorem dX4_push_4 : decode cX4_push 4 = .ok (.iload_n 3, 1) := by decide +kernel
theorem dX4_push_5 : decode cX4_push 5 = .ok (.iconst 1, 1) := by decide +kernel
theorem dX4_push_6 : decode cX4_push 6 = .ok (.if_icmp .lt 9, 3) := by decide +kernel
theorem dX4_push_9 : decode cX4_push 9 = .ok (.iload_n 3, 1) := by decide +kernel
theorem dX4_push_10 : decode cX4_push 10 = .ok (.bipush 40, 2) := by decide +kernel
theorem dX4_push_12 : decode cX4_push 12 = .ok (.if_icmp .le 11, 3) := by decide +kernel
theorem dX4_push_15 : decode cX4_push 15 = .ok (.new 35, 3) := by decide +kernel
theorem dX4_push_18 : decode cX4_push 18 = .ok (.dup, 1) := by decide +kernel
theorem dX4_push_19 : decode cX4_push 19 = .ok (.invokespecial 37, 3) := by decide +kernel
theorem dX4_push_22 : decode cX4_push 22 = .ok (.athrow, 1) := by decide +kernel
theorem dX4_push_23 : decode cX4_push 23 = .ok (.iconst 0, 1) := by decide +kernel
theorem dX4_push_24 : decode cX4_push 24 = .ok (.istore 4, 2) := by decide +kernel
theorem dX4_push_26 : decode cX4_push 26 = .ok (.iload 4, 2) := by decide +kernel
theorem dX4_push_28 : decode cX4_push 28 = .ok (.iload_n 3, 1) := by decide +kernel
theorem dX4_push_29 : decode cX4_push 29 = .ok (.if_icmp .ge 68, 3) := by decide +kernel
theorem dX4_push_32 : decode cX4_push 32 = .ok (.aload_n 0, 1) := by decide +kernel
theorem dX4_push_33 : decode cX4_push 33 = .ok (.getfield 18, 3) := by decide +kernel
theorem dX4_push_36 : decode cX4_push 36 = .ok (.iconst 2, 1) := by decide +kernel
theorem dX4_push_37 : decode cX4_push 37 = .ok (.iload_n 2, 1) := by decide +kernel
theorem dX4_push_38 : decode cX4_push 38 = .ok (.iload 4, 2) := by decide +kernel
theorem dX4_push_40 : decode cX4_push 40 = .ok (.iadd, 1) := by decide +kernel
theorem dX4_push_41 : decode cX4_push 41 = .ok (.iconst 0, 1) := by decide +kernel
theorem dX4_push_42 : decode cX4_push 42 = .ok (.invokevirtual 38, 3) := by decide +kernel
theorem dX4_push_45 : decode cX4_push 45 = .ok (.istore 5, 2) := by decide +kernel
theorem dX4_push_47 : decode cX4_push 47 = .ok (.iload 5, 2) := by decide +kernel
theorem dX4_push_49 : decode cX4_push 49 = .ok (.ifCond .ne 6, 3) := by decide +kernel
theorem dX4_push_52 : decode cX4_push 52 = .ok (.iload 4, 2) := by decide +kernel
theorem dX4_push_54 : decode cX4_push 54 = .ok (.ireturn, 1) := by decide +kernel
theorem dX4_push_55 : decode cX4_push 55 = .ok (.aload_n 0, 1) := by decide +kernel
theorem dX4_push_56 : decode cX4_push 56 = .ok (.getfield 18, 3) := by decide +kernel
theorem dX4_push_59 : decode cX4_push 59 = .ok (.iload 5, 2) := by decide +kernel
theorem dX4_push_61 : decode cX4_push 61 = .ok (.iconst 0, 1) := by decide +kernel
theorem dX4_push_62 : decode cX4_push 62 = .ok (.aload_n 0, 1) := by decide +kernel
theorem dX4_push_63 : decode cX4_push 63 = .ok (.getfield 18, 3) := by decide +kernel
theorem dX4_push_66 : decode cX4_push 66 = .ok (.getfield 42, 3) := by decide +kernel
theorem dX4_push_69 : decode cX4_push 69 = .ok (.getfield 46, 3) := by decide +kernel
theorem dX4_push_72 : decode cX4_push 72 = .ok (.iload_n 1, 1) := by decide +kernel
theorem dX4_push_73 : decode cX4_push 73 = .ok (.iaload, 1) := by decide +kernel
theorem dX4_push_74 : decode cX4_push 74 = .ok (.invokevirtual 52, 3) := by decide +kernel
theorem dX4_push_77 : decode cX4_push 77 = .ok (.aload_n 0, 1) := by decide +kernel
theorem dX4_push_78 : decode cX4_push 78 = .ok (.getfield 18, 3) := by decide +kernel
theorem dX4_push_81 : decode cX4_push 81 = .ok (.getfield 42, 3) := by decide +kernel
theorem dX4_push_84 : decode cX4_push 84 = .ok (.getfield 46, 3) := by decide +kernel
theorem dX4_push_87 : decode cX4_push 87 = .ok (.iload_n 1, 1) := by decide +kernel
theorem dX4_push_88 : decode cX4_push 88 = .ok (.iload 5, 2) := by decide +kernel
theorem dX4_push_90 : decode cX4_push 90 = .ok (.iastore, 1) := by decide +kernel
theorem dX4_push_91 : decode cX4_push 91 = .ok (.iinc 4 1, 3) := by decide +kernel
theorem dX4_push_94 : decode cX4_push 94 = .ok (.goto (-68), 3) := by decide +kernel
theorem dX4_push_97 : decode cX4_push 97 = .ok (.iload_n 3, 1) := by decide +kernel
theorem dX4_push_98 : decode cX4_push 98 = .ok (.ireturn, 1) := by decide +kernel
theorem dX4_put_0 : decode cX4_put 0 = .ok (.iload_n 1, 1) := by decide +kernel
theorem dX4_put_1 : decode cX4_put 1 = .ok (.invokestatic 31, 3) := by decide +kernel
theorem dX4_put_4 : decode cX4_put 4 = .ok (.iload_n 3, 1) := by decide +kernel
theorem dX4_put_5 : decode cX4_put 5 = .ok (.invokestatic 56, 3) := by decide +kernel
theorem dX4_put_8 : decode cX4_put 8 = .ok (.aload_n 0, 1) := by decide +kernel
theorem dX4_put_9 : decode cX4_put 9 = .ok (.iload_n 1, 1) := by decide +kernel
theorem dX4_put_10 : decode cX4_put 10 = .ok (.invokevirtual 59, 3) := by decide +kernel
theorem dX4_put_13 : decode cX4_put 13 = .ok (.istore 4, 2) := by decide +kernel
theorem dX4_put_15 : decode cX4_put 15 = .ok (.aload_n 0, 1) := by decide +kernel
theorem dX4_put_16 : decode cX4_put 16 = .ok (.iload 4, 2) := by decide +kernel
theorem dX4_put_18 : decode cX4_put 18 = .ok (.iload_n 2, 1) := by decide +kernel
theorem dX4_put_19 : decode cX4_put 19 = .ok (.invokevirtual 63, 3) := by decide +kernel
theorem dX4_put_22 : decode cX4_put 22 = .ok (.aload_n 0, 1) := by decide +kernel
theorem dX4_put_23 : decode cX4_put 23 = .ok (.getfield 18, 3) := by decide +kernel
theorem dX4_put_26 : decode cX4_put 26 = .ok (.iload 4, 2) := by decide +kernel
theorem dX4_put_28 : decode cX4_put 28 = .ok (.iload_n 2, 1) := by decide +kernel
theorem dX4_put_29 : decode cX4_put 29 = .ok (.invokevirtual 67, 3) := by decide +kernel
theorem dX4_put_32 : decode cX4_put 32 = .ok (.istore 5, 2) := by decide +kernel
theorem dX4_put_34 : decode cX4_put 34 = .ok (.aload_n 0, 1) := by decide +kernel
theorem dX4_put_35 : decode cX4_put 35 = .ok (.getfield 18, 3) := by decide +kernel
theorem dX4_put_38 : decode cX4_put 38 = .ok (.iload 4, 2) := by decide +kernel
theorem dX4_put_40 : decode cX4_put 40 = .ok (.iload_n 2, 1) := by decide +kernel
theorem dX4_put_41 : decode cX4_put 41 = .ok (.aload_n 0, 1) := by decide +kernel
theorem dX4_put_42 : decode cX4_put 42 = .ok (.getfield 18, 3) := by decide +kernel
theorem dX4_put_45 : decode cX4_put 45 = .ok (.iload_n 3, 1) := by decide +kernel
theorem dX4_put_46 : decode cX4_put 46 = .ok (.invokevirtual 71, 3) := by decide +kernel
theorem dX4_put_49 : decode cX4_put 49 = .ok (.invokevirtual 52, 3) := by decide +kernel
theorem dX4_put_52 : decode cX4_put 52 = .ok (.iload 5, 2) := by decide +kernel
theorem dX4_put_54 : decode cX4_put 54 = .ok (.ireturn, 1) := by decide +kernel
theorem dX4_get_0 : decode cX4_get 0 = .ok (.iload_n 1, 1) := by decide +kernel
theorem dX4_get_1 : decode cX4_get 1 = .ok (.invokestatic 31, 3) := by decide +kernel
theorem dX4_get_4 : decode cX4_get 4 = .ok (.iload_n 2, 1) := by decide +kernel
theorem dX4_get_5 : decode cX4_get 5 = .ok (.invokestatic 31, 3) := by decide +kernel
theorem dX4_get_8 : decode cX4_get 8 = .ok (.aload_n 0, 1) := by decide +kernel
theorem dX4_get_9 : decode cX4_get 9 = .ok (.iload_n 2, 1) := by decide +kernel
theorem dX4_get_10 : decode cX4_get 10 = .ok (.invokevirtual 59, 3) := by decide +kernel
theorem dX4_get_13 : decode cX4_get 13 = .ok (.istore 4, 2) := by decide +kernel
theorem dX4_get_15 : decode cX4_get 15 = .ok (.aload_n 0, 1) := by decide +kernel
theorem dX4_get_16 : decode cX4_get 16 = .ok (.iload 4, 2) := by decide +kernel
theorem dX4_get_18 : decode cX4_get 18 = .ok (.iload_n 3, 1) := by decide +kernel
theorem dX4_get_19 : decode cX4_get 19 = .ok (.invokevirtual 63, 3) := by decide +kernel
theorem dX4_get_22 : decode cX4_get 22 = .ok (.aload_n 0, 1) := by decide +kernel
theorem dX4_get_23 : decode cX4_get 23 = .ok (.getfield 18, 3) := by decide +kernel
theorem dX4_get_26 : decode cX4_get 26 = .ok (.getfield 42, 3) := by decide +kernel
theorem dX4_get_29 : decode cX4_get 29 = .ok (.getfield 46, 3) := by decide +kernel
theorem dX4_get_32 : decode cX4_get 32 = .ok (.iload_n 1, 1) := by decide +kernel
theorem dX4_get_33 : decode cX4_get 33 = .ok (.aload_n 0, 1) := by decide +kernel
theorem dX4_get_34 : decode cX4_get 34 = .ok (.getfield 18, 3) := by decide +kernel
theorem dX4_get_37 : decode cX4_get 37 = .ok (.iload 4, 2) := by decide +kernel
theorem dX4_get_39 : decode cX4_get 39 = .ok (.iload_n 3, 1) := by decide +kernel
theorem dX4_get_40 : decode cX4_get 40 = .ok (.invokevirtual 67, 3) := by decide +kernel
theorem dX4_get_43 : decode cX4_get 43 = .ok (.iastore, 1) := by decide +kernel
theorem dX4_get_44 : decode cX4_get 44 = .ok (.aload_n 0, 1) := by decide +kernel
theorem dX4_get_45 : decode cX4_get 45 = .ok (.getfield 18, 3) := by decide +kernel
theorem dX4_get_48 : decode cX4_get 48 = .ok (.getfield 42, 3) := by decide +kernel
theorem dX4_get_51 : decode cX4_get 51 = .ok (.getfield 46, 3) := by decide +kernel
theorem dX4_get_54 : decode cX4_get 54 = .ok (.iload_n 1, 1) := by decide +kernel
theorem dX4_get_55 : decode cX4_get 55 = .ok (.iaload, 1) := by decide +kernel
theorem dX4_get_56 : decode cX4_get 56 = .ok (.ireturn, 1) := by decide +kernel
theorem dX4_move_0 : decode cX4_move 0 = .ok (.iload_n 1, 1) := by decide +kernel
theorem dX4_move_1 : decode cX4_move 1 = .ok (.invokestatic 31, 3) := by decide +kernel
theorem dX4_move_4 : decode cX4_move 4 = .ok (.iload_n 2, 1) := by decide +kernel
theorem dX4_move_5 : decode cX4_move 5 = .ok (.invokestatic 56, 3) := by decide +kernel
theorem dX4_move_8 : decode cX4_move 8 = .ok (.aload_n 0, 1) := by decide +kernel
theorem dX4_move_9 : decode cX4_move 9 = .ok (.getfield 18, 3) := by decide +kernel
theorem dX4_move_12 : decode cX4_move 12 = .ok (.getfield 42, 3) := by decide +kernel
theorem dX4_move_15 : decode cX4_move 15 = .ok (.getfield 46, 3) := by decide +kernel
theorem dX4_move_18 : decode cX4_move 18 = .ok (.iload_n 1, 1) := by decide +kernel
theorem dX4_move_19 : decode cX4_move 19 = .ok (.aload_n 0, 1) := by decide +kernel
theorem dX4_move_20 : decode cX4_move 20 = .ok (.getfield 18, 3) := by decide +kernel
theorem dX4_move_23 : decode cX4_move 23 = .ok (.iload_n 2, 1) := by decide +kernel
theorem dX4_move_24 : decode cX4_move 24 = .ok (.invokevirtual 71, 3) := by decide +kernel
theorem dX4_move_27 : decode cX4_move 27 = .ok (.iastore, 1) := by decide +kernel
theorem dX4_move_28 : decode cX4_move 28 = .ok (.aload_n 0, 1) := by decide +kernel
theorem dX4_move_29 : decode cX4_move 29 = .ok (.getfield 18, 3) := by decide +kernel
theorem dX4_move_32 : decode cX4_move 32 = .ok (.getfield 42, 3) := by decide +kernel
theorem dX4_move_35 : decode cX4_move 35 = .ok (.getfield 46, 3) := by decide +kernel
theorem dX4_move_38 : decode cX4_move 38 = .ok (.iload_n 1, 1) := by decide +kernel
theorem dX4_move_39 : decode cX4_move 39 = .ok (.iaload, 1) := by decide +kernel
theorem dX4_move_40 : decode cX4_move 40 = .ok (.ireturn, 1) := by decide +kernel
theorem dX4_keep_0 : decode cX4_keep 0 = .ok (.iload_n 1, 1) := by decide +kernel
theorem dX4_keep_1 : decode cX4_keep 1 = .ok (.invokestatic 31, 3) := by decide +kernel
theorem dX4_keep_4 : decode cX4_keep 4 = .ok (.aload_n 0, 1) := by decide +kernel
theorem dX4_keep_5 : decode cX4_keep 5 = .ok (.getfield 18, 3) := by decide +kernel
theorem dX4_keep_8 : decode cX4_keep 8 = .ok (.getfield 74, 3) := by decide +kernel
theorem dX4_keep_11 : decode cX4_keep 11 = .ok (.invokevirtual 77, 3) := by decide +kernel
theorem dX4_keep_14 : decode cX4_keep 14 = .ok (.ifCond .eq 11, 3) := by decide +kernel
theorem dX4_keep_17 : decode cX4_keep 17 = .ok (.new 81, 3) := by decide +kernel
theorem dX4_keep_20 : decode cX4_keep 20 = .ok (.dup, 1) := by decide +kernel
theorem dX4_keep_21 : decode cX4_keep 21 = .ok (.invokespecial 83, 3) := by decide +kernel
theorem dX4_keep_24 : decode cX4_keep 24 = .ok (.athrow, 1) := by decide +kernel
theorem dX4_keep_25 : decode cX4_keep 25 = .ok (.aload_n 0, 1) := by decide +kernel
theorem dX4_keep_26 : decode cX4_keep 26 = .ok (.getfield 18, 3) := by decide +kernel
theorem dX4_keep_29 : decode cX4_keep 29 = .ok (.getfield 74, 3) := by decide +kernel
theorem dX4_keep_32 : decode cX4_keep 32 = .ok (.aload_n 0, 1) := by decide +kernel
theorem dX4_keep_33 : decode cX4_keep 33 = .ok (.getfield 18, 3) := by decide +kernel
theorem dX4_keep_36 : decode cX4_keep 36 = .ok (.getfield 42, 3) := by decide +kernel
theorem dX4_keep_39 : decode cX4_keep 39 = .ok (.getfield 46, 3) := by decide +kernel
theorem dX4_keep_42 : decode cX4_keep 42 = .ok (.iload_n 1, 1) := by decide +kernel
theorem dX4_keep_43 : decode cX4_keep 43 = .ok (.iaload, 1) := by decide +kernel
theorem dX4_keep_44 : decode cX4_keep 44 = .ok (.invokevirtual 84, 3) := by decide +kernel
theorem dX4_keep_47 : decode cX4_keep 47 = .ok (.aload_n 0, 1) := by decide +kernel
theorem dX4_keep_48 : decode cX4_keep 48 = .ok (.getfield 18, 3) := by decide +kernel
theorem dX4_keep_51 : decode cX4_keep 51 = .ok (.getfield 74, 3) := by decide +kernel
theorem dX4_keep_54 : decode cX4_keep 54 = .ok (.getfield 87, 3) := by decide +kernel
theorem dX4_keep_57 : decode cX4_keep 57 = .ok (.ireturn, 1) := by decide +kernel
theorem dX4_back_0 : decode cX4_back 0 = .ok (.iload_n 1, 1) := by decide +kernel
theorem dX4_back_1 : decode cX4_back 1 = .ok (.invokestatic 31, 3) := by decide +kernel
theorem dX4_back_4 : decode cX4_back 4 = .ok (.aload_n 0, 1) := by decide +kernel
theorem dX4_back_5 : decode cX4_back 5 = .ok (.getfield 18, 3) := by decide +kernel
theorem dX4_back_8 : decode cX4_back 8 = .ok (.getfield 74, 3) := by decide +kernel
theorem dX4_back_11 : decode cX4_back 11 = .ok (.getfield 87, 3) := by decide +kernel
theorem dX4_back_14 : decode cX4_back 14 = .ok (.ifCond .ne 11, 3) := by decide +kernel
theorem dX4_back_17 : decode cX4_back 17 = .ok (.new 81, 3) := by decide +kernel
theorem dX4_back_20 : decode cX4_back 20 = .ok (.dup, 1) := by decide +kernel
theorem dX4_back_21 : decode cX4_back 21 = .ok (.invokespecial 83, 3) := by decide +kernel
theorem dX4_back_24 : decode cX4_back 24 = .ok (.athrow, 1) := by decide +kernel
theorem dX4_back_25 : decode cX4_back 25 = .ok (.aload_n 0, 1) := by decide +kernel
theorem dX4_back_26 : decode cX4_back 26 = .ok (.getfield 18, 3) := by decide +kernel
theorem dX4_back_29 : decode cX4_back 29 = .ok (.getfield 42, 3) := by decide +kernel
theorem dX4_back_32 : decode cX4_back 32 = .ok (.getfield 46, 3) := by decide +kernel
theorem dX4_back_35 : decode cX4_back 35 = .ok (.iload_n 1, 1) := by decide +kernel
theorem dX4_back_36 : decode cX4_back 36 = .ok (.aload_n 0, 1) := by decide +kernel
theorem dX4_back_37 : decode cX4_back 37 = .ok (.getfield 18, 3) := by decide +kernel
theorem dX4_back_40 : decode cX4_back 40 = .ok (.getfield 74, 3) := by decide +kernel
theorem dX4_back_43 : decode cX4_back 43 = .ok (.invokevirtual 91, 3) := by decide +kernel
theorem dX4_back_46 : decode cX4_back 46 = .ok (.iastore, 1) := by decide +kernel
theorem dX4_back_47 : decode cX4_back 47 = .ok (.aload_n 0, 1) := by decide +kernel
theorem dX4_back_48 : decode cX4_back 48 = .ok (.getfield 18, 3) := by decide +kernel
theorem dX4_back_51 : decode cX4_back 51 = .ok (.getfield 42, 3) := by decide +kernel
theorem dX4_back_54 : decode cX4_back 54 = .ok (.getfield 46, 3) := by decide +kernel
theorem dX4_back_57 : decode cX4_back 57 = .ok (.iload_n 1, 1) := by decide +kernel
theorem dX4_back_58 : decode cX4_back 58 = .ok (.iaload, 1) := by decide +kernel
theorem dX4_back_59 : decode cX4_back 59 = .ok (.ireturn, 1) := by decide +kernel
theorem dX4_weak_0 : decode cX4_weak 0 = .ok (.iload_n 1, 1) := by decide +kernel
theorem dX4_weak_1 : decode cX4_weak 1 = .ok (.invokestatic 95, 3) := by decide +kernel
theorem dX4_weak_4 : decode cX4_weak 4 = .ok (.iload_n 2, 1) := by decide +kernel
theorem dX4_weak_5 : decode cX4_weak 5 = .ok (.invokestatic 31, 3) := by decide +kernel
theorem dX4_weak_8 : decode cX4_weak 8 = .ok (.aload_n 0, 1) := by decide +kernel
theorem dX4_weak_9 : decode cX4_weak 9 = .ok (.getfield 18, 3) := by decide +kernel
theorem dX4_weak_12 : decode cX4_weak 12 = .ok (.getfield 98, 3) := by decide +kernel
theorem dX4_weak_15 : decode cX4_weak 15 = .ok (.getfield 46, 3) := by decide +kernel
theorem dX4_weak_18 : decode cX4_weak 18 = .ok (.iload_n 1, 1) := by decide +kernel
theorem dX4_weak_19 : decode cX4_weak 19 = .ok (.iaload, 1) := by decide +kernel
theorem dX4_weak_20 : decode cX4_weak 20 = .ok (.istore_n 3, 1) := by decide +kernel
theorem dX4_weak_21 : decode cX4_weak 21 = .ok (.aload_n 0, 1) := by decide +kernel
theorem dX4_weak_22 : decode cX4_weak 22 = .ok (.getfield 18, 3) := by decide +kernel
theorem dX4_weak_25 : decode cX4_weak 25 = .ok (.getfield 98, 3) := by decide +kernel
theorem dX4_weak_28 : decode cX4_weak 28 = .ok (.getfield 46, 3) := by decide +kernel
theorem dX4_weak_31 : decode cX4_weak 31 = .ok (.iload_n 1, 1) := by decide +kernel
theorem dX4_weak_32 : decode cX4_weak 32 = .ok (.aload_n 0, 1) := by decide +kernel
theorem dX4_weak_33 : decode cX4_weak 33 = .ok (.getfield 18, 3) := by decide +kernel
theorem dX4_weak_36 : decode cX4_weak 36 = .ok (.getfield 42, 3) := by decide +kernel
theorem dX4_weak_39 : decode cX4_weak 39 = .ok (.getfield 46, 3) := by decide +kernel
theorem dX4_weak_42 : decode cX4_weak 42 = .ok (.iload_n 2, 1) := by decide +kernel
theorem dX4_weak_43 : decode cX4_weak 43 = .ok (.iaload, 1) := by decide +kernel
theorem dX4_weak_44 : decode cX4_weak 44 = .ok (.iastore, 1) := by decide +kernel
theorem dX4_weak_45 : decode cX4_weak 45 = .ok (.iload_n 3, 1) := by decide +kernel
theorem dX4_weak_46 : decode cX4_weak 46 = .ok (.ireturn, 1) := by decide +kernel
theorem dX4_strong_0 : decode cX4_strong 0 = .ok (.iload_n 1, 1) := by decide +kernel
theorem dX4_strong_1 : decode cX4_strong 1 = .ok (.invokestatic 31, 3) := by decide +kernel
theorem dX4_strong_4 : decode cX4_strong 4 = .ok (.iload_n 2, 1) := by decide +kernel
theorem dX4_strong_5 : decode cX4_strong 5 = .ok (.invokestatic 95, 3) := by decide +kernel
theorem dX4_strong_8 : decode cX4_strong 8 = .ok (.aload_n 0, 1) := by decide +kernel
theorem dX4_strong_9 : decode cX4_strong 9 = .ok (.getfield 18, 3) := by decide +kernel
theorem dX4_strong_12 : decode cX4_strong 12 = .ok (.getfield 42, 3) := by decide +kernel
theorem dX4_strong_15 : decode cX4_strong 15 = .ok (.getfield 46, 3) := by decide +kernel
theorem dX4_strong_18 : decode cX4_strong 18 = .ok (.iload_n 1, 1) := by decide +kernel
theorem dX4_strong_19 : decode cX4_strong 19 = .ok (.aload_n 0, 1) := by decide +kernel
theorem dX4_strong_20 : decode cX4_strong 20 = .ok (.getfield 18, 3) := by decide +kernel
theorem dX4_strong_23 : decode cX4_strong 23 = .ok (.getfield 98, 3) := by decide +kernel
theorem dX4_strong_26 : decode cX4_strong 26 = .ok (.getfield 46, 3) := by decide +kernel
theorem dX4_strong_29 : decode cX4_strong 29 = .ok (.iload_n 2, 1) := by decide +kernel
theorem dX4_strong_30 : decode cX4_strong 30 = .ok (.iaload, 1) := by decide +kernel
theorem dX4_strong_31 : decode cX4_strong 31 = .ok (.iastore, 1) := by decide +kernel
theorem dX4_strong_32 : decode cX4_strong 32 = .ok (.aload_n 0, 1) := by decide +kernel
theorem dX4_strong_33 : decode cX4_strong 33 = .ok (.getfield 18, 3) := by decide +kernel
theorem dX4_strong_36 : decode cX4_strong 36 = .ok (.getfield 42, 3) := by decide +kernel
theorem dX4_strong_39 : decode cX4_strong 39 = .ok (.getfield 46, 3) := by decide +kernel
theorem dX4_strong_42 : decode cX4_strong 42 = .ok (.iload_n 1, 1) := by decide +kernel
theorem dX4_strong_43 : decode cX4_strong 43 = .ok (.iaload, 1) := by decide +kernel
theorem dX4_strong_44 : decode cX4_strong 44 = .ok (.ireturn, 1) := by decide +kernel
theorem dX4_wish_0 : decode cX4_wish 0 = .ok (.iload_n 1, 1) := by decide +kernel
theorem dX4_wish_1 : decode cX4_wish 1 = .ok (.invokestatic 31, 3) := by decide +kernel
theorem dX4_wish_4 : decode cX4_wish 4 = .ok (.aload_n 0, 1) := by decide +kernel
theorem dX4_wish_5 : decode cX4_wish 5 = .ok (.getfield 18, 3) := by decide +kernel
theorem dX4_wish_8 : decode cX4_wish 8 = .ok (.getfield 101, 3) := by decide +kernel
theorem dX4_wish_11 : decode cX4_wish 11 = .ok (.getfield 87, 3) := by decide +kernel
theorem dX4_wish_14 : decode cX4_wish 14 = .ok (.ifCond .ne 5, 3) := by decide +kernel
theorem dX4_wish_17 : decode cX4_wish 17 = .ok (.iconst 0, 1) := by decide +kernel
theorem dX4_wish_18 : decode cX4_wish 18 = .ok (.ireturn, 1) := by decide +kernel
theorem dX4_wish_19 : decode cX4_wish 19 = .ok (.aload_n 0, 1) := by decide +kernel
theorem dX4_wish_20 : decode cX4_wish 20 = .ok (.getfield 18, 3) := by decide +kernel
theorem dX4_wish_23 : decode cX4_wish 23 = .ok (.getfield 42, 3) := by decide +kernel
theorem dX4_wish_26 : decode cX4_wish 26 = .ok (.getfield 46, 3) := by decide +kernel
theorem dX4_wish_29 : decode cX4_wish 29 = .ok (.iload_n 1, 1) := by decide +kernel
theorem dX4_wish_30 : decode cX4_wish 30 = .ok (.aload_n 0, 1) := by decide +kernel
theorem dX4_wish_31 : decode cX4_wish 31 = .ok (.getfield 18, 3) := by decide +kernel
theorem dX4_wish_34 : decode cX4_wish 34 = .ok (.getfield 101, 3) := by decide +kernel
theorem dX4_wish_37 : decode cX4_wish 37 = .ok (.invokevirtual 104, 3) := by decide +kernel
theorem dX4_wish_40 : decode cX4_wish 40 = .ok (.iastore, 1) := by decide +kernel
theorem dX4_wish_41 : decode cX4_wish 41 = .ok (.aload_n 0, 1) := by decide +kernel
theorem dX4_wish_42 : decode cX4_wish 42 = .ok (.getfield 18, 3) := by decide +kernel
theorem dX4_wish_45 : decode cX4_wish 45 = .ok (.getfield 42, 3) := by decide +kernel
theorem dX4_wish_48 : decode cX4_wish 48 = .ok (.getfield 46, 3) := by decide +kernel
theorem dX4_wish_51 : decode cX4_wish 51 = .ok (.iload_n 1, 1) := by decide +kernel
theorem dX4_wish_52 : decode cX4_wish 52 = .ok (.iaload, 1) := by decide +kernel
theorem dX4_wish_53 : decode cX4_wish 53 = .ok (.ireturn, 1) := by decide +kernel
theorem dX4_collect_0 : decode cX4_collect 0 = .ok (.iload_n 1, 1) := by decide +kernel
theorem dX4_collect_1 : decode cX4_collect 1 = .ok (.ifCond .lt 8, 3) := by decide +kernel
theorem dX4_collect_4 : decode cX4_collect 4 = .ok (.iload_n 1, 1) := by decide +kernel
theorem dX4_collect_5 : decode cX4_collect 5 = .ok (.iconst 3, 1) := by decide +kernel
theorem dX4_collect_6 : decode cX4_collect 6 = .ok (.if_icmp .lt 11, 3) := by decide +kernel
theorem dX4_collect_9 : decode cX4_collect 9 = .ok (.new 35, 3) := by decide +kernel
theorem dX4_collect_12 : decode cX4_collect 12 = .ok (.dup, 1) := by decide +kernel
theorem dX4_collect_13 : decode cX4_collect 13 = .ok (.invokespecial 37, 3) := by decide +kernel
theorem dX4_collect_16 : decode cX4_collect 16 = .ok (.athrow, 1) := by decide +kernel
theorem dX4_collect_17 : decode cX4_collect 17 = .ok (.aload_n 0, 1) := by decide +kernel
theorem dX4_collect_18 : decode cX4_collect 18 = .ok (.getfield 18, 3) := by decide +kernel
theorem dX4_collect_21 : decode cX4_collect 21 = .ok (.iload_n 1, 1) := by decide +kernel
theorem dX4_collect_22 : decode cX4_collect 22 = .ok (.invokevirtual 107, 3) := by decide +kernel
theorem dX4_collect_25 : decode cX4_collect 25 = .ok (.ireturn, 1) := by decide +kernel
theorem dX4_root_0 : decode cX4_root 0 = .ok (.iload_n 1, 1) := by decide +kernel
theorem dX4_root_1 : decode cX4_root 1 = .ok (.invokestatic 31, 3) := by decide +kernel
theorem dX4_root_4 : decode cX4_root 4 = .ok (.aload_n 0, 1) := by decide +kernel
theorem dX4_root_5 : decode cX4_root 5 = .ok (.getfield 18, 3) := by decide +kernel
theorem dX4_root_8 : decode cX4_root 8 = .ok (.getfield 42, 3) := by decide +kernel
theorem dX4_root_11 : decode cX4_root 11 = .ok (.getfield 46, 3) := by decide +kernel
theorem dX4_root_14 : decode cX4_root 14 = .ok (.iload_n 1, 1) := by decide +kernel
theorem dX4_root_15 : decode cX4_root 15 = .ok (.iaload, 1) := by decide +kernel
theorem dX4_root_16 : decode cX4_root 16 = .ok (.ireturn, 1) := by decide +kernel
theorem dX4_about_0 : decode cX4_about 0 = .ok (.iload_n 1, 1) := by decide +kernel
theorem dX4_about_1 : decode cX4_about 1 = .ok (.invokestatic 31, 3) := by decide +kernel
theorem dX4_about_4 : decode cX4_about 4 = .ok (.aload_n 0, 1) := by decide +kernel
theorem dX4_about_5 : decode cX4_about 5 = .ok (.iload_n 1, 1) := by decide +kernel
theorem dX4_about_6 : decode cX4_about 6 = .ok (.invokevirtual 59, 3) := by decide +kernel
theorem dX4_about_9 : decode cX4_about 9 = .ok (.istore_n 3, 1) := by decide +kernel
theorem dX4_about_10 : decode cX4_about 10 = .ok (.iload_n 2, 1) := by decide +kernel
theorem dX4_about_11 : decode cX4_about 11 = .ok (.tableswitch 89 0 4 #[33, 42, 51, 68, 77], 33) := by decide +kernel
theorem dX4_about_44 : decode cX4_about 44 = .ok (.aload_n 0, 1) := by decide +kernel
theorem dX4_about_45 : decode cX4_about 45 = .ok (.getfield 18, 3) := by decide +kernel
theorem dX4_about_48 : decode cX4_about 48 = .ok (.iload_n 3, 1) := by decide +kernel
theorem dX4_about_49 : decode cX4_about 49 = .ok (.invokevirtual 110, 3) := by decide +kernel
theorem dX4_about_52 : decode cX4_about 52 = .ok (.ireturn, 1) := by decide +kernel
theorem dX4_about_53 : decode cX4_about 53 = .ok (.aload_n 0, 1) := by decide +kernel
theorem dX4_about_54 : decode cX4_about 54 = .ok (.getfield 18, 3) := by decide +kernel
theorem dX4_about_57 : decode cX4_about 57 = .ok (.iload_n 3, 1) := by decide +kernel
theorem dX4_about_58 : decode cX4_about 58 = .ok (.invokevirtual 113, 3) := by decide +kernel
theorem dX4_about_61 : decode cX4_about 61 = .ok (.ireturn, 1) := by decide +kernel
theorem dX4_about_62 : decode cX4_about 62 = .ok (.aload_n 0, 1) := by decide +kernel
theorem dX4_about_63 : decode cX4_about 63 = .ok (.getfield 18, 3) := by decide +kernel
theorem dX4_about_66 : decode cX4_about 66 = .ok (.iload_n 3, 1) := by decide +kernel
theorem dX4_about_67 : decode cX4_about 67 = .ok (.invokevirtual 116, 3) := by decide +kernel
theorem dX4_about_70 : decode cX4_about 70 = .ok (.ifCond .eq 7, 3) := by decide +kernel
theorem dX4_about_73 : decode cX4_about 73 = .ok (.iconst 1, 1) := by decide +kernel
theorem dX4_about_74 : decode cX4_about 74 = .ok (.goto 4, 3) := by decide +kernel
theorem dX4_about_77 : decode cX4_about 77 = .ok (.iconst 0, 1) := by decide +kernel
theorem dX4_about_78 : decode cX4_about 78 = .ok (.ireturn, 1) := by decide +kernel
theorem dX4_about_79 : decode cX4_about 79 = .ok (.aload_n 0, 1) := by decide +kernel
theorem dX4_about_80 : decode cX4_about 80 = .ok (.getfield 18, 3) := by decide +kernel
theorem dX4_about_83 : decode cX4_about 83 = .ok (.iload_n 3, 1) := by decide +kernel
theorem dX4_about_84 : decode cX4_about 84 = .ok (.invokevirtual 120, 3) := by decide +kernel
theorem dX4_about_87 : decode cX4_about 87 = .ok (.ireturn, 1) := by decide +kernel
theorem dX4_about_88 : decode cX4_about 88 = .ok (.aload_n 0, 1) := by decide +kernel
theorem dX4_about_89 : decode cX4_about 89 = .ok (.getfield 18, 3) := by decide +kernel
theorem dX4_about_92 : decode cX4_about 92 = .ok (.iload_n 3, 1) := by decide +kernel
theorem dX4_about_93 : decode cX4_about 93 = .ok (.invokevirtual 123, 3) := by decide +kernel
theorem dX4_about_96 : decode cX4_about 96 = .ok (.getfield 127, 3) := by decide +kernel
theorem dX4_about_99 : decode cX4_about 99 = .ok (.ireturn, 1) := by decide +kernel
theorem dX4_about_100 : decode cX4_about 100 = .ok (.iload_n 2, 1) := by decide +kernel
theorem dX4_about_101 : decode cX4_about 101 = .ok (.ifCond .ge 11, 3) := by decide +kernel
theorem dX4_about_104 : decode cX4_about 104 = .ok (.new 132, 3) := by decide +kernel
theorem dX4_about_107 : decode cX4_about 107 = .ok (.dup, 1) := by decide +kernel
theorem dX4_about_108 : decode cX4_about 108 = .ok (.invokespecial 134, 3) := by decide +kernel
theorem dX4_about_111 : decode cX4_about 111 = .ok (.athrow, 1) := by decide +kernel
theorem dX4_about_112 : decode cX4_about 112 = .ok (.aload_n 0, 1) := by decide +kernel
theorem dX4_about_113 : decode cX4_about 113 = .ok (.iload_n 3, 1) := by decide +kernel
theorem dX4_about_114 : decode cX4_about 114 = .ok (.iload_n 2, 1) := by decide +kernel
theorem dX4_about_115 : decode cX4_about 115 = .ok (.iconst 5, 1) := by decide +kernel
theorem dX4_about_116 : decode cX4_about 116 = .ok (.isub, 1) := by decide +kernel
theorem dX4_about_117 : decode cX4_about 117 = .ok (.invokevirtual 63, 3) := by decide +kernel
theorem dX4_about_120 : decode cX4_about 120 = .ok (.aload_n 0, 1) := by decide +kernel
theorem dX4_about_121 : decode cX4_about 121 = .ok (.getfield 18, 3) := by decide +kernel
theorem dX4_about_124 : decode cX4_about 124 = .ok (.iload_n 3, 1) := by decide +kernel
theorem dX4_about_125 : decode cX4_about 125 = .ok (.iload_n 2, 1) := by decide +kernel
theorem dX4_about_126 : decode cX4_about 126 = .ok (.iconst 5, 1) := by decide +kernel
theorem dX4_about_127 : decode cX4_about 127 = .ok (.isub, 1) := by decide +kernel
theorem dX4_about_128 : decode cX4_about 128 = .ok (.invokevirtual 67, 3) := by decide +kernel
theorem dX4_about_131 : decode cX4_about 131 = .ok (.ireturn, 1) := by decide +kernel
theorem dX4_word_0 : decode cX4_word 0 = .ok (.aload_n 0, 1) := by decide +kernel
theorem dX4_word_1 : decode cX4_word 1 = .ok (.getfield 18, 3) := by decide +kernel
theorem dX4_word_4 : decode cX4_word 4 = .ok (.iload_n 1, 1) := by decide +kernel
theorem dX4_word_5 : decode cX4_word 5 = .ok (.invokevirtual 135, 3) := by decide +kernel
theorem dX4_word_8 : decode cX4_word 8 = .ok (.ifCond .ne 11, 3) := by decide +kernel
theorem dX4_word_11 : decode cX4_word 11 = .ok (.new 132, 3) := by decide +kernel
theorem dX4_word_14 : decode cX4_word 14 = .ok (.dup, 1) := by decide +kernel
theorem dX4_word_15 : decode cX4_word 15 = .ok (.invokespecial 134, 3) := by decide +kernel
theorem dX4_word_18 : decode cX4_word 18 = .ok (.athrow, 1) := by decide +kernel
theorem dX4_word_19 : decode cX4_word 19 = .ok (.aload_n 0, 1) := by decide +kernel
theorem dX4_word_20 : decode cX4_word 20 = .ok (.getfield 18, 3) := by decide +kernel
theorem dX4_word_23 : decode cX4_word 23 = .ok (.getfield 138, 3) := by decide +kernel
theorem dX4_word_26 : decode cX4_word 26 = .ok (.iload_n 1, 1) := by decide +kernel
theorem dX4_word_27 : decode cX4_word 27 = .ok (.iaload, 1) := by decide +kernel
theorem dX4_word_28 : decode cX4_word 28 = .ok (.ireturn, 1) := by decide +kernel
theorem dX4_row_0 : decode cX4_row 0 = .ok (.aload_n 0, 1) := by decide +kernel
theorem dX4_row_1 : decode cX4_row 1 = .ok (.getfield 18, 3) := by decide +kernel
theorem dX4_row_4 : decode cX4_row 4 = .ok (.iload_n 1, 1) := by decide +kernel
theorem dX4_row_5 : decode cX4_row 5 = .ok (.invokevirtual 141, 3) := by decide +kernel
theorem dX4_row_8 : decode cX4_row 8 = .ok (.astore_n 3, 1) := by decide +kernel
theorem dX4_row_9 : decode cX4_row 9 = .ok (.aload_n 3, 1) := by decide +kernel
theorem dX4_row_10 : decode cX4_row 10 = .ok (.ifnull 15, 3) := by decide +kernel
theorem dX4_row_13 : decode cX4_row 13 = .ok (.iload_n 2, 1) := by decide +kernel
theorem dX4_row_14 : decode cX4_row 14 = .ok (.ifCond .lt 11, 3) := by decide +kernel
theorem dX4_row_17 : decode cX4_row 17 = .ok (.iload_n 2, 1) := by decide +kernel
theorem dX4_row_18 : decode cX4_row 18 = .ok (.aload_n 3, 1) := by decide +kernel
theorem dX4_row_19 : decode cX4_row 19 = .ok (.getfield 87, 3) := by decide +kernel
theorem dX4_row_22 : decode cX4_row 22 = .ok (.if_icmp .lt 11, 3) := by decide +kernel
theorem dX4_row_25 : decode cX4_row 25 = .ok (.new 132, 3) := by decide +kernel
theorem dX4_row_28 : decode cX4_row 28 = .ok (.dup, 1) := by decide +kernel
theorem dX4_row_29 : decode cX4_row 29 = .ok (.invokespecial 134, 3) := by decide +kernel
theorem dX4_row_32 : decode cX4_row 32 = .ok (.athrow, 1) := by decide +kernel
theorem dX4_row_33 : decode cX4_row 33 = .ok (.aload_n 3, 1) := by decide +kernel
theorem dX4_row_34 : decode cX4_row 34 = .ok (.getfield 46, 3) := by decide +kernel
theorem dX4_row_37 : decode cX4_row 37 = .ok (.iload_n 2, 1) := by decide +kernel
theorem dX4_row_38 : decode cX4_row 38 = .ok (.iaload, 1) := by decide +kernel
theorem dX4_row_39 : decode cX4_row 39 = .ok (.ireturn, 1) := by decide +kernel
theorem dX4_code_0 : decode cX4_code 0 = .ok (.aload_n 0, 1) := by decide +kernel
theorem dX4_code_1 : decode cX4_code 1 = .ok (.getfield 27, 3) := by decide +kernel
theorem dX4_code_4 : decode cX4_code 4 = .ok (.getfield 145, 3) := by decide +kernel
theorem dX4_code_7 : decode cX4_code 7 = .ok (.bipush 64, 2) := by decide +kernel
theorem dX4_code_9 : decode cX4_code 9 = .ok (.if_icmp .ne 11, 3) := by decide +kernel
theorem dX4_code_12 : decode cX4_code 12 = .ok (.new 81, 3) := by decide +kernel
theorem dX4_code_15 : decode cX4_code 15 = .ok (.dup, 1) := by decide +kernel
theorem dX4_code_16 : decode cX4_code 16 = .ok (.invokespecial 83, 3) := by decide +kernel
theorem dX4_code_19 : decode cX4_code 19 = .ok (.athrow, 1) := by decide +kernel
theorem dX4_code_20 : decode cX4_code 20 = .ok (.aload_n 0, 1) := by decide +kernel
theorem dX4_code_21 : decode cX4_code 21 = .ok (.getfield 27, 3) := by decide +kernel
theorem dX4_code_24 : decode cX4_code 24 = .ok (.iload_n 1, 1) := by decide +kernel
theorem dX4_code_25 : decode cX4_code 25 = .ok (.iload_n 2, 1) := by decide +kernel
theorem dX4_code_26 : decode cX4_code 26 = .ok (.iload_n 3, 1) := by decide +kernel
theorem dX4_code_27 : decode cX4_code 27 = .ok (.iload 4, 2) := by decide +kernel
theorem dX4_code_29 : decode cX4_code 29 = .ok (.invokevirtual 148, 3) := by decide +kernel
theorem dX4_code_32 : decode cX4_code 32 = .ok (.aload_n 0, 1) := by decide +kernel
theorem dX4_code_33 : decode cX4_code 33 = .ok (.getfield 27, 3) := by decide +kernel
theorem dX4_code_36 : decode cX4_code 36 = .ok (.getfield 145, 3) := by decide +kernel
theorem dX4_code_39 : decode cX4_code 39 = .ok (.ireturn, 1) := by decide +kernel
theorem dX4_scrap_0 : decode cX4_scrap 0 = .ok (.aload_n 0, 1) := by decide +kernel
theorem dX4_scrap_1 : decode cX4_scrap 1 = .ok (.getfield 27, 3) := by decide +kernel
theorem dX4_scrap_4 : decode cX4_scrap 4 = .ok (.getfield 145, 3) := by decide +kernel
theorem dX4_scrap_7 : decode cX4_scrap 7 = .ok (.istore_n 1, 1) := by decide +kernel
theorem dX4_scrap_8 : decode cX4_scrap 8 = .ok (.aload_n 0, 1) := by decide +kernel
theorem dX4_scrap_9 : decode cX4_scrap 9 = .ok (.getfield 27, 3) := by decide +kernel
theorem dX4_scrap_12 : decode cX4_scrap 12 = .ok (.iconst 0, 1) := by decide +kernel
theorem dX4_scrap_13 : decode cX4_scrap 13 = .ok (.putfield 145, 3) := by decide +kernel
theorem dX4_scrap_16 : decode cX4_scrap 16 = .ok (.iload_n 1, 1) := by decide +kernel
theorem dX4_scrap_17 : decode cX4_scrap 17 = .ok (.ireturn, 1) := by decide +kernel
theorem dX4_run_0 : decode cX4_run 0 = .ok (.iload_n 1, 1) := by decide +kernel
theorem dX4_run_1 : decode cX4_run 1 = .ok (.ifCond .lt 14, 3) := by decide +kernel
theorem dX4_run_4 : decode cX4_run 4 = .ok (.iload_n 1, 1) := by decide +kernel
theorem dX4_run_5 : decode cX4_run 5 = .ok (.aload_n 0, 1) := by decide +kernel
theorem dX4_run_6 : decode cX4_run 6 = .ok (.getfield 27, 3) := by decide +kernel
theorem dX4_run_9 : decode cX4_run 9 = .ok (.getfield 145, 3) := by decide +kernel
theorem dX4_run_12 : decode cX4_run 12 = .ok (.if_icmp .le 11, 3) := by decide +kernel
theorem dX4_run_15 : decode cX4_run 15 = .ok (.new 132, 3) := by decide +kernel
theorem dX4_run_18 : decode cX4_run 18 = .ok (.dup, 1) := by decide +kernel
theorem dX4_run_19 : decode cX4_run 19 = .ok (.invokespecial 134, 3) := by decide +kernel
theorem dX4_run_22 : decode cX4_run 22 = .ok (.athrow, 1) := by decide +kernel
theorem dX4_run_23 : decode cX4_run 23 = .ok (.iload_n 2, 1) := by decide +kernel
theorem dX4_run_24 : decode cX4_run 24 = .ok (.ifCond .lt 10, 3) := by decide +kernel
theorem dX4_run_27 : decode cX4_run 27 = .ok (.iload_n 2, 1) := by decide +kernel
theorem dX4_run_28 : decode cX4_run 28 = .ok (.sipush 400, 3) := by decide +kernel
theorem dX4_run_31 : decode cX4_run 31 = .ok (.if_icmp .le 11, 3) := by decide +kernel
theorem dX4_run_34 : decode cX4_run 34 = .ok (.new 35, 3) := by decide +kernel
theorem dX4_run_37 : decode cX4_run 37 = .ok (.dup, 1) := by decide +kernel
theorem dX4_run_38 : decode cX4_run 38 = .ok (.invokespecial 37, 3) := by decide +kernel
theorem dX4_run_41 : decode cX4_run 41 = .ok (.athrow, 1) := by decide +kernel
theorem dX4_run_42 : decode cX4_run 42 = .ok (.aload_n 0, 1) := by decide +kernel
theorem dX4_run_43 : decode cX4_run 43 = .ok (.getfield 27, 3) := by decide +kernel
theorem dX4_run_46 : decode cX4_run 46 = .ok (.iload_n 1, 1) := by decide +kernel
theorem dX4_run_47 : decode cX4_run 47 = .ok (.putfield 151, 3) := by decide +kernel
theorem dX4_run_50 : decode cX4_run 50 = .ok (.iconst (-1), 1) := by decide +kernel
theorem dX4_run_51 : decode cX4_run 51 = .ok (.istore_n 3, 1) := by decide +kernel
theorem dX4_run_52 : decode cX4_run 52 = .ok (.iconst 0, 1) := by decide +kernel
theorem dX4_run_53 : decode cX4_run 53 = .ok (.istore 4, 2) := by decide +kernel
theorem dX4_run_55 : decode cX4_run 55 = .ok (.iload 4, 2) := by decide +kernel
theorem dX4_run_57 : decode cX4_run 57 = .ok (.iload_n 2, 1) := by decide +kernel
theorem dX4_run_58 : decode cX4_run 58 = .ok (.if_icmp .gt 46, 3) := by decide +kernel
theorem dX4_run_61 : decode cX4_run 61 = .ok (.iload_n 3, 1) := by decide +kernel
theorem dX4_run_62 : decode cX4_run 62 = .ok (.iconst (-1), 1) := by decide +kernel
theorem dX4_run_63 : decode cX4_run 63 = .ok (.if_icmp .ne 41, 3) := by decide +kernel
theorem dX4_run_66 : decode cX4_run 66 = .ok (.aload_n 0, 1) := by decide +kernel
theorem dX4_run_67 : decode cX4_run 67 = .ok (.getfield 27, 3) := by decide +kernel
theorem dX4_run_70 : decode cX4_run 70 = .ok (.iload 4, 2) := by decide +kernel
theorem dX4_run_72 : decode cX4_run 72 = .ok (.iload_n 2, 1) := by decide +kernel
theorem dX4_run_73 : decode cX4_run 73 = .ok (.if_icmp .ne 7, 3) := by decide +kernel
theorem dX4_run_76 : decode cX4_run 76 = .ok (.iconst 1, 1) := by decide +kernel
theorem dX4_run_77 : decode cX4_run 77 = .ok (.goto 4, 3) := by decide +kernel
theorem dX4_run_80 : decode cX4_run 80 = .ok (.iconst 0, 1) := by decide +kernel
theorem dX4_run_81 : decode cX4_run 81 = .ok (.invokevirtual 154, 3) := by decide +kernel
theorem dX4_run_84 : decode cX4_run 84 = .ok (.istore_n 3, 1) := by decide +kernel
theorem dX4_run_85 : decode cX4_run 85 = .ok (.iload_n 3, 1) := by decide +kernel
theorem dX4_run_86 : decode cX4_run 86 = .ok (.iconst (-1), 1) := by decide +kernel
theorem dX4_run_87 : decode cX4_run 87 = .ok (.if_icmp .ne 11, 3) := by decide +kernel
theorem dX4_run_90 : decode cX4_run 90 = .ok (.aload_n 0, 1) := by decide +kernel
theorem dX4_run_91 : decode cX4_run 91 = .ok (.getfield 27, 3) := by decide +kernel
theorem dX4_run_94 : decode cX4_run 94 = .ok (.invokevirtual 158, 3) := by decide +kernel
theorem dX4_run_97 : decode cX4_run 97 = .ok (.istore_n 3, 1) := by decide +kernel
theorem dX4_run_98 : decode cX4_run 98 = .ok (.iinc 4 1, 3) := by decide +kernel
theorem dX4_run_101 : decode cX4_run 101 = .ok (.goto (-46), 3) := by decide +kernel
theorem dX4_run_104 : decode cX4_run 104 = .ok (.iload_n 3, 1) := by decide +kernel
theorem dX4_run_105 : decode cX4_run 105 = .ok (.ireturn, 1) := by decide +kernel
theorem dX4_count_0 : decode cX4_count 0 = .ok (.iload_n 1, 1) := by decide +kernel
theorem dX4_count_1 : decode cX4_count 1 = .ok (.ifCond .lt 9, 3) := by decide +kernel
theorem dX4_count_4 : decode cX4_count 4 = .ok (.iload_n 1, 1) := by decide +kernel
theorem dX4_count_5 : decode cX4_count 5 = .ok (.bipush 24, 2) := by decide +kernel
theorem dX4_count_7 : decode cX4_count 7 = .ok (.if_icmp .le 11, 3) := by decide +kernel
theorem dX4_count_10 : decode cX4_count 10 = .ok (.new 132, 3) := by decide +kernel
theorem dX4_count_13 : decode cX4_count 13 = .ok (.dup, 1) := by decide +kernel
theorem dX4_count_14 : decode cX4_count 14 = .ok (.invokespecial 134, 3) := by decide +kernel
theorem dX4_count_17 : decode cX4_count 17 = .ok (.athrow, 1) := by decide +kernel
theorem dX4_count_18 : decode cX4_count 18 = .ok (.iload_n 1, 1) := by decide +kernel
theorem dX4_count_19 : decode cX4_count 19 = .ok (.bipush 17, 2) := by decide +kernel
theorem dX4_count_21 : decode cX4_count 21 = .ok (.if_icmp .lt 16, 3) := by decide +kernel
theorem dX4_count_24 : decode cX4_count 24 = .ok (.aload_n 0, 1) := by decide +kernel
theorem dX4_count_25 : decode cX4_count 25 = .ok (.getfield 27, 3) := by decide +kernel
theorem dX4_count_28 : decode cX4_count 28 = .ok (.getfield 161, 3) := by decide +kernel
theorem dX4_count_31 : decode cX4_count 31 = .ok (.iload_n 1, 1) := by decide +kernel
theorem dX4_count_32 : decode cX4_count 32 = .ok (.bipush 17, 2) := by decide +kernel
theorem dX4_count_34 : decode cX4_count 34 = .ok (.isub, 1) := by decide +kernel
theorem dX4_count_35 : decode cX4_count 35 = .ok (.iaload, 1) := by decide +kernel
theorem dX4_count_36 : decode cX4_count 36 = .ok (.ireturn, 1) := by decide +kernel
theorem dX4_count_37 : decode cX4_count 37 = .ok (.iload_n 1, 1) := by decide +kernel
theorem dX4_count_38 : decode cX4_count 38 = .ok (.lookupswitch 42 #[(15, 26), (16, 34)], 26) := by decide +kernel
theorem dX4_count_64 : decode cX4_count 64 = .ok (.aload_n 0, 1) := by decide +kernel
theorem dX4_count_65 : decode cX4_count 65 = .ok (.getfield 27, 3) := by decide +kernel
theorem dX4_count_68 : decode cX4_count 68 = .ok (.getfield 164, 3) := by decide +kernel
theorem dX4_count_71 : decode cX4_count 71 = .ok (.ireturn, 1) := by decide +kernel
theorem dX4_count_72 : decode cX4_count 72 = .ok (.aload_n 0, 1) := by decide +kernel
theorem dX4_count_73 : decode cX4_count 73 = .ok (.getfield 27, 3) := by decide +kernel
theorem dX4_count_76 : decode cX4_count 76 = .ok (.getfield 151, 3) := by decide +kernel
theorem dX4_count_79 : decode cX4_count 79 = .ok (.ireturn, 1) := by decide +kernel
theorem dX4_count_80 : decode cX4_count 80 = .ok (.aload_n 0, 1) := by decide +kernel
theorem dX4_count_81 : decode cX4_count 81 = .ok (.getfield 18, 3) := by decide +kernel
theorem dX4_count_84 : decode cX4_count 84 = .ok (.iload_n 1, 1) := by decide +kernel
theorem dX4_count_85 : decode cX4_count 85 = .ok (.invokevirtual 167, 3) := by decide +kernel
theorem dX4_count_88 : decode cX4_count 88 = .ok (.ireturn, 1) := by decide +kernel
theorem dX4_nearest_0 : decode cX4_nearest 0 = .ok (.iload_n 1, 1) := by decide +kernel
theorem dX4_nearest_1 : decode cX4_nearest 1 = .ok (.iload_n 2, 1) := by decide +kernel
theorem dX4_nearest_2 : decode cX4_nearest 2 = .ok (.iload_n 0, 1) := by decide +kernel
theorem dX4_nearest_3 : decode cX4_nearest 3 = .ok (.invokestatic 170, 3) := by decide +kernel
theorem dX4_nearest_6 : decode cX4_nearest 6 = .ok (.invokestatic 175, 3) := by decide +kernel
theorem dX4_nearest_9 : decode cX4_nearest 9 = .ok (.ireturn, 1) := by decide +kernel
theorem dX4_isRoot_0 : decode cX4_isRoot 0 = .ok (.iload_n 0, 1) := by decide +kernel
theorem dX4_isRoot_1 : decode cX4_isRoot 1 = .ok (.ifCond .lt 13, 3) := by decide +kernel
theorem dX4_isRoot_4 : decode cX4_isRoot 4 = .ok (.iload_n 0, 1) := by decide +kernel
theorem dX4_isRoot_5 : decode cX4_isRoot 5 = .ok (.bipush 16, 2) := by decide +kernel
theorem dX4_isRoot_7 : decode cX4_isRoot 7 = .ok (.if_icmp .ge 7, 3) := by decide +kernel
theorem dX4_isRoot_10 : decode cX4_isRoot 10 = .ok (.iconst 1, 1) := by decide +kernel
theorem dX4_isRoot_11 : decode cX4_isRoot 11 = .ok (.goto 4, 3) := by decide +kernel
theorem dX4_isRoot_14 : decode cX4_isRoot 14 = .ok (.iconst 0, 1) := by decide +kernel
theorem dX4_isRoot_15 : decode cX4_isRoot 15 = .ok (.ireturn, 1) := by decide +kernel
theorem dX4_lookAtRoot_0 : decode cX4_lookAtRoot 0 = .ok (.iload_n 0, 1) := by decide +kernel
theorem dX4_lookAtRoot_1 : decode cX4_lookAtRoot 1 = .ok (.invokestatic 178, 3) := by decide +kernel
theorem dX4_lookAtRoot_4 : decode cX4_lookAtRoot 4 = .ok (.ifCond .ne 11, 3) := by decide +kernel
theorem dX4_lookAtRoot_7 : decode cX4_lookAtRoot 7 = .ok (.new 132, 3) := by decide +kernel
theorem dX4_lookAtRoot_10 : decode cX4_lookAtRoot 10 = .ok (.dup, 1) := by decide +kernel
theorem dX4_lookAtRoot_11 : decode cX4_lookAtRoot 11 = .ok (.invokespecial 134, 3) := by decide +kernel
theorem dX4_lookAtRoot_14 : decode cX4_lookAtRoot 14 = .ok (.athrow, 1) := by decide +kernel
theorem dX4_lookAtRoot_15 : decode cX4_lookAtRoot 15 = .ok (.return_, 1) := by decide +kernel
theorem dX4_lookAtRootOrNone_0 : decode cX4_lookAtRootOrNone 0 = .ok (.iload_n 0, 1) := by decide +kernel
theorem dX4_lookAtRootOrNone_1 : decode cX4_lookAtRootOrNone 1 = .ok (.iconst (-1), 1) := by decide +kernel
theorem dX4_lookAtRootOrNone_2 : decode cX4_lookAtRootOrNone 2 = .ok (.if_icmp .eq 7, 3) := by decide +kernel
theorem dX4_lookAtRootOrNone_5 : decode cX4_lookAtRootOrNone 5 = .ok (.iload_n 0, 1) := by decide +kernel
theorem dX4_lookAtRootOrNone_6 : decode cX4_lookAtRootOrNone 6 = .ok (.invokestatic 31, 3) := by decide +kernel
theorem dX4_lookAtRootOrNone_9 : decode cX4_lookAtRootOrNone 9 = .ok (.return_, 1) := by decide +kernel
theorem dX4_lookAtWeakPlace_0 : decode cX4_lookAtWeakPlace 0 = .ok (.iload_n 0, 1) := by decide +kernel
theorem dX4_lookAtWeakPlace_1 : decode cX4_lookAtWeakPlace 1 = .ok (.ifCond .lt 9, 3) := by decide +kernel
theorem dX4_lookAtWeakPlace_4 : decode cX4_lookAtWeakPlace 4 = .ok (.iload_n 0, 1) := by decide +kernel
theorem dX4_lookAtWeakPlace_5 : decode cX4_lookAtWeakPlace 5 = .ok (.bipush 8, 2) := by decide +kernel
theorem dX4_lookAtWeakPlace_7 : decode cX4_lookAtWeakPlace 7 = .ok (.if_icmp .lt 11, 3) := by decide +kernel
theorem dX4_lookAtWeakPlace_10 : decode cX4_lookAtWeakPlace 10 = .ok (.new 132, 3) := by decide +kernel
theorem dX4_lookAtWeakPlace_13 : decode cX4_lookAtWeakPlace 13 = .ok (.dup, 1) := by decide +kernel
theorem dX4_lookAtWeakPlace_14 : decode cX4_lookAtWeakPlace 14 = .ok (.invokespecial 134, 3) := by decide +kernel
theorem dX4_lookAtWeakPlace_17 : decode cX4_lookAtWeakPlace 17 = .ok (.athrow, 1) := by decide +kernel
theorem dX4_lookAtWeakPlace_18 : decode cX4_lookAtWeakPlace 18 = .ok (.return_, 1) := by decide +kernel
theorem dX4_objectOf_0 : decode cX4_objectOf 0 = .ok (.aload_n 0, 1) := by decide +kernel
theorem dX4_objectOf_1 : decode cX4_objectOf 1 = .ok (.getfield 18, 3) := by decide +kernel
theorem dX4_objectOf_4 : decode cX4_objectOf 4 = .ok (.getfield 42, 3) := by decide +kernel
theorem dX4_objectOf_7 : decode cX4_objectOf 7 = .ok (.getfield 46, 3) := by decide +kernel
theorem dX4_objectOf_10 : decode cX4_objectOf 10 = .ok (.iload_n 1, 1) := by decide +kernel
theorem dX4_objectOf_11 : decode cX4_objectOf 11 = .ok (.iaload, 1) := by decide +kernel
theorem dX4_objectOf_12 : decode cX4_objectOf 12 = .ok (.istore_n 2, 1) := by decide +kernel
theorem dX4_objectOf_13 : decode cX4_objectOf 13 = .ok (.iload_n 2, 1) := by decide +kernel
theorem dX4_objectOf_14 : decode cX4_objectOf 14 = .ok (.ifCond .ne 11, 3) := by decide +kernel
theorem dX4_objectOf_17 : decode cX4_objectOf 17 = .ok (.new 81, 3) := by decide +kernel
theorem dX4_objectOf_20 : decode cX4_objectOf 20 = .ok (.dup, 1) := by decide +kernel
theorem dX4_objectOf_21 : decode cX4_objectOf 21 = .ok (.invokespecial 83, 3) := by decide +kernel
theorem dX4_objectOf_24 : decode cX4_objectOf 24 = .ok (.athrow, 1) := by decide +kernel
theorem dX4_objectOf_25 : decode cX4_objectOf 25 = .ok (.iload_n 2, 1) := by decide +kernel
theorem dX4_objectOf_26 : decode cX4_objectOf 26 = .ok (.ireturn, 1) := by decide +kernel
theorem dX4_lookAtField_0 : decode cX4_lookAtField 0 = .ok (.aload_n 0, 1) := by decide +kernel
theorem dX4_lookAtField_1 : decode cX4_lookAtField 1 = .ok (.getfield 18, 3) := by decide +kernel
theorem dX4_lookAtField_4 : decode cX4_lookAtField 4 = .ok (.iload_n 1, 1) := by decide +kernel
theorem dX4_lookAtField_5 : decode cX4_lookAtField 5 = .ok (.iload_n 2, 1) := by decide +kernel
theorem dX4_lookAtField_6 : decode cX4_lookAtField 6 = .ok (.invokevirtual 181, 3) := by decide +kernel
theorem dX4_lookAtField_9 : decode cX4_lookAtField 9 = .ok (.ifCond .ne 11, 3) := by decide +kernel
theorem dX4_lookAtField_12 : decode cX4_lookAtField 12 = .ok (.new 132, 3) := by decide +kernel
theorem dX4_lookAtField_15 : decode cX4_lookAtField 15 = .ok (.dup, 1) := by decide +kernel
theorem dX4_lookAtField_16 : decode cX4_lookAtField 16 = .ok (.invokespecial 134, 3) := by decide +kernel
theorem dX4_lookAtField_19 : decode cX4_lookAtField 19 = .ok (.athrow, 1) := by decide +kernel
theorem dX4_lookAtField_20 : decode cX4_lookAtField 20 = .ok (.return_, 1) := by decide +kernel
end
section
theorem dX5_near_0 : decode cX5_near 0 = .ok (.iload_n 0, 1) := by decide +kernel
theorem dX5_near_1 : decode cX5_near 1 = .ok (.iload_n 1, 1) := by decide +kernel
theorem dX5_near_2 : decode cX5_near 2 = .ok (.if_icmp .ge 7, 3) := by decide +kernel
theorem dX5_near_5 : decode cX5_near 5 = .ok (.iload_n 1, 1) := by decide +kernel
theorem dX5_near_6 : decode cX5_near 6 = .ok (.goto 13, 3) := by decide +kernel
theorem dX5_near_9 : decode cX5_near 9 = .ok (.iload_n 0, 1) := by decide +kernel
theorem dX5_near_10 : decode cX5_near 10 = .ok (.iload_n 2, 1) := by decide +kernel
theorem dX5_near_11 : decode cX5_near 11 = .ok (.if_icmp .le 7, 3) := by decide +kernel
theorem dX5_near_14 : decode cX5_near 14 = .ok (.iload_n 2, 1) := by decide +kernel
theorem dX5_near_15 : decode cX5_near 15 = .ok (.goto 4, 3) := by decide +kernel
theorem dX5_near_18 : decode cX5_near 18 = .ok (.iload_n 0, 1) := by decide +kernel
theorem dX5_near_19 : decode cX5_near 19 = .ok (.ireturn, 1) := by decide +kernel
theorem dX5_init_0 : decode cX5_init 0 = .ok (.aload_n 0, 1) := by decide +kernel
theorem dX5_init_1 : decode cX5_init 1 = .ok (.invokespecial 1, 3) := by decide +kernel
theorem dX5_init_4 : decode cX5_init 4 = .ok (.aload_n 0, 1) := by decide +kernel
theorem dX5_init_5 : decode cX5_init 5 = .ok (.sipush 1793, 3) := by decide +kernel
theorem dX5_init_8 : decode cX5_init 8 = .ok (.newarray .int, 2) := by decide +kernel
theorem dX5_init_10 : decode cX5_init 10 = .ok (.putfield 7, 3) := by decide +kernel
theorem dX5_init_13 : decode cX5_init 13 = .ok (.aload_n 0, 1) := by decide +kernel
theorem dX5_init_14 : decode cX5_init 14 = .ok (.sipush 1793, 3) := by decide +kernel
theorem dX5_init_17 : decode cX5_init 17 = .ok (.newarray .int, 2) := by decide +kernel
theorem dX5_init_19 : decode cX5_init 19 = .ok (.putfield 13, 3) := by decide +kernel
theorem dX5_init_22 : decode cX5_init 22 = .ok (.aload_n 0, 1) := by decide +kernel
theorem dX5_init_23 : decode cX5_init 23 = .ok (.iconst 2, 1) := by decide +kernel
theorem dX5_init_24 : decode cX5_init 24 = .ok (.newarray .int, 2) := by decide +kernel
theorem dX5_init_26 : decode cX5_init 26 = .ok (.putfield 16, 3) := by decide +kernel
theorem dX5_init_29 : decode cX5_init 29 = .ok (.aload_n 0, 1) := by decide +kernel
theorem dX5_init_30 : decode cX5_init 30 = .ok (.iconst 3, 1) := by decide +kernel
theorem dX5_init_31 : decode cX5_init 31 = .ok (.newarray .int, 2) := by decide +kernel
theorem dX5_init_33 : decode cX5_init 33 = .ok (.putfield 19, 3) := by decide +kernel
theorem dX5_init_36 : decode cX5_init 36 = .ok (.aload_n 0, 1) := by decide +kernel
theorem dX5_init_37 : decode cX5_init 37 = .ok (.iconst 3, 1) := by decide +kernel
theorem dX5_init_38 : decode cX5_init 38 = .ok (.newarray .int, 2) := by decide +kernel
theorem dX5_init_40 : decode cX5_init 40 = .ok (.putfield 22, 3) := by decide +kernel
theorem dX5_init_43 : decode cX5_init 43 = .ok (.aload_n 0, 1) := by decide +kernel
theorem dX5_init_44 : decode cX5_init 44 = .ok (.bipush 16, 2) := by decide +kernel
theorem dX5_init_46 : decode cX5_init 46 = .ok (.newarray .int, 2) := by decide +kernel
theorem dX5_init_48 : decode cX5_init 48 = .ok (.putfield 25, 3) := by decide +kernel
theorem dX5_init_51 : decode cX5_init 51 = .ok (.aload_n 0, 1) := by decide +kernel
theorem dX5_init_52 : decode cX5_init 52 = .ok (.bipush 40, 2) := by decide +kernel
theorem dX5_init_54 : decode cX5_init 54 = .ok (.newarray .int, 2) := by decide +kernel
theorem dX5_init_56 : decode cX5_init 56 = .ok (.putfield 28, 3) := by decide +kernel
theorem dX5_init_59 : decode cX5_init 59 = .ok (.aload_n 0, 1) := by decide +kernel
theorem dX5_init_60 : decode cX5_init 60 = .ok (.bipush 8, 2) := by decide +kernel
theorem dX5_init_62 : decode cX5_init 62 = .ok (.newarray .int, 2) := by decide +kernel
theorem dX5_init_64 : decode cX5_init 64 = .ok (.putfield 31, 3) := by decide +kernel
theorem dX5_init_67 : decode cX5_init 67 = .ok (.aload_n 0, 1) := by decide +kernel
theorem dX5_init_68 : decode cX5_init 68 = .ok (.sipush 460, 3) := by decide +kernel
theorem dX5_init_71 : decode cX5_init 71 = .ok (.newarray .int, 2) := by decide +kernel
theorem dX5_init_73 : decode cX5_init 73 = .ok (.putfield 34, 3) := by decide +kernel
theorem dX5_init_76 : decode cX5_init 76 = .ok (.aload_n 0, 1) := by decide +kernel
theorem dX5_init_77 : decode cX5_init 77 = .ok (.sipush 460, 3) := by decide +kernel
theorem dX5_init_80 : decode cX5_init 80 = .ok (.newarray .int, 2) := by decide +kernel
theorem dX5_init_82 : decode cX5_init 82 = .ok (.putfield 37, 3) := by decide +kernel
theorem dX5_init_85 : decode cX5_init 85 = .ok (.aload_n 0, 1) := by decide +kernel
theorem dX5_init_86 : decode cX5_init 86 = .ok (.bipush 64, 2) := by decide +kernel
theorem dX5_init_88 : decode cX5_init 88 = .ok (.newarray .int, 2) := by decide +kernel
theorem dX5_init_90 : decode cX5_init 90 = .ok (.putfield 40, 3) := by decide +kernel
theorem dX5_init_93 : decode cX5_init 93 = .ok (.aload_n 0, 1) := by decide +kernel
theorem dX5_init_94 : decode cX5_init 94 = .ok (.iconst 2, 1) := by decide +kernel
theorem dX5_init_95 : decode cX5_init 95 = .ok (.newarray .int, 2) := by decide +kernel
theorem dX5_init_97 : decode cX5_init 97 = .ok (.putfield 43, 3) := by decide +kernel
theorem dX5_init_100 : decode cX5_init 100 = .ok (.aload_n 0, 1) := by decide +kernel
theorem dX5_init_101 : decode cX5_init 101 = .ok (.sipush 2000, 3) := by decide +kernel
theorem dX5_init_104 : decode cX5_init 104 = .ok (.newarray .int, 2) := by decide +kernel
theorem dX5_init_106 : decode cX5_init 106 = .ok (.putfield 46, 3) := by decide +kernel
theorem dX5_init_109 : decode cX5_init 109 = .ok (.aload_n 0, 1) := by decide +kernel
theorem dX5_init_110 : decode cX5_init 110 = .ok (.iconst 2, 1) := by decide +kernel
theorem dX5_init_111 : decode cX5_init 111 = .ok (.newarray .int, 2) := by decide +kernel
theorem dX5_init_113 : decode cX5_init 113 = .ok (.putfield 49, 3) := by decide +kernel
theorem dX5_init_116 : decode cX5_init 116 = .ok (.aload_n 0, 1) := by decide +kernel
theorem dX5_init_117 : decode cX5_init 117 = .ok (.sipush 2000, 3) := by decide +kernel
theorem dX5_init_120 : decode cX5_init 120 = .ok (.newarray .int, 2) := by decide +kernel
theorem dX5_init_122 : decode cX5_init 122 = .ok (.putfield 52, 3) := by decide +kernel
theorem dX5_init_125 : decode cX5_init 125 = .ok (.aload_n 0, 1) := by decide +kernel
theorem dX5_init_126 : decode cX5_init 126 = .ok (.iconst 3, 1) := by decide +kernel
theorem dX5_init_127 : decode cX5_init 127 = .ok (.newarray .int, 2) := by decide +kernel
theorem dX5_init_129 : decode cX5_init 129 = .ok (.putfield 55, 3) := by decide +kernel
theorem dX5_init_132 : decode cX5_init 132 = .ok (.aload_n 0, 1) := by decide +kernel
theorem dX5_init_133 : decode cX5_init 133 = .ok (.bipush 8, 2) := by decide +kernel
theorem dX5_init_135 : decode cX5_init 135 = .ok (.newarray .int, 2) := by decide +kernel
theorem dX5_init_137 : decode cX5_init 137 = .ok (.putfield 58, 3) := by decide +kernel
theorem dX5_init_140 : decode cX5_init 140 = .ok (.aload_n 0, 1) := by decide +kernel
theorem dX5_init_141 : decode cX5_init 141 = .ok (.sipush 256, 3) := by decide +kernel
theorem dX5_init_144 : decode cX5_init 144 = .ok (.newarray .int, 2) := by decide +kernel
theorem dX5_init_146 : decode cX5_init 146 = .ok (.putfield 61, 3) := by decide +kernel
theorem dX5_init_149 : decode cX5_init 149 = .ok (.aload_n 0, 1) := by decide +kernel
theorem dX5_init_150 : decode cX5_init 150 = .ok (.iconst 3, 1) := by decide +kernel
theorem dX5_init_151 : decode cX5_init 151 = .ok (.newarray .int, 2) := by decide +kernel
theorem dX5_init_153 : decode cX5_init 153 = .ok (.putfield 64, 3) := by decide +kernel
theorem dX5_init_156 : decode cX5_init 156 = .ok (.aload_n 0, 1) := by decide +kernel
theorem dX5_init_157 : decode cX5_init 157 = .ok (.iconst 3, 1) := by decide +kernel
theorem dX5_init_158 : decode cX5_init 158 = .ok (.newarray .int, 2) := by decide +kernel
theorem dX5_init_160 : decode cX5_init 160 = .ok (.putfield 67, 3) := by decide +kernel
theorem dX5_init_163 : decode cX5_init 163 = .ok (.aload_n 0, 1) := by decide +kernel
theorem dX5_init_164 : decode cX5_init 164 = .ok (.iconst 3, 1) := by decide +kernel
theorem dX5_init_165 : decode cX5_init 165 = .ok (.newarray .int, 2) := by decide +kernel
theorem dX5_init_167 : decode cX5_init 167 = .ok (.putfield 70, 3) := by decide +kernel
theorem dX5_init_170 : decode cX5_init 170 = .ok (.aload_n 0, 1) := by decide +kernel
theorem dX5_init_171 : decode cX5_init 171 = .ok (.iconst 3, 1) := by decide +kernel
theorem dX5_init_172 : decode cX5_init 172 = .ok (.newarray .int, 2) := by decide +kernel
theorem dX5_init_174 : decode cX5_init 174 = .ok (.putfield 73, 3) := by decide +kernel
theorem dX5_init_177 : decode cX5_init 177 = .ok (.aload_n 0, 1) := by decide +kernel
theorem dX5_init_178 : decode cX5_init 178 = .ok (.iload_n 1, 1) := by decide +kernel
theorem dX5_init_179 : decode cX5_init 179 = .ok (.bipush 16, 2) := by decide +kernel
theorem dX5_init_181 : decode cX5_init 181 = .ok (.sipush 128, 3) := by decide +kernel
theorem dX5_init_184 : decode cX5_init 184 = .ok (.invokestatic 76, 3) := by decide +kernel
theorem dX5_init_187 : decode cX5_init 187 = .ok (.putfield 80, 3) := by decide +kernel
theorem dX5_init_190 : decode cX5_init 190 = .ok (.aload_n 0, 1) := by decide +kernel
theorem dX5_init_191 : decode cX5_init 191 = .ok (.getfield 16, 3) := by decide +kernel
theorem dX5_init_194 : decode cX5_init 194 = .ok (.iconst 0, 1) := by decide +kernel
theorem dX5_init_195 : decode cX5_init 195 = .ok (.iload_n 2, 1) := by decide +kernel
theorem dX5_init_196 : decode cX5_init 196 = .ok (.iconst 0, 1) := by decide +kernel
theorem dX5_init_197 : decode cX5_init 197 = .ok (.bipush 6, 2) := by decide +kernel
theorem dX5_init_199 : decode cX5_init 199 = .ok (.invokestatic 76, 3) := by decide +kernel
theorem dX5_init_202 : decode cX5_init 202 = .ok (.iastore, 1) := by decide +kernel
theorem dX5_init_203 : decode cX5_init 203 = .ok (.aload_n 0, 1) := by decide +kernel
theorem dX5_init_204 : decode cX5_init 204 = .ok (.getfield 16, 3) := by decide +kernel
theorem dX5_init_207 : decode cX5_init 207 = .ok (.iconst 1, 1) := by decide +kernel
theorem dX5_init_208 : decode cX5_init 208 = .ok (.iload_n 3, 1) := by decide +kernel
theorem dX5_init_209 : decode cX5_init 209 = .ok (.iconst 0, 1) := by decide +kernel
theorem dX5_init_210 : decode cX5_init 210 = .ok (.bipush 6, 2) := by decide +kernel
theorem dX5_init_212 : decode cX5_init 212 = .ok (.invokestatic 76, 3) := by decide +kernel
theorem dX5_init_215 : decode cX5_init 215 = .ok (.iastore, 1) := by decide +kernel
theorem dX5_init_216 : decode cX5_init 216 = .ok (.aload_n 0, 1) := by decide +kernel
theorem dX5_init_217 : decode cX5_init 217 = .ok (.iload 4, 2) := by decide +kernel
theorem dX5_init_219 : decode cX5_init 219 = .ok (.iconst 2, 1) := by decide +kernel
theorem dX5_init_220 : decode cX5_init 220 = .ok (.bipush 64, 2) := by decide +kernel
theorem dX5_init_222 : decode cX5_init 222 = .ok (.invokestatic 76, 3) := by decide +kernel
theorem dX5_init_225 : decode cX5_init 225 = .ok (.putfield 84, 3) := by decide +kernel
theorem dX5_init_228 : decode cX5_init 228 = .ok (.return_, 1) := by decide +kernel
theorem dX5_thrown_0 : decode cX5_thrown 0 = .ok (.aload_n 0, 1) := by decide +kernel
theorem dX5_thrown_1 : decode cX5_thrown 1 = .ok (.getfield 87, 3) := by decide +kernel
theorem dX5_thrown_4 : decode cX5_thrown 4 = .ok (.ireturn, 1) := by decide +kernel
theorem dX5_in_0 : decode cX5_in 0 = .ok (.iload_n 0, 1) := by decide +kernel
theorem dX5_in_1 : decode cX5_in 1 = .ok (.iload_n 1, 1) := by decide +kernel
theorem dX5_in_2 : decode cX5_in 2 = .ok (.if_icmp .lt 12, 3) := by decide +kernel
theorem dX5_in_5 : decode cX5_in 5 = .ok (.iload_n 0, 1) := by decide +kernel
theorem dX5_in_6 : decode cX5_in 6 = .ok (.iload_n 2, 1) := by decide +kernel
theorem dX5_in_7 : decode cX5_in 7 = .ok (.if_icmp .gt 7, 3) := by decide +kernel
theorem dX5_in_10 : decode cX5_in 10 = .ok (.iconst 1, 1) := by decide +kernel
theorem dX5_in_11 : decode cX5_in 11 = .ok (.goto 4, 3) := by decide +kernel
theorem dX5_in_14 : decode cX5_in 14 = .ok (.iconst 0, 1) := by decide +kernel
theorem dX5_in_15 : decode cX5_in 15 = .ok (.ireturn, 1) := by decide +kernel
theorem dX5_isRoot_0 : decode cX5_isRoot 0 = .ok (.iload_n 0, 1) := by decide +kernel
theorem dX5_isRoot_1 : decode cX5_isRoot 1 = .ok (.iconst 0, 1) := by decide +kernel
theorem dX5_isRoot_2 : decode cX5_isRoot 2 = .ok (.bipush 15, 2) := by decide +kernel
theorem dX5_isRoot_4 : decode cX5_isRoot 4 = .ok (.invokestatic 90, 3) := by decide +kernel
theorem dX5_isRoot_7 : decode cX5_isRoot 7 = .ok (.ireturn, 1) := by decide +kernel
theorem dX5_size_0 : decode cX5_size 0 = .ok (.aload_n 0, 1) := by decide +kernel
theorem dX5_size_1 : decode cX5_size 1 = .ok (.getfield 80, 3) := by decide +kernel
theorem dX5_size_4 : decode cX5_size 4 = .ok (.iload_n 1, 1) := by decide +kernel
theorem dX5_size_5 : decode cX5_size 5 = .ok (.ishl, 1) := by decide +kernel
theorem dX5_size_6 : decode cX5_size 6 = .ok (.ireturn, 1) := by decide +kernel
theorem dX5_begin_0 : decode cX5_begin 0 = .ok (.iconst 1, 1) := by decide +kernel
theorem dX5_begin_1 : decode cX5_begin 1 = .ok (.aload_n 0, 1) := by decide +kernel
theorem dX5_begin_2 : decode cX5_begin 2 = .ok (.getfield 80, 3) := by decide +kernel
theorem dX5_begin_5 : decode cX5_begin 5 = .ok (.iload_n 1, 1) := by decide +kernel
theorem dX5_begin_6 : decode cX5_begin 6 = .ok (.ifCond .ne 7, 3) := by decide +kernel
theorem dX5_begin_9 : decode cX5_begin 9 = .ok (.iconst 0, 1) := by decide +kernel
theorem dX5_begin_10 : decode cX5_begin 10 = .ok (.goto 14, 3) := by decide +kernel
theorem dX5_begin_13 : decode cX5_begin 13 = .ok (.iload_n 1, 1) := by decide +kernel
theorem dX5_begin_14 : decode cX5_begin 14 = .ok (.iconst 1, 1) := by decide +kernel
theorem dX5_begin_15 : decode cX5_begin 15 = .ok (.if_icmp .ne 7, 3) := by decide +kernel
theorem dX5_begin_18 : decode cX5_begin 18 = .ok (.iconst 2, 1) := by decide +kernel
theorem dX5_begin_19 : decode cX5_begin 19 = .ok (.goto 5, 3) := by decide +kernel
theorem dX5_begin_22 : decode cX5_begin 22 = .ok (.bipush 6, 2) := by decide +kernel
theorem dX5_begin_24 : decode cX5_begin 24 = .ok (.imul, 1) := by decide +kernel
theorem dX5_begin_25 : decode cX5_begin 25 = .ok (.iadd, 1) := by decide +kernel
theorem dX5_begin_26 : decode cX5_begin 26 = .ok (.iload_n 2, 1) := by decide +kernel
theorem dX5_begin_27 : decode cX5_begin 27 = .ok (.aload_n 0, 1) := by decide +kernel
theorem dX5_begin_28 : decode cX5_begin 28 = .ok (.iload_n 1, 1) := by decide +kernel
theorem dX5_begin_29 : decode cX5_begin 29 = .ok (.invokevirtual 94, 3) := by decide +kernel
theorem dX5_begin_32 : decode cX5_begin 32 = .ok (.imul, 1) := by decide +kernel
theorem dX5_begin_33 : decode cX5_begin 33 = .ok (.iadd, 1) := by decide +kernel
theorem dX5_begin_34 : decode cX5_begin 34 = .ok (.ireturn, 1) := by decide +kernel
theorem dX5_generation_0 : decode cX5_generation 0 = .ok (.iload_n 1, 1) := by decide +kernel
theorem dX5_generation_1 : decode cX5_generation 1 = .ok (.iconst 2, 1) := by decide +kernel
theorem dX5_generation_2 : decode cX5_generation 2 = .ok (.aload_n 0, 1) := by decide +kernel
theorem dX5_generation_3 : decode cX5_generation 3 = .ok (.getfield 80, 3) := by decide +kernel
theorem dX5_generation_6 : decode cX5_generation 6 = .ok (.imul, 1) := by decide +kernel
theorem dX5_generation_7 : decode cX5_generation 7 = .ok (.if_icmp .gt 7, 3) := by decide +kernel
theorem dX5_generation_10 : decode cX5_generation 10 = .ok (.iconst 0, 1) := by decide +kernel
theorem dX5_generation_11 : decode cX5_generation 11 = .ok (.goto 19, 3) := by decide +kernel
theorem dX5_generation_14 : decode cX5_generation 14 = .ok (.iload_n 1, 1) := by decide +kernel
theorem dX5_generation_15 : decode cX5_generation 15 = .ok (.bipush 6, 2) := by decide +kernel
theorem dX5_generation_17 : decode cX5_generation 17 = .ok (.aload_n 0, 1) := by decide +kernel
theorem dX5_generation_18 : decode cX5_generation 18 = .ok (.getfield 80, 3) := by decide +kernel
theorem dX5_generation_21 : decode cX5_generation 21 = .ok (.imul, 1) := by decide +kernel
theorem dX5_generation_22 : decode cX5_generation 22 = .ok (.if_icmp .gt 7, 3) := by decide +kernel
theorem dX5_generation_25 : decode cX5_generation 25 = .ok (.iconst 1, 1) := by decide +kernel
theorem dX5_generation_26 : decode cX5_generation 26 = .ok (.goto 4, 3) := by decide +kernel
theorem dX5_generation_29 : decode cX5_generation 29 = .ok (.iconst 2, 1) := by decide +kernel
theorem dX5_generation_30 : decode cX5_generation 30 = .ok (.ireturn, 1) := by decide +kernel
theorem dX5_fields_0 : decode cX5_fields 0 = .ok (.aload_n 0, 1) := by decide +kernel
theorem dX5_fields_1 : decode cX5_fields 1 = .ok (.getfield 7, 3) := by decide +kernel
theorem dX5_fields_4 : decode cX5_fields 4 = .ok (.iload_n 1, 1) := by decide +kernel
theorem dX5_fields_5 : decode cX5_fields 5 = .ok (.iaload, 1) := by decide +kernel
theorem dX5_fields_6 : decode cX5_fields 6 = .ok (.bipush 7, 2) := by decide +kernel
theorem dX5_fields_8 : decode cX5_fields 8 = .ok (.iand, 1) := by decide +kernel
theorem dX5_fields_9 : decode cX5_fields 9 = .ok (.ireturn, 1) := by decide +kernel
theorem dX5_age_0 : decode cX5_age 0 = .ok (.aload_n 0, 1) := by decide +kernel
theorem dX5_age_1 : decode cX5_age 1 = .ok (.getfield 7, 3) := by decide +kernel
theorem dX5_age_4 : decode cX5_age 4 = .ok (.iload_n 1, 1) := by decide +kernel
theorem dX5_age_5 : decode cX5_age 5 = .ok (.iaload, 1) := by decide +kernel
theorem dX5_age_6 : decode cX5_age 6 = .ok (.iconst 3, 1) := by decide +kernel
theorem dX5_age_7 : decode cX5_age 7 = .ok (.ishr, 1) := by decide +kernel
theorem dX5_age_8 : decode cX5_age 8 = .ok (.bipush 7, 2) := by decide +kernel
theorem dX5_age_10 : decode cX5_age 10 = .ok (.iand, 1) := by decide +kernel
theorem dX5_age_11 : decode cX5_age 11 = .ok (.ireturn, 1) := by decide +kernel
theorem dX5_isKeen_0 : decode cX5_isKeen 0 = .ok (.aload_n 0, 1) := by decide +kernel
theorem dX5_isKeen_1 : decode cX5_isKeen 1 = .ok (.getfield 7, 3) := by decide +kernel
theorem dX5_isKeen_4 : decode cX5_isKeen 4 = .ok (.iload_n 1, 1) := by decide +kernel
theorem dX5_isKeen_5 : decode cX5_isKeen 5 = .ok (.iaload, 1) := by decide +kernel
theorem dX5_isKeen_6 : decode cX5_isKeen 6 = .ok (.bipush 64, 2) := by decide +kernel
theorem dX5_isKeen_8 : decode cX5_isKeen 8 = .ok (.iand, 1) := by decide +kernel
theorem dX5_isKeen_9 : decode cX5_isKeen 9 = .ok (.ifCond .le 7, 3) := by decide +kernel
theorem dX5_isKeen_12 : decode cX5_isKeen 12 = .ok (.iconst 1, 1) := by decide +kernel
theorem dX5_isKeen_13 : decode cX5_isKeen 13 = .ok (.goto 4, 3) := by decide +kernel
theorem dX5_isKeen_16 : decode cX5_isKeen 16 = .ok (.iconst 0, 1) := by decide +kernel
theorem dX5_isKeen_17 : decode cX5_isKeen 17 = .ok (.ireturn, 1) := by decide +kernel
theorem dX5_remember_0 : decode cX5_remember 0 = .ok (.iconst 0, 1) := by decide +kernel
theorem dX5_remember_1 : decode cX5_remember 1 = .ok (.istore_n 3, 1) := by decide +kernel
theorem dX5_remember_2 : decode cX5_remember 2 = .ok (.iload_n 3, 1) := by decide +kernel
theorem dX5_remember_3 : decode cX5_remember 3 = .ok (.aload_n 0, 1) := by decide +kernel
theorem dX5_remember_4 : decode cX5_remember 4 = .ok (.getfield 43, 3) := by decide +kernel
theorem dX5_remember_7 : decode cX5_remember 7 = .ok (.iload_n 1, 1) := by decide +kernel
theorem dX5_remember_8 : decode cX5_remember 8 = .ok (.iaload, 1) := by decide +kernel
theorem dX5_remember_9 : decode cX5_remember 9 = .ok (.if_icmp .ge 26, 3) := by decide +kernel
theorem dX5_remember_12 : decode cX5_remember 12 = .ok (.aload_n 0, 1) := by decide +kernel
theorem dX5_remember_13 : decode cX5_remember 13 = .ok (.getfield 46, 3) := by decide +kernel
theorem dX5_remember_16 : decode cX5_remember 16 = .ok (.sipush 1000, 3) := by decide +kernel
theorem dX5_remember_19 : decode cX5_remember 19 = .ok (.iload_n 1, 1) := by decide +kernel
theorem dX5_remember_20 : decode cX5_remember 20 = .ok (.imul, 1) := by decide +kernel
theorem dX5_remember_21 : decode cX5_remember 21 = .ok (.iload_n 3, 1) := by decide +kernel
theorem dX5_remember_22 : decode cX5_remember 22 = .ok (.iadd, 1) := by decide +kernel
theorem dX5_remember_23 : decode cX5_remember 23 = .ok (.iaload, 1) := by decide +kernel
theorem dX5_remember_24 : decode cX5_remember 24 = .ok (.iload_n 2, 1) := by decide +kernel
theorem dX5_remember_25 : decode cX5_remember 25 = .ok (.if_icmp .ne 4, 3) := by decide +kernel
theorem dX5_remember_28 : decode cX5_remember 28 = .ok (.return_, 1) := by decide +kernel
theorem dX5_remember_29 : decode cX5_remember 29 = .ok (.iinc 3 1, 3) := by decide +kernel
theorem dX5_remember_32 : decode cX5_remember 32 = .ok (.goto (-30), 3) := by decide +kernel
theorem dX5_remember_35 : decode cX5_remember 35 = .ok (.aload_n 0, 1) := by decide +kernel
theorem dX5_remember_36 : decode cX5_remember 36 = .ok (.getfield 46, 3) := by decide +kernel
theorem dX5_remember_39 : decode cX5_remember 39 = .ok (.sipush 1000, 3) := by decide +kernel
theorem dX5_remember_42 : decode cX5_remember 42 = .ok (.iload_n 1, 1) := by decide +kernel
theorem dX5_remember_43 : decode cX5_remember 43 = .ok (.imul, 1) := by decide +kernel
theorem dX5_remember_44 : decode cX5_remember 44 = .ok (.aload_n 0, 1) := by decide +kernel
theorem dX5_remember_45 : decode cX5_remember 45 = .ok (.getfield 43, 3) := by decide +kernel
theorem dX5_remember_48 : decode cX5_remember 48 = .ok (.iload_n 1, 1) := by decide +kernel
theorem dX5_remember_49 : decode cX5_remember 49 = .ok (.iaload, 1) := by decide +kernel
theorem dX5_remember_50 : decode cX5_remember 50 = .ok (.iadd, 1) := by decide +kernel
theorem dX5_remember_51 : decode cX5_remember 51 = .ok (.iload_n 2, 1) := by decide +kernel
theorem dX5_remember_52 : decode cX5_remember 52 = .ok (.iastore, 1) := by decide +kernel
theorem dX5_remember_53 : decode cX5_remember 53 = .ok (.aload_n 0, 1) := by decide +kernel
theorem dX5_remember_54 : decode cX5_remember 54 = .ok (.getfield 43, 3) := by decide +kernel
theorem dX5_remember_57 : decode cX5_remember 57 = .ok (.iload_n 1, 1) := by decide +kernel
theorem dX5_remember_58 : decode cX5_remember 58 = .ok (.dup2, 1) := by decide +kernel
theorem dX5_remember_59 : decode cX5_remember 59 = .ok (.iaload, 1) := by decide +kernel
theorem dX5_remember_60 : decode cX5_remember 60 = .ok (.iconst 1, 1) := by decide +kernel
theorem dX5_remember_61 : decode cX5_remember 61 = .ok (.iadd, 1) := by decide +kernel
theorem dX5_remember_62 : decode cX5_remember 62 = .ok (.iastore, 1) := by decide +kernel
theorem dX5_remember_63 : decode cX5_remember 63 = .ok (.return_, 1) := by decide +kernel
theorem dX5_rememberIf_0 : decode cX5_rememberIf 0 = .ok (.aload_n 0, 1) := by decide +kernel
theorem dX5_rememberIf_1 : decode cX5_rememberIf 1 = .ok (.getfield 7, 3) := by decide +kernel
theorem dX5_rememberIf_4 : decode cX5_rememberIf 4 = .ok (.iload_n 1, 1) := by decide +kernel
theorem dX5_rememberIf_5 : decode cX5_rememberIf 5 = .ok (.iaload, 1) := by decide +kernel
theorem dX5_rememberIf_6 : decode cX5_rememberIf 6 = .ok (.istore_n 2, 1) := by decide +kernel
theorem dX5_rememberIf_7 : decode cX5_rememberIf 7 = .ok (.iload_n 2, 1) := by decide +kernel
theorem dX5_rememberIf_8 : decode cX5_rememberIf 8 = .ok (.ifCond .eq 26, 3) := by decide +kernel
theorem dX5_rememberIf_11 : decode cX5_rememberIf 11 = .ok (.aload_n 0, 1) := by decide +kernel
theorem dX5_rememberIf_12 : decode cX5_rememberIf 12 = .ok (.iload_n 2, 1) := by decide +kernel
theorem dX5_rememberIf_13 : decode cX5_rememberIf 13 = .ok (.invokevirtual 98, 3) := by decide +kernel
theorem dX5_rememberIf_16 : decode cX5_rememberIf 16 = .ok (.aload_n 0, 1) := by decide +kernel
theorem dX5_rememberIf_17 : decode cX5_rememberIf 17 = .ok (.iload_n 1, 1) := by decide +kernel
theorem dX5_rememberIf_18 : decode cX5_rememberIf 18 = .ok (.invokevirtual 98, 3) := by decide +kernel
theorem dX5_rememberIf_21 : decode cX5_rememberIf 21 = .ok (.if_icmp .ge 13, 3) := by decide +kernel
theorem dX5_rememberIf_24 : decode cX5_rememberIf 24 = .ok (.aload_n 0, 1) := by decide +kernel
theorem dX5_rememberIf_25 : decode cX5_rememberIf 25 = .ok (.aload_n 0, 1) := by decide +kernel
theorem dX5_rememberIf_26 : decode cX5_rememberIf 26 = .ok (.iload_n 2, 1) := by decide +kernel
theorem dX5_rememberIf_27 : decode cX5_rememberIf 27 = .ok (.invokevirtual 98, 3) := by decide +kernel
theorem dX5_rememberIf_30 : decode cX5_rememberIf 30 = .ok (.iload_n 1, 1) := by decide +kernel
theorem dX5_rememberIf_31 : decode cX5_rememberIf 31 = .ok (.invokevirtual 101, 3) := by decide +kernel
theorem dX5_rememberIf_34 : decode cX5_rememberIf 34 = .ok (.return_, 1) := by decide +kernel
theorem dX5_filter_0 : decode cX5_filter 0 = .ok (.iconst 0, 1) := by decide +kernel
theorem dX5_filter_1 : decode cX5_filter 1 = .ok (.istore_n 1, 1) := by decide +kernel
theorem dX5_filter_2 : decode cX5_filter 2 = .ok (.iload_n 1, 1) := by decide +kernel
theorem dX5_filter_3 : decode cX5_filter 3 = .ok (.aload_n 0, 1) := by decide +kernel
theorem dX5_filter_4 : decode cX5_filter 4 = .ok (.getfield 105, 3) := by decide +kernel
theorem dX5_filter_7 : decode cX5_filter 7 = .ok (.if_icmp .ge 19, 3) := by decide +kernel
theorem dX5_filter_10 : decode cX5_filter 10 = .ok (.aload_n 0, 1) := by decide +kernel
theorem dX5_filter_11 : decode cX5_filter 11 = .ok (.aload_n 0, 1) := by decide +kernel
theorem dX5_filter_12 : decode cX5_filter 12 = .ok (.getfield 40, 3) := by decide +kernel
theorem dX5_filter_15 : decode cX5_filter 15 = .ok (.iload_n 1, 1) := by decide +kernel
theorem dX5_filter_16 : decode cX5_filter 16 = .ok (.iaload, 1) := by decide +kernel
theorem dX5_filter_17 : decode cX5_filter 17 = .ok (.invokevirtual 108, 3) := by decide +kernel
theorem dX5_filter_20 : decode cX5_filter 20 = .ok (.iinc 1 1, 3) := by decide +kernel
theorem dX5_filter_23 : decode cX5_filter 23 = .ok (.goto (-21), 3) := by decide +kernel
theorem dX5_filter_26 : decode cX5_filter 26 = .ok (.aload_n 0, 1) := by decide +kernel
theorem dX5_filter_27 : decode cX5_filter 27 = .ok (.iconst 0, 1) := by decide +kernel
theorem dX5_filter_28 : decode cX5_filter 28 = .ok (.putfield 105, 3) := by decide +kernel
theorem dX5_filter_31 : decode cX5_filter 31 = .ok (.return_, 1) := by decide +kernel
theorem dX5_store_0 : decode cX5_store 0 = .ok (.aload_n 0, 1) := by decide +kernel
theorem dX5_store_1 : decode cX5_store 1 = .ok (.getfield 7, 3) := by decide +kernel
theorem dX5_store_4 : decode cX5_store 4 = .ok (.iload_n 1, 1) := by decide +kernel
theorem dX5_store_5 : decode cX5_store 5 = .ok (.iload_n 2, 1) := by decide +kernel
theorem dX5_store_6 : decode cX5_store 6 = .ok (.iastore, 1) := by decide +kernel
theorem dX5_store_7 : decode cX5_store 7 = .ok (.iload_n 2, 1) := by decide +kernel
theorem dX5_store_8 : decode cX5_store 8 = .ok (.ifCond .ne 4, 3) := by decide +kernel
theorem dX5_store_11 : decode cX5_store 11 = .ok (.return_, 1) := by decide +kernel
theorem dX5_store_12 : decode cX5_store 12 = .ok (.aload_n 0, 1) := by decide +kernel
theorem dX5_store_13 : decode cX5_store 13 = .ok (.getfield 105, 3) := by decide +kernel
theorem dX5_store_16 : decode cX5_store 16 = .ok (.aload_n 0, 1) := by decide +kernel
theorem dX5_store_17 : decode cX5_store 17 = .ok (.getfield 84, 3) := by decide +kernel
theorem dX5_store_20 : decode cX5_store 20 = .ok (.if_icmp .ne 17, 3) := by decide +kernel
theorem dX5_store_23 : decode cX5_store 23 = .ok (.aload_n 0, 1) := by decide +kernel
theorem dX5_store_24 : decode cX5_store 24 = .ok (.dup, 1) := by decide +kernel
theorem dX5_store_25 : decode cX5_store 25 = .ok (.getfield 112, 3) := by decide +kernel
theorem dX5_store_28 : decode cX5_store 28 = .ok (.iconst 1, 1) := by decide +kernel
theorem dX5_store_29 : decode cX5_store 29 = .ok (.iadd, 1) := by decide +kernel
theorem dX5_store_30 : decode cX5_store 30 = .ok (.putfield 112, 3) := by decide +kernel
theorem dX5_store_33 : decode cX5_store 33 = .ok (.aload_n 0, 1) := by decide +kernel
theorem dX5_store_34 : decode cX5_store 34 = .ok (.invokevirtual 115, 3) := by decide +kernel
theorem dX5_store_37 : decode cX5_store 37 = .ok (.aload_n 0, 1) := by decide +kernel
theorem dX5_store_38 : decode cX5_store 38 = .ok (.getfield 40, 3) := by decide +kernel
theorem dX5_store_41 : decode cX5_store 41 = .ok (.aload_n 0, 1) := by decide +kernel
theorem dX5_store_42 : decode cX5_store 42 = .ok (.getfield 105, 3) := by decide +kernel
theorem dX5_store_45 : decode cX5_store 45 = .ok (.iload_n 1, 1) := by decide +kernel
theorem dX5_store_46 : decode cX5_store 46 = .ok (.iastore, 1) := by decide +kernel
theorem dX5_store_47 : decode cX5_store 47 = .ok (.aload_n 0, 1) := by decide +kernel
theorem dX5_store_48 : decode cX5_store 48 = .ok (.dup, 1) := by decide +kernel
theorem dX5_store_49 : decode cX5_store 49 = .ok (.getfield 105, 3) := by decide +kernel
theorem dX5_store_52 : decode cX5_store 52 = .ok (.iconst 1, 1) := by decide +kernel
theorem dX5_store_53 : decode cX5_store 53 = .ok (.iadd, 1) := by decide +kernel
theorem dX5_store_54 : decode cX5_store 54 = .ok (.putfield 105, 3) := by decide +kernel
theorem dX5_store_57 : decode cX5_store 57 = .ok (.return_, 1) := by decide +kernel
theorem dX5_isFrom_0 : decode cX5_isFrom 0 = .ok (.aload_n 0, 1) := by decide +kernel
theorem dX5_isFrom_1 : decode cX5_isFrom 1 = .ok (.iload_n 1, 1) := by decide +kernel
theorem dX5_isFrom_2 : decode cX5_isFrom 2 = .ok (.invokevirtual 98, 3) := by decide +kernel
theorem dX5_isFrom_5 : decode cX5_isFrom 5 = .ok (.istore_n 2, 1) := by decide +kernel
theorem dX5_isFrom_6 : decode cX5_isFrom 6 = .ok (.iload_n 1, 1) := by decide +kernel
theorem dX5_isFrom_7 : decode cX5_isFrom 7 = .ok (.ifCond .eq 35, 3) := by decide +kernel
theorem dX5_isFrom_10 : decode cX5_isFrom 10 = .ok (.iload_n 2, 1) := by decide +kernel
theorem dX5_isFrom_11 : decode cX5_isFrom 11 = .ok (.aload_n 0, 1) := by decide +kernel
theorem dX5_isFrom_12 : decode cX5_isFrom 12 = .ok (.getfield 118, 3) := by decide +kernel
theorem dX5_isFrom_15 : decode cX5_isFrom 15 = .ok (.if_icmp .gt 27, 3) := by decide +kernel
theorem dX5_isFrom_18 : decode cX5_isFrom 18 = .ok (.iload_n 1, 1) := by decide +kernel
theorem dX5_isFrom_19 : decode cX5_isFrom 19 = .ok (.aload_n 0, 1) := by decide +kernel
theorem dX5_isFrom_20 : decode cX5_isFrom 20 = .ok (.getfield 64, 3) := by decide +kernel
theorem dX5_isFrom_23 : decode cX5_isFrom 23 = .ok (.iload_n 2, 1) := by decide +kernel
theorem dX5_isFrom_24 : decode cX5_isFrom 24 = .ok (.iaload, 1) := by decide +kernel
theorem dX5_isFrom_25 : decode cX5_isFrom 25 = .ok (.if_icmp .lt 17, 3) := by decide +kernel
theorem dX5_isFrom_28 : decode cX5_isFrom 28 = .ok (.iload_n 1, 1) := by decide +kernel
theorem dX5_isFrom_29 : decode cX5_isFrom 29 = .ok (.aload_n 0, 1) := by decide +kernel
theorem dX5_isFrom_30 : decode cX5_isFrom 30 = .ok (.getfield 67, 3) := by decide +kernel
theorem dX5_isFrom_33 : decode cX5_isFrom 33 = .ok (.iload_n 2, 1) := by decide +kernel
theorem dX5_isFrom_34 : decode cX5_isFrom 34 = .ok (.iaload, 1) := by decide +kernel
theorem dX5_isFrom_35 : decode cX5_isFrom 35 = .ok (.if_icmp .ge 7, 3) := by decide +kernel
theorem dX5_isFrom_38 : decode cX5_isFrom 38 = .ok (.iconst 1, 1) := by decide +kernel
theorem dX5_isFrom_39 : decode cX5_isFrom 39 = .ok (.goto 4, 3) := by decide +kernel
theorem dX5_isFrom_42 : decode cX5_isFrom 42 = .ok (.iconst 0, 1) := by decide +kernel
theorem dX5_isFrom_43 : decode cX5_isFrom 43 = .ok (.ireturn, 1) := by decide +kernel
theorem dX5_fits_0 : decode cX5_fits 0 = .ok (.aload_n 0, 1) := by decide +kernel
theorem dX5_fits_1 : decode cX5_fits 1 = .ok (.getfield 22, 3) := by decide +kernel
theorem dX5_fits_4 : decode cX5_fits 4 = .ok (.iload_n 1, 1) := by decide +kernel
theorem dX5_fits_5 : decode cX5_fits 5 = .ok (.iaload, 1) := by decide +kernel
theorem dX5_fits_6 : decode cX5_fits 6 = .ok (.iload_n 2, 1) := by decide +kernel
theorem dX5_fits_7 : decode cX5_fits 7 = .ok (.iadd, 1) := by decide +kernel
theorem dX5_fits_8 : decode cX5_fits 8 = .ok (.iload_n 1, 1) := by decide +kernel
theorem dX5_fits_9 : decode cX5_fits 9 = .ok (.aload_n 0, 1) := by decide +kernel
theorem dX5_fits_10 : decode cX5_fits 10 = .ok (.getfield 118, 3) := by decide +kernel
theorem dX5_fits_13 : decode cX5_fits 13 = .ok (.if_icmp .gt 12, 3) := by decide +kernel
theorem dX5_fits_16 : decode cX5_fits 16 = .ok (.aload_n 0, 1) := by decide +kernel
theorem dX5_fits_17 : decode cX5_fits 17 = .ok (.getfield 70, 3) := by decide +kernel
theorem dX5_fits_20 : decode cX5_fits 20 = .ok (.iload_n 1, 1) := by decide +kernel
theorem dX5_fits_21 : decode cX5_fits 21 = .ok (.iaload, 1) := by decide +kernel
theorem dX5_fits_22 : decode cX5_fits 22 = .ok (.goto 4, 3) := by decide +kernel
theorem dX5_fits_25 : decode cX5_fits 25 = .ok (.iconst 0, 1) := by decide +kernel
theorem dX5_fits_26 : decode cX5_fits 26 = .ok (.iadd, 1) := by decide +kernel
theorem dX5_fits_27 : decode cX5_fits 27 = .ok (.istore_n 3, 1) := by decide +kernel
theorem dX5_fits_28 : decode cX5_fits 28 = .ok (.iload_n 3, 1) := by decide +kernel
theorem dX5_fits_29 : decode cX5_fits 29 = .ok (.aload_n 0, 1) := by decide +kernel
theorem dX5_fits_30 : decode cX5_fits 30 = .ok (.iload_n 1, 1) := by decide +kernel
theorem dX5_fits_31 : decode cX5_fits 31 = .ok (.invokevirtual 94, 3) := by decide +kernel
theorem dX5_fits_34 : decode cX5_fits 34 = .ok (.if_icmp .gt 7, 3) := by decide +kernel
theorem dX5_fits_37 : decode cX5_fits 37 = .ok (.iconst 1, 1) := by decide +kernel
theorem dX5_fits_38 : decode cX5_fits 38 = .ok (.goto 4, 3) := by decide +kernel
theorem dX5_fits_41 : decode cX5_fits 41 = .ok (.iconst 0, 1) := by decide +kernel
theorem dX5_fits_42 : decode cX5_fits 42 = .ok (.ireturn, 1) := by decide +kernel
theorem dX5_copy_0 : decode cX5_copy 0 = .ok (.aload_n 0, 1) := by decide +kernel
theorem dX5_copy_1 : decode cX5_copy 1 = .ok (.iload_n 1, 1) := by decide +kernel
theorem dX5_copy_2 : decode cX5_copy 2 = .ok (.invokevirtual 98, 3) := by decide +kernel
theorem dX5_copy_5 : decode cX5_copy 5 = .ok (.istore_n 2, 1) := by decide +kernel
theorem dX5_copy_6 : decode cX5_copy 6 = .ok (.aload_n 0, 1) := by decide +kernel
theorem dX5_copy_7 : decode cX5_copy 7 = .ok (.iload_n 1, 1) := by decide +kernel
theorem dX5_copy_8 : decode cX5_copy 8 = .ok (.invokevirtual 121, 3) := by decide +kernel
theorem dX5_copy_11 : decode cX5_copy 11 = .ok (.iconst 2, 1) := by decide +kernel
theorem dX5_copy_12 : decode cX5_copy 12 = .ok (.iadd, 1) := by decide +kernel
theorem dX5_copy_13 : decode cX5_copy 13 = .ok (.istore_n 3, 1) := by decide +kernel
theorem dX5_copy_14 : decode cX5_copy 14 = .ok (.aload_n 0, 1) := by decide +kernel
theorem dX5_copy_15 : decode cX5_copy 15 = .ok (.iload_n 1, 1) := by decide +kernel
theorem dX5_copy_16 : decode cX5_copy 16 = .ok (.invokevirtual 124, 3) := by decide +kernel
theorem dX5_copy_19 : decode cX5_copy 19 = .ok (.bipush 7, 2) := by decide +kernel
theorem dX5_copy_21 : decode cX5_copy 21 = .ok (.if_icmp .ge 13, 3) := by decide +kernel
theorem dX5_copy_24 : decode cX5_copy 24 = .ok (.aload_n 0, 1) := by decide +kernel
theorem dX5_copy_25 : decode cX5_copy 25 = .ok (.iload_n 1, 1) := by decide +kernel
theorem dX5_copy_26 : decode cX5_copy 26 = .ok (.invokevirtual 124, 3) := by decide +kernel
theorem dX5_copy_29 : decode cX5_copy 29 = .ok (.iconst 1, 1) := by decide +kernel
theorem dX5_copy_30 : decode cX5_copy 30 = .ok (.iadd, 1) := by decide +kernel
theorem dX5_copy_31 : decode cX5_copy 31 = .ok (.goto 5, 3) := by decide +kernel
theorem dX5_copy_34 : decode cX5_copy 34 = .ok (.bipush 7, 2) := by decide +kernel
theorem dX5_copy_36 : decode cX5_copy 36 = .ok (.istore 4, 2) := by decide +kernel
theorem dX5_copy_38 : decode cX5_copy 38 = .ok (.aload_n 0, 1) := by decide +kernel
theorem dX5_copy_39 : decode cX5_copy 39 = .ok (.getfield 70, 3) := by decide +kernel
theorem dX5_copy_42 : decode cX5_copy 42 = .ok (.iload_n 2, 1) := by decide +kernel
theorem dX5_copy_43 : decode cX5_copy 43 = .ok (.aload_n 0, 1) := by decide +kernel
theorem dX5_copy_44 : decode cX5_copy 44 = .ok (.getfield 70, 3) := by decide +kernel
theorem dX5_copy_47 : decode cX5_copy 47 = .ok (.iload_n 2, 1) := by decide +kernel
theorem dX5_copy_48 : decode cX5_copy 48 = .ok (.iaload, 1) := by decide +kernel
theorem dX5_copy_49 : decode cX5_copy 49 = .ok (.iload_n 3, 1) := by decide +kernel
theorem dX5_copy_50 : decode cX5_copy 50 = .ok (.isub, 1) := by decide +kernel
theorem dX5_copy_51 : decode cX5_copy 51 = .ok (.iastore, 1) := by decide +kernel
theorem dX5_copy_52 : decode cX5_copy 52 = .ok (.iload_n 2, 1) := by decide +kernel
theorem dX5_copy_53 : decode cX5_copy 53 = .ok (.iconst 2, 1) := by decide +kernel
theorem dX5_copy_54 : decode cX5_copy 54 = .ok (.if_icmp .ge 40, 3) := by decide +kernel
theorem dX5_copy_57 : decode cX5_copy 57 = .ok (.iload 4, 2) := by decide +kernel
theorem dX5_copy_59 : decode cX5_copy 59 = .ok (.aload_n 0, 1) := by decide +kernel
theorem dX5_copy_60 : decode cX5_copy 60 = .ok (.getfield 16, 3) := by decide +kernel
theorem dX5_copy_63 : decode cX5_copy 63 = .ok (.iload_n 2, 1) := by decide +kernel
theorem dX5_copy_64 : decode cX5_copy 64 = .ok (.iconst 2, 1) := by decide +kernel
theorem dX5_copy_65 : decode cX5_copy 65 = .ok (.if_icmp .ge 7, 3) := by decide +kernel
theorem dX5_copy_68 : decode cX5_copy 68 = .ok (.iload_n 2, 1) := by decide +kernel
theorem dX5_copy_69 : decode cX5_copy 69 = .ok (.goto 4, 3) := by decide +kernel
theorem dX5_copy_72 : decode cX5_copy 72 = .ok (.iconst 0, 1) := by decide +kernel
theorem dX5_copy_73 : decode cX5_copy 73 = .ok (.iaload, 1) := by decide +kernel
theorem dX5_copy_74 : decode cX5_copy 74 = .ok (.if_icmp .le 20, 3) := by decide +kernel
theorem dX5_copy_77 : decode cX5_copy 77 = .ok (.aload_n 0, 1) := by decide +kernel
theorem dX5_copy_78 : decode cX5_copy 78 = .ok (.iload_n 2, 1) := by decide +kernel
theorem dX5_copy_79 : decode cX5_copy 79 = .ok (.iconst 1, 1) := by decide +kernel
theorem dX5_copy_80 : decode cX5_copy 80 = .ok (.iadd, 1) := by decide +kernel
theorem dX5_copy_81 : decode cX5_copy 81 = .ok (.iload_n 3, 1) := by decide +kernel
theorem dX5_copy_82 : decode cX5_copy 82 = .ok (.invokevirtual 127, 3) := by decide +kernel
theorem dX5_copy_85 : decode cX5_copy 85 = .ok (.ifCond .eq 9, 3) := by decide +kernel
theorem dX5_copy_88 : decode cX5_copy 88 = .ok (.iload_n 2, 1) := by decide +kernel
theorem dX5_copy_89 : decode cX5_copy 89 = .ok (.iconst 1, 1) := by decide +kernel
theorem dX5_copy_90 : decode cX5_copy 90 = .ok (.iadd, 1) := by decide +kernel
theorem dX5_copy_91 : decode cX5_copy 91 = .ok (.goto 4, 3) := by decide +kernel
theorem dX5_copy_94 : decode cX5_copy 94 = .ok (.iload_n 2, 1) := by decide +kernel
theorem dX5_copy_95 : decode cX5_copy 95 = .ok (.istore 5, 2) := by decide +kernel
theorem dX5_copy_97 : decode cX5_copy 97 = .ok (.aload_n 0, 1) := by decide +kernel
theorem dX5_copy_98 : decode cX5_copy 98 = .ok (.iload 5, 2) := by decide +kernel
theorem dX5_copy_100 : decode cX5_copy 100 = .ok (.aload_n 0, 1) := by decide +kernel
theorem dX5_copy_101 : decode cX5_copy 101 = .ok (.getfield 19, 3) := by decide +kernel
theorem dX5_copy_104 : decode cX5_copy 104 = .ok (.iload 5, 2) := by decide +kernel
theorem dX5_copy_106 : decode cX5_copy 106 = .ok (.iaload, 1) := by decide +kernel
theorem dX5_copy_107 : decode cX5_copy 107 = .ok (.invokevirtual 131, 3) := by decide +kernel
theorem dX5_copy_110 : decode cX5_copy 110 = .ok (.aload_n 0, 1) := by decide +kernel
theorem dX5_copy_111 : decode cX5_copy 111 = .ok (.getfield 22, 3) := by decide +kernel
theorem dX5_copy_114 : decode cX5_copy 114 = .ok (.iload 5, 2) := by decide +kernel
theorem dX5_copy_116 : decode cX5_copy 116 = .ok (.iaload, 1) := by decide +kernel
theorem dX5_copy_117 : decode cX5_copy 117 = .ok (.iadd, 1) := by decide +kernel
theorem dX5_copy_118 : decode cX5_copy 118 = .ok (.istore 6, 2) := by decide +kernel
theorem dX5_copy_120 : decode cX5_copy 120 = .ok (.aload_n 0, 1) := by decide +kernel
theorem dX5_copy_121 : decode cX5_copy 121 = .ok (.getfield 22, 3) := by decide +kernel
theorem dX5_copy_124 : decode cX5_copy 124 = .ok (.iload 5, 2) := by decide +kernel
theorem dX5_copy_126 : decode cX5_copy 126 = .ok (.aload_n 0, 1) := by decide +kernel
theorem dX5_copy_127 : decode cX5_copy 127 = .ok (.getfield 22, 3) := by decide +kernel
theorem dX5_copy_130 : decode cX5_copy 130 = .ok (.iload 5, 2) := by decide +kernel
theorem dX5_copy_132 : decode cX5_copy 132 = .ok (.iaload, 1) := by decide +kernel
theorem dX5_copy_133 : decode cX5_copy 133 = .ok (.iload_n 3, 1) := by decide +kernel
theorem dX5_copy_134 : decode cX5_copy 134 = .ok (.iadd, 1) := by decide +kernel
theorem dX5_copy_135 : decode cX5_copy 135 = .ok (.iastore, 1) := by decide +kernel
theorem dX5_copy_136 : decode cX5_copy 136 = .ok (.iconst 0, 1) := by decide +kernel
theorem dX5_copy_137 : decode cX5_copy 137 = .ok (.istore 7, 2) := by decide +kernel
theorem dX5_copy_139 : decode cX5_copy 139 = .ok (.iload 7, 2) := by decide +kernel
theorem dX5_copy_141 : decode cX5_copy 141 = .ok (.iload_n 3, 1) := by decide +kernel
theorem dX5_copy_142 : decode cX5_copy 142 = .ok (.if_icmp .ge 28, 3) := by decide +kernel
theorem dX5_copy_145 : decode cX5_copy 145 = .ok (.aload_n 0, 1) := by decide +kernel
theorem dX5_copy_146 : decode cX5_copy 146 = .ok (.getfield 7, 3) := by decide +kernel
theorem dX5_copy_149 : decode cX5_copy 149 = .ok (.iload 6, 2) := by decide +kernel
theorem dX5_copy_151 : decode cX5_copy 151 = .ok (.iload 7, 2) := by decide +kernel
theorem dX5_copy_153 : decode cX5_copy 153 = .ok (.iadd, 1) := by decide +kernel
theorem dX5_copy_154 : decode cX5_copy 154 = .ok (.aload_n 0, 1) := by decide +kernel
theorem dX5_copy_155 : decode cX5_copy 155 = .ok (.getfield 7, 3) := by decide +kernel
theorem dX5_copy_158 : decode cX5_copy 158 = .ok (.iload_n 1, 1) := by decide +kernel
theorem dX5_copy_159 : decode cX5_copy 159 = .ok (.iload 7, 2) := by decide +kernel
theorem dX5_copy_161 : decode cX5_copy 161 = .ok (.iadd, 1) := by decide +kernel
theorem dX5_copy_162 : decode cX5_copy 162 = .ok (.iaload, 1) := by decide +kernel
theorem dX5_copy_163 : decode cX5_copy 163 = .ok (.iastore, 1) := by decide +kernel
theorem dX5_copy_164 : decode cX5_copy 164 = .ok (.iinc 7 1, 3) := by decide +kernel
theorem dX5_copy_167 : decode cX5_copy 167 = .ok (.goto (-28), 3) := by decide +kernel
theorem dX5_copy_170 : decode cX5_copy 170 = .ok (.aload_n 0, 1) := by decide +kernel
theorem dX5_copy_171 : decode cX5_copy 171 = .ok (.getfield 7, 3) := by decide +kernel
theorem dX5_copy_174 : decode cX5_copy 174 = .ok (.iload 6, 2) := by decide +kernel
theorem dX5_copy_176 : decode cX5_copy 176 = .ok (.aload_n 0, 1) := by decide +kernel
theorem dX5_copy_177 : decode cX5_copy 177 = .ok (.iload_n 1, 1) := by decide +kernel
theorem dX5_copy_178 : decode cX5_copy 178 = .ok (.invokevirtual 121, 3) := by decide +kernel
theorem dX5_copy_181 : decode cX5_copy 181 = .ok (.bipush 8, 2) := by decide +kernel
theorem dX5_copy_183 : decode cX5_copy 183 = .ok (.iload 5, 2) := by decide +kernel
theorem dX5_copy_185 : decode cX5_copy 185 = .ok (.iload_n 2, 1) := by decide +kernel
theorem dX5_copy_186 : decode cX5_copy 186 = .ok (.if_icmp .le 7, 3) := by decide +kernel
theorem dX5_copy_189 : decode cX5_copy 189 = .ok (.iconst 0, 1) := by decide +kernel
theorem dX5_copy_190 : decode cX5_copy 190 = .ok (.goto 5, 3) := by decide +kernel
theorem dX5_copy_193 : decode cX5_copy 193 = .ok (.iload 4, 2) := by decide +kernel
theorem dX5_copy_195 : decode cX5_copy 195 = .ok (.imul, 1) := by decide +kernel
theorem dX5_copy_196 : decode cX5_copy 196 = .ok (.iadd, 1) := by decide +kernel
theorem dX5_copy_197 : decode cX5_copy 197 = .ok (.aload_n 0, 1) := by decide +kernel
theorem dX5_copy_198 : decode cX5_copy 198 = .ok (.getfield 7, 3) := by decide +kernel
theorem dX5_copy_201 : decode cX5_copy 201 = .ok (.iload_n 1, 1) := by decide +kernel
theorem dX5_copy_202 : decode cX5_copy 202 = .ok (.iaload, 1) := by decide +kernel
theorem dX5_copy_203 : decode cX5_copy 203 = .ok (.bipush 64, 2) := by decide +kernel
theorem dX5_copy_205 : decode cX5_copy 205 = .ok (.iand, 1) := by decide +kernel
theorem dX5_copy_206 : decode cX5_copy 206 = .ok (.iadd, 1) := by decide +kernel
theorem dX5_copy_207 : decode cX5_copy 207 = .ok (.iastore, 1) := by decide +kernel
theorem dX5_copy_208 : decode cX5_copy 208 = .ok (.aload_n 0, 1) := by decide +kernel
theorem dX5_copy_209 : decode cX5_copy 209 = .ok (.iload 5, 2) := by decide +kernel
theorem dX5_copy_211 : decode cX5_copy 211 = .ok (.iload_n 2, 1) := by decide +kernel
theorem dX5_copy_212 : decode cX5_copy 212 = .ok (.if_icmp .le 12, 3) := by decide +kernel
theorem dX5_copy_215 : decode cX5_copy 215 = .ok (.aload_n 0, 1) := by decide +kernel
theorem dX5_copy_216 : decode cX5_copy 216 = .ok (.getfield 135, 3) := by decide +kernel
theorem dX5_copy_219 : decode cX5_copy 219 = .ok (.iconst 1, 1) := by decide +kernel
theorem dX5_copy_220 : decode cX5_copy 220 = .ok (.iadd, 1) := by decide +kernel
theorem dX5_copy_221 : decode cX5_copy 221 = .ok (.goto 7, 3) := by decide +kernel
theorem dX5_copy_224 : decode cX5_copy 224 = .ok (.aload_n 0, 1) := by decide +kernel
theorem dX5_copy_225 : decode cX5_copy 225 = .ok (.getfield 135, 3) := by decide +kernel
theorem dX5_copy_228 : decode cX5_copy 228 = .ok (.putfield 135, 3) := by decide +kernel
theorem dX5_copy_231 : decode cX5_copy 231 = .ok (.aload_n 0, 1) := by decide +kernel
theorem dX5_copy_232 : decode cX5_copy 232 = .ok (.aload_n 0, 1) := by decide +kernel
theorem dX5_copy_233 : decode cX5_copy 233 = .ok (.getfield 138, 3) := by decide +kernel
theorem dX5_copy_236 : decode cX5_copy 236 = .ok (.iload_n 3, 1) := by decide +kernel
theorem dX5_copy_237 : decode cX5_copy 237 = .ok (.iadd, 1) := by decide +kernel
theorem dX5_copy_238 : decode cX5_copy 238 = .ok (.putfield 138, 3) := by decide +kernel
theorem dX5_copy_241 : decode cX5_copy 241 = .ok (.aload_n 0, 1) := by decide +kernel
theorem dX5_copy_242 : decode cX5_copy 242 = .ok (.getfield 13, 3) := by decide +kernel
theorem dX5_copy_245 : decode cX5_copy 245 = .ok (.iload_n 1, 1) := by decide +kernel
theorem dX5_copy_246 : decode cX5_copy 246 = .ok (.iload 6, 2) := by decide +kernel
theorem dX5_copy_248 : decode cX5_copy 248 = .ok (.iastore, 1) := by decide +kernel
theorem dX5_copy_249 : decode cX5_copy 249 = .ok (.iload 6, 2) := by decide +kernel
theorem dX5_copy_251 : decode cX5_copy 251 = .ok (.ireturn, 1) := by decide +kernel
theorem dX5_bring_0 : decode cX5_bring 0 = .ok (.aload_n 0, 1) := by decide +kernel
theorem dX5_bring_1 : decode cX5_bring 1 = .ok (.iload_n 1, 1) := by decide +kernel
theorem dX5_bring_2 : decode cX5_bring 2 = .ok (.invokevirtual 141, 3) := by decide +kernel
theorem dX5_bring_5 : decode cX5_bring 5 = .ok (.ifCond .ne 5, 3) := by decide +kernel
theorem dX5_bring_8 : decode cX5_bring 8 = .ok (.iload_n 1, 1) := by decide +kernel
theorem dX5_bring_9 : decode cX5_bring 9 = .ok (.ireturn, 1) := by decide +kernel
theorem dX5_bring_10 : decode cX5_bring 10 = .ok (.aload_n 0, 1) := by decide +kernel
theorem dX5_bring_11 : decode cX5_bring 11 = .ok (.getfield 13, 3) := by decide +kernel
theorem dX5_bring_14 : decode cX5_bring 14 = .ok (.iload_n 1, 1) := by decide +kernel
theorem dX5_bring_15 : decode cX5_bring 15 = .ok (.iaload, 1) := by decide +kernel
theorem dX5_bring_16 : decode cX5_bring 16 = .ok (.ifCond .eq 12, 3) := by decide +kernel
theorem dX5_bring_19 : decode cX5_bring 19 = .ok (.aload_n 0, 1) := by decide +kernel
theorem dX5_bring_20 : decode cX5_bring 20 = .ok (.getfield 13, 3) := by decide +kernel
theorem dX5_bring_23 : decode cX5_bring 23 = .ok (.iload_n 1, 1) := by decide +kernel
theorem dX5_bring_24 : decode cX5_bring 24 = .ok (.iaload, 1) := by decide +kernel
theorem dX5_bring_25 : decode cX5_bring 25 = .ok (.goto 8, 3) := by decide +kernel
theorem dX5_bring_28 : decode cX5_bring 28 = .ok (.aload_n 0, 1) := by decide +kernel
theorem dX5_bring_29 : decode cX5_bring 29 = .ok (.iload_n 1, 1) := by decide +kernel
theorem dX5_bring_30 : decode cX5_bring 30 = .ok (.invokevirtual 145, 3) := by decide +kernel
theorem dX5_bring_33 : decode cX5_bring 33 = .ok (.ireturn, 1) := by decide +kernel
theorem dX5_scan_0 : decode cX5_scan 0 = .ok (.iconst 0, 1) := by decide +kernel
theorem dX5_scan_1 : decode cX5_scan 1 = .ok (.istore_n 1, 1) := by decide +kernel
theorem dX5_scan_2 : decode cX5_scan 2 = .ok (.iload_n 1, 1) := by decide +kernel
theorem dX5_scan_3 : decode cX5_scan 3 = .ok (.iconst 3, 1) := by decide +kernel
theorem dX5_scan_4 : decode cX5_scan 4 = .ok (.if_icmp .ge 115, 3) := by decide +kernel
theorem dX5_scan_7 : decode cX5_scan 7 = .ok (.aload_n 0, 1) := by decide +kernel
theorem dX5_scan_8 : decode cX5_scan 8 = .ok (.getfield 73, 3) := by decide +kernel
theorem dX5_scan_11 : decode cX5_scan 11 = .ok (.iload_n 1, 1) := by decide +kernel
theorem dX5_scan_12 : decode cX5_scan 12 = .ok (.iaload, 1) := by decide +kernel
theorem dX5_scan_13 : decode cX5_scan 13 = .ok (.aload_n 0, 1) := by decide +kernel
theorem dX5_scan_14 : decode cX5_scan 14 = .ok (.getfield 22, 3) := by decide +kernel
theorem dX5_scan_17 : decode cX5_scan 17 = .ok (.iload_n 1, 1) := by decide +kernel
theorem dX5_scan_18 : decode cX5_scan 18 = .ok (.iaload, 1) := by decide +kernel
theorem dX5_scan_19 : decode cX5_scan 19 = .ok (.if_icmp .ne 9, 3) := by decide +kernel
theorem dX5_scan_22 : decode cX5_scan 22 = .ok (.iinc 1 1, 3) := by decide +kernel
theorem dX5_scan_25 : decode cX5_scan 25 = .ok (.goto (-23), 3) := by decide +kernel
theorem dX5_scan_28 : decode cX5_scan 28 = .ok (.aload_n 0, 1) := by decide +kernel
theorem dX5_scan_29 : decode cX5_scan 29 = .ok (.iload_n 1, 1) := by decide +kernel
theorem dX5_scan_30 : decode cX5_scan 30 = .ok (.aload_n 0, 1) := by decide +kernel
theorem dX5_scan_31 : decode cX5_scan 31 = .ok (.getfield 19, 3) := by decide +kernel
theorem dX5_scan_34 : decode cX5_scan 34 = .ok (.iload_n 1, 1) := by decide +kernel
theorem dX5_scan_35 : decode cX5_scan 35 = .ok (.iaload, 1) := by decide +kernel
theorem dX5_scan_36 : decode cX5_scan 36 = .ok (.invokevirtual 131, 3) := by decide +kernel
theorem dX5_scan_39 : decode cX5_scan 39 = .ok (.aload_n 0, 1) := by decide +kernel
theorem dX5_scan_40 : decode cX5_scan 40 = .ok (.getfield 73, 3) := by decide +kernel
theorem dX5_scan_43 : decode cX5_scan 43 = .ok (.iload_n 1, 1) := by decide +kernel
theorem dX5_scan_44 : decode cX5_scan 44 = .ok (.iaload, 1) := by decide +kernel
theorem dX5_scan_45 : decode cX5_scan 45 = .ok (.iadd, 1) := by decide +kernel
theorem dX5_scan_46 : decode cX5_scan 46 = .ok (.istore_n 2, 1) := by decide +kernel
theorem dX5_scan_47 : decode cX5_scan 47 = .ok (.aload_n 0, 1) := by decide +kernel
theorem dX5_scan_48 : decode cX5_scan 48 = .ok (.iload_n 2, 1) := by decide +kernel
theorem dX5_scan_49 : decode cX5_scan 49 = .ok (.invokevirtual 121, 3) := by decide +kernel
theorem dX5_scan_52 : decode cX5_scan 52 = .ok (.istore_n 3, 1) := by decide +kernel
theorem dX5_scan_53 : decode cX5_scan 53 = .ok (.iload_n 2, 1) := by decide +kernel
theorem dX5_scan_54 : decode cX5_scan 54 = .ok (.iconst 2, 1) := by decide +kernel
theorem dX5_scan_55 : decode cX5_scan 55 = .ok (.iadd, 1) := by decide +kernel
theorem dX5_scan_56 : decode cX5_scan 56 = .ok (.istore 4, 2) := by decide +kernel
theorem dX5_scan_58 : decode cX5_scan 58 = .ok (.iload 4, 2) := by decide +kernel
theorem dX5_scan_60 : decode cX5_scan 60 = .ok (.iload_n 2, 1) := by decide +kernel
theorem dX5_scan_61 : decode cX5_scan 61 = .ok (.iconst 2, 1) := by decide +kernel
theorem dX5_scan_62 : decode cX5_scan 62 = .ok (.iadd, 1) := by decide +kernel
theorem dX5_scan_63 : decode cX5_scan 63 = .ok (.iload_n 3, 1) := by decide +kernel
theorem dX5_scan_64 : decode cX5_scan 64 = .ok (.iadd, 1) := by decide +kernel
theorem dX5_scan_65 : decode cX5_scan 65 = .ok (.if_icmp .ge 33, 3) := by decide +kernel
theorem dX5_scan_68 : decode cX5_scan 68 = .ok (.aload_n 0, 1) := by decide +kernel
theorem dX5_scan_69 : decode cX5_scan 69 = .ok (.getfield 7, 3) := by decide +kernel
theorem dX5_scan_72 : decode cX5_scan 72 = .ok (.iload 4, 2) := by decide +kernel
theorem dX5_scan_74 : decode cX5_scan 74 = .ok (.aload_n 0, 1) := by decide +kernel
theorem dX5_scan_75 : decode cX5_scan 75 = .ok (.aload_n 0, 1) := by decide +kernel
theorem dX5_scan_76 : decode cX5_scan 76 = .ok (.getfield 7, 3) := by decide +kernel
theorem dX5_scan_79 : decode cX5_scan 79 = .ok (.iload 4, 2) := by decide +kernel
theorem dX5_scan_81 : decode cX5_scan 81 = .ok (.iaload, 1) := by decide +kernel
theorem dX5_scan_82 : decode cX5_scan 82 = .ok (.invokevirtual 148, 3) := by decide +kernel
theorem dX5_scan_85 : decode cX5_scan 85 = .ok (.iastore, 1) := by decide +kernel
theorem dX5_scan_86 : decode cX5_scan 86 = .ok (.aload_n 0, 1) := by decide +kernel
theorem dX5_scan_87 : decode cX5_scan 87 = .ok (.iload 4, 2) := by decide +kernel
theorem dX5_scan_89 : decode cX5_scan 89 = .ok (.invokevirtual 108, 3) := by decide +kernel
theorem dX5_scan_92 : decode cX5_scan 92 = .ok (.iinc 4 1, 3) := by decide +kernel
theorem dX5_scan_95 : decode cX5_scan 95 = .ok (.goto (-37), 3) := by decide +kernel
theorem dX5_scan_98 : decode cX5_scan 98 = .ok (.aload_n 0, 1) := by decide +kernel
theorem dX5_scan_99 : decode cX5_scan 99 = .ok (.getfield 73, 3) := by decide +kernel
theorem dX5_scan_102 : decode cX5_scan 102 = .ok (.iload_n 1, 1) := by decide +kernel
theorem dX5_scan_103 : decode cX5_scan 103 = .ok (.aload_n 0, 1) := by decide +kernel
theorem dX5_scan_104 : decode cX5_scan 104 = .ok (.getfield 73, 3) := by decide +kernel
theorem dX5_scan_107 : decode cX5_scan 107 = .ok (.iload_n 1, 1) := by decide +kernel
theorem dX5_scan_108 : decode cX5_scan 108 = .ok (.iaload, 1) := by decide +kernel
theorem dX5_scan_109 : decode cX5_scan 109 = .ok (.iload_n 3, 1) := by decide +kernel
theorem dX5_scan_110 : decode cX5_scan 110 = .ok (.iadd, 1) := by decide +kernel
theorem dX5_scan_111 : decode cX5_scan 111 = .ok (.iconst 2, 1) := by decide +kernel
theorem dX5_scan_112 : decode cX5_scan 112 = .ok (.iadd, 1) := by decide +kernel
theorem dX5_scan_113 : decode cX5_scan 113 = .ok (.iastore, 1) := by decide +kernel
theorem dX5_scan_114 : decode cX5_scan 114 = .ok (.iconst 0, 1) := by decide +kernel
theorem dX5_scan_115 : decode cX5_scan 115 = .ok (.istore_n 1, 1) := by decide +kernel
theorem dX5_scan_116 : decode cX5_scan 116 = .ok (.goto (-114), 3) := by decide +kernel
theorem dX5_scan_119 : decode cX5_scan 119 = .ok (.return_, 1) := by decide +kernel
theorem dX5_bringRows_0 : decode cX5_bringRows 0 = .ok (.iconst 0, 1) := by decide +kernel
theorem dX5_bringRows_1 : decode cX5_bringRows 1 = .ok (.istore_n 2, 1) := by decide +kernel
theorem dX5_bringRows_2 : decode cX5_bringRows 2 = .ok (.iload_n 2, 1) := by decide +kernel
theorem dX5_bringRows_3 : decode cX5_bringRows 3 = .ok (.iconst 2, 1) := by decide +kernel
theorem dX5_bringRows_4 : decode cX5_bringRows 4 = .ok (.if_icmp .ge 75, 3) := by decide +kernel
theorem dX5_bringRows_7 : decode cX5_bringRows 7 = .ok (.iconst 0, 1) := by decide +kernel
theorem dX5_bringRows_8 : decode cX5_bringRows 8 = .ok (.istore_n 3, 1) := by decide +kernel
theorem dX5_bringRows_9 : decode cX5_bringRows 9 = .ok (.iload_n 3, 1) := by decide +kernel
theorem dX5_bringRows_10 : decode cX5_bringRows 10 = .ok (.aload_n 0, 1) := by decide +kernel
theorem dX5_bringRows_11 : decode cX5_bringRows 11 = .ok (.getfield 49, 3) := by decide +kernel
theorem dX5_bringRows_14 : decode cX5_bringRows 14 = .ok (.iload_n 2, 1) := by decide +kernel
theorem dX5_bringRows_15 : decode cX5_bringRows 15 = .ok (.iaload, 1) := by decide +kernel
theorem dX5_bringRows_16 : decode cX5_bringRows 16 = .ok (.if_icmp .ge 57, 3) := by decide +kernel
theorem dX5_bringRows_19 : decode cX5_bringRows 19 = .ok (.aload_n 0, 1) := by decide +kernel
theorem dX5_bringRows_20 : decode cX5_bringRows 20 = .ok (.getfield 52, 3) := by decide +kernel
theorem dX5_bringRows_23 : decode cX5_bringRows 23 = .ok (.sipush 1000, 3) := by decide +kernel
theorem dX5_bringRows_26 : decode cX5_bringRows 26 = .ok (.iload_n 2, 1) := by decide +kernel
theorem dX5_bringRows_27 : decode cX5_bringRows 27 = .ok (.imul, 1) := by decide +kernel
theorem dX5_bringRows_28 : decode cX5_bringRows 28 = .ok (.iload_n 3, 1) := by decide +kernel
theorem dX5_bringRows_29 : decode cX5_bringRows 29 = .ok (.iadd, 1) := by decide +kernel
theorem dX5_bringRows_30 : decode cX5_bringRows 30 = .ok (.iaload, 1) := by decide +kernel
theorem dX5_bringRows_31 : decode cX5_bringRows 31 = .ok (.istore 4, 2) := by decide +kernel
theorem dX5_bringRows_33 : decode cX5_bringRows 33 = .ok (.aload_n 0, 1) := by decide +kernel
theorem dX5_bringRows_34 : decode cX5_bringRows 34 = .ok (.iload 4, 2) := by decide +kernel
theorem dX5_bringRows_36 : decode cX5_bringRows 36 = .ok (.invokevirtual 98, 3) := by decide +kernel
theorem dX5_bringRows_39 : decode cX5_bringRows 39 = .ok (.iload_n 1, 1) := by decide +kernel
theorem dX5_bringRows_40 : decode cX5_bringRows 40 = .ok (.if_icmp .le 27, 3) := by decide +kernel
theorem dX5_bringRows_43 : decode cX5_bringRows 43 = .ok (.aload_n 0, 1) := by decide +kernel
theorem dX5_bringRows_44 : decode cX5_bringRows 44 = .ok (.getfield 7, 3) := by decide +kernel
theorem dX5_bringRows_47 : decode cX5_bringRows 47 = .ok (.iload 4, 2) := by decide +kernel
theorem dX5_bringRows_49 : decode cX5_bringRows 49 = .ok (.aload_n 0, 1) := by decide +kernel
theorem dX5_bringRows_50 : decode cX5_bringRows 50 = .ok (.aload_n 0, 1) := by decide +kernel
theorem dX5_bringRows_51 : decode cX5_bringRows 51 = .ok (.getfield 7, 3) := by decide +kernel
theorem dX5_bringRows_54 : decode cX5_bringRows 54 = .ok (.iload 4, 2) := by decide +kernel
theorem dX5_bringRows_56 : decode cX5_bringRows 56 = .ok (.iaload, 1) := by decide +kernel
theorem dX5_bringRows_57 : decode cX5_bringRows 57 = .ok (.invokevirtual 148, 3) := by decide +kernel
theorem dX5_bringRows_60 : decode cX5_bringRows 60 = .ok (.iastore, 1) := by decide +kernel
theorem dX5_bringRows_61 : decode cX5_bringRows 61 = .ok (.aload_n 0, 1) := by decide +kernel
theorem dX5_bringRows_62 : decode cX5_bringRows 62 = .ok (.iload 4, 2) := by decide +kernel
theorem dX5_bringRows_64 : decode cX5_bringRows 64 = .ok (.invokevirtual 108, 3) := by decide +kernel
theorem dX5_bringRows_67 : decode cX5_bringRows 67 = .ok (.iinc 3 1, 3) := by decide +kernel
theorem dX5_bringRows_70 : decode cX5_bringRows 70 = .ok (.goto (-61), 3) := by decide +kernel
theorem dX5_bringRows_73 : decode cX5_bringRows 73 = .ok (.iinc 2 1, 3) := by decide +kernel
theorem dX5_bringRows_76 : decode cX5_bringRows 76 = .ok (.goto (-74), 3) := by decide +kernel
theorem dX5_bringRows_79 : decode cX5_bringRows 79 = .ok (.return_, 1) := by decide +kernel
theorem dX5_grantWishes_0 : decode cX5_grantWishes 0 = .ok (.iconst 0, 1) := by decide +kernel
theorem dX5_grantWishes_1 : decode cX5_grantWishes 1 = .ok (.istore_n 1, 1) := by decide +kernel
theorem dX5_grantWishes_2 : decode cX5_grantWishes 2 = .ok (.iconst 0, 1) := by decide +kernel
theorem dX5_grantWishes_3 : decode cX5_grantWishes 3 = .ok (.istore_n 2, 1) := by decide +kernel
theorem dX5_grantWishes_4 : decode cX5_grantWishes 4 = .ok (.iload_n 2, 1) := by decide +kernel
theorem dX5_grantWishes_5 : decode cX5_grantWishes 5 = .ok (.aload_n 0, 1) := by decide +kernel
theorem dX5_grantWishes_6 : decode cX5_grantWishes 6 = .ok (.getfield 151, 3) := by decide +kernel
theorem dX5_grantWishes_9 : decode cX5_grantWishes 9 = .ok (.if_icmp .ge 95, 3) := by decide +kernel
theorem dX5_grantWishes_12 : decode cX5_grantWishes 12 = .ok (.aload_n 0, 1) := by decide +kernel
theorem dX5_grantWishes_13 : decode cX5_grantWishes 13 = .ok (.getfield 34, 3) := by decide +kernel
theorem dX5_grantWishes_16 : decode cX5_grantWishes 16 = .ok (.iload_n 2, 1) := by decide +kernel
theorem dX5_grantWishes_17 : decode cX5_grantWishes 17 = .ok (.iaload, 1) := by decide +kernel
theorem dX5_grantWishes_18 : decode cX5_grantWishes 18 = .ok (.istore_n 3, 1) := by decide +kernel
theorem dX5_grantWishes_19 : decode cX5_grantWishes 19 = .ok (.aload_n 0, 1) := by decide +kernel
theorem dX5_grantWishes_20 : decode cX5_grantWishes 20 = .ok (.iload_n 3, 1) := by decide +kernel
theorem dX5_grantWishes_21 : decode cX5_grantWishes 21 = .ok (.invokevirtual 141, 3) := by decide +kernel
theorem dX5_grantWishes_24 : decode cX5_grantWishes 24 = .ok (.ifCond .eq 60, 3) := by decide +kernel
theorem dX5_grantWishes_27 : decode cX5_grantWishes 27 = .ok (.aload_n 0, 1) := by decide +kernel
theorem dX5_grantWishes_28 : decode cX5_grantWishes 28 = .ok (.getfield 13, 3) := by decide +kernel
theorem dX5_grantWishes_31 : decode cX5_grantWishes 31 = .ok (.iload_n 3, 1) := by decide +kernel
theorem dX5_grantWishes_32 : decode cX5_grantWishes 32 = .ok (.iaload, 1) := by decide +kernel
theorem dX5_grantWishes_33 : decode cX5_grantWishes 33 = .ok (.ifCond .ne 51, 3) := by decide +kernel
theorem dX5_grantWishes_36 : decode cX5_grantWishes 36 = .ok (.aload_n 0, 1) := by decide +kernel
theorem dX5_grantWishes_37 : decode cX5_grantWishes 37 = .ok (.iload_n 3, 1) := by decide +kernel
theorem dX5_grantWishes_38 : decode cX5_grantWishes 38 = .ok (.invokevirtual 148, 3) := by decide +kernel
theorem dX5_grantWishes_41 : decode cX5_grantWishes 41 = .ok (.istore 4, 2) := by decide +kernel
theorem dX5_grantWishes_43 : decode cX5_grantWishes 43 = .ok (.aload_n 0, 1) := by decide +kernel
theorem dX5_grantWishes_44 : decode cX5_grantWishes 44 = .ok (.getfield 7, 3) := by decide +kernel
theorem dX5_grantWishes_47 : decode cX5_grantWishes 47 = .ok (.iload 4, 2) := by decide +kernel
theorem dX5_grantWishes_49 : decode cX5_grantWishes 49 = .ok (.aload_n 0, 1) := by decide +kernel
theorem dX5_grantWishes_50 : decode cX5_grantWishes 50 = .ok (.getfield 7, 3) := by decide +kernel
theorem dX5_grantWishes_53 : decode cX5_grantWishes 53 = .ok (.iload 4, 2) := by decide +kernel
theorem dX5_grantWishes_55 : decode cX5_grantWishes 55 = .ok (.iaload, 1) := by decide +kernel
theorem dX5_grantWishes_56 : decode cX5_grantWishes 56 = .ok (.bipush 63, 2) := by decide +kernel
theorem dX5_grantWishes_58 : decode cX5_grantWishes 58 = .ok (.iand, 1) := by decide +kernel
theorem dX5_grantWishes_59 : decode cX5_grantWishes 59 = .ok (.iastore, 1) := by decide +kernel
theorem dX5_grantWishes_60 : decode cX5_grantWishes 60 = .ok (.aload_n 0, 1) := by decide +kernel
theorem dX5_grantWishes_61 : decode cX5_grantWishes 61 = .ok (.getfield 37, 3) := by decide +kernel
theorem dX5_grantWishes_64 : decode cX5_grantWishes 64 = .ok (.aload_n 0, 1) := by decide +kernel
theorem dX5_grantWishes_65 : decode cX5_grantWishes 65 = .ok (.getfield 154, 3) := by decide +kernel
theorem dX5_grantWishes_68 : decode cX5_grantWishes 68 = .ok (.iload 4, 2) := by decide +kernel
theorem dX5_grantWishes_70 : decode cX5_grantWishes 70 = .ok (.iastore, 1) := by decide +kernel
theorem dX5_grantWishes_71 : decode cX5_grantWishes 71 = .ok (.aload_n 0, 1) := by decide +kernel
theorem dX5_grantWishes_72 : decode cX5_grantWishes 72 = .ok (.dup, 1) := by decide +kernel
theorem dX5_grantWishes_73 : decode cX5_grantWishes 73 = .ok (.getfield 154, 3) := by decide +kernel
theorem dX5_grantWishes_76 : decode cX5_grantWishes 76 = .ok (.iconst 1, 1) := by decide +kernel
theorem dX5_grantWishes_77 : decode cX5_grantWishes 77 = .ok (.iadd, 1) := by decide +kernel
theorem dX5_grantWishes_78 : decode cX5_grantWishes 78 = .ok (.putfield 154, 3) := by decide +kernel
theorem dX5_grantWishes_81 : decode cX5_grantWishes 81 = .ok (.goto 17, 3) := by decide +kernel
theorem dX5_grantWishes_84 : decode cX5_grantWishes 84 = .ok (.aload_n 0, 1) := by decide +kernel
theorem dX5_grantWishes_85 : decode cX5_grantWishes 85 = .ok (.getfield 34, 3) := by decide +kernel
theorem dX5_grantWishes_88 : decode cX5_grantWishes 88 = .ok (.iload_n 1, 1) := by decide +kernel
theorem dX5_grantWishes_89 : decode cX5_grantWishes 89 = .ok (.aload_n 0, 1) := by decide +kernel
theorem dX5_grantWishes_90 : decode cX5_grantWishes 90 = .ok (.iload_n 3, 1) := by decide +kernel
theorem dX5_grantWishes_91 : decode cX5_grantWishes 91 = .ok (.invokevirtual 148, 3) := by decide +kernel
theorem dX5_grantWishes_94 : decode cX5_grantWishes 94 = .ok (.iastore, 1) := by decide +kernel
theorem dX5_grantWishes_95 : decode cX5_grantWishes 95 = .ok (.iinc 1 1, 3) := by decide +kernel
theorem dX5_grantWishes_98 : decode cX5_grantWishes 98 = .ok (.iinc 2 1, 3) := by decide +kernel
theorem dX5_grantWishes_101 : decode cX5_grantWishes 101 = .ok (.goto (-97), 3) := by decide +kernel
theorem dX5_grantWishes_104 : decode cX5_grantWishes 104 = .ok (.aload_n 0, 1) := by decide +kernel
theorem dX5_grantWishes_105 : decode cX5_grantWishes 105 = .ok (.iload_n 1, 1) := by decide +kernel
theorem dX5_grantWishes_106 : decode cX5_grantWishes 106 = .ok (.putfield 151, 3) := by decide +kernel
theorem dX5_grantWishes_109 : decode cX5_grantWishes 109 = .ok (.return_, 1) := by decide +kernel
theorem dX5_gather_0 : decode cX5_gather 0 = .ok (.aload_n 0, 1) := by decide +kernel
theorem dX5_gather_1 : decode cX5_gather 1 = .ok (.invokevirtual 115, 3) := by decide +kernel
theorem dX5_gather_4 : decode cX5_gather 4 = .ok (.aload_n 0, 1) := by decide +kernel
theorem dX5_gather_5 : decode cX5_gather 5 = .ok (.iload_n 1, 1) := by decide +kernel
theorem dX5_gather_6 : decode cX5_gather 6 = .ok (.putfield 118, 3) := by decide +kernel
theorem dX5_gather_9 : decode cX5_gather 9 = .ok (.aload_n 0, 1) := by decide +kernel
theorem dX5_gather_10 : decode cX5_gather 10 = .ok (.iconst 0, 1) := by decide +kernel
theorem dX5_gather_11 : decode cX5_gather 11 = .ok (.putfield 138, 3) := by decide +kernel
theorem dX5_gather_14 : decode cX5_gather 14 = .ok (.iconst 0, 1) := by decide +kernel
theorem dX5_gather_15 : decode cX5_gather 15 = .ok (.istore_n 2, 1) := by decide +kernel
theorem dX5_gather_16 : decode cX5_gather 16 = .ok (.iload_n 2, 1) := by decide +kernel
theorem dX5_gather_17 : decode cX5_gather 17 = .ok (.iconst 3, 1) := by decide +kernel
theorem dX5_gather_18 : decode cX5_gather 18 = .ok (.if_icmp .ge 125, 3) := by decide +kernel
theorem dX5_gather_21 : decode cX5_gather 21 = .ok (.iload_n 2, 1) := by decide +kernel
theorem dX5_gather_22 : decode cX5_gather 22 = .ok (.iload_n 1, 1) := by decide +kernel
theorem dX5_gather_23 : decode cX5_gather 23 = .ok (.if_icmp .gt 102, 3) := by decide +kernel
theorem dX5_gather_26 : decode cX5_gather 26 = .ok (.aload_n 0, 1) := by decide +kernel
theorem dX5_gather_27 : decode cX5_gather 27 = .ok (.getfield 64, 3) := by decide +kernel
theorem dX5_gather_30 : decode cX5_gather 30 = .ok (.iload_n 2, 1) := by decide +kernel
theorem dX5_gather_31 : decode cX5_gather 31 = .ok (.aload_n 0, 1) := by decide +kernel
theorem dX5_gather_32 : decode cX5_gather 32 = .ok (.iload_n 2, 1) := by decide +kernel
theorem dX5_gather_33 : decode cX5_gather 33 = .ok (.aload_n 0, 1) := by decide +kernel
theorem dX5_gather_34 : decode cX5_gather 34 = .ok (.getfield 19, 3) := by decide +kernel
theorem dX5_gather_37 : decode cX5_gather 37 = .ok (.iload_n 2, 1) := by decide +kernel
theorem dX5_gather_38 : decode cX5_gather 38 = .ok (.iaload, 1) := by decide +kernel
theorem dX5_gather_39 : decode cX5_gather 39 = .ok (.invokevirtual 131, 3) := by decide +kernel
theorem dX5_gather_42 : decode cX5_gather 42 = .ok (.iastore, 1) := by decide +kernel
theorem dX5_gather_43 : decode cX5_gather 43 = .ok (.aload_n 0, 1) := by decide +kernel
theorem dX5_gather_44 : decode cX5_gather 44 = .ok (.getfield 67, 3) := by decide +kernel
theorem dX5_gather_47 : decode cX5_gather 47 = .ok (.iload_n 2, 1) := by decide +kernel
theorem dX5_gather_48 : decode cX5_gather 48 = .ok (.aload_n 0, 1) := by decide +kernel
theorem dX5_gather_49 : decode cX5_gather 49 = .ok (.getfield 64, 3) := by decide +kernel
theorem dX5_gather_52 : decode cX5_gather 52 = .ok (.iload_n 2, 1) := by decide +kernel
theorem dX5_gather_53 : decode cX5_gather 53 = .ok (.iaload, 1) := by decide +kernel
theorem dX5_gather_54 : decode cX5_gather 54 = .ok (.aload_n 0, 1) := by decide +kernel
theorem dX5_gather_55 : decode cX5_gather 55 = .ok (.getfield 22, 3) := by decide +kernel
theorem dX5_gather_58 : decode cX5_gather 58 = .ok (.iload_n 2, 1) := by decide +kernel
theorem dX5_gather_59 : decode cX5_gather 59 = .ok (.iaload, 1) := by decide +kernel
theorem dX5_gather_60 : decode cX5_gather 60 = .ok (.iadd, 1) := by decide +kernel
theorem dX5_gather_61 : decode cX5_gather 61 = .ok (.iastore, 1) := by decide +kernel
theorem dX5_gather_62 : decode cX5_gather 62 = .ok (.aload_n 0, 1) := by decide +kernel
theorem dX5_gather_63 : decode cX5_gather 63 = .ok (.getfield 70, 3) := by decide +kernel
theorem dX5_gather_66 : decode cX5_gather 66 = .ok (.iload_n 2, 1) := by decide +kernel
theorem dX5_gather_67 : decode cX5_gather 67 = .ok (.aload_n 0, 1) := by decide +kernel
theorem dX5_gather_68 : decode cX5_gather 68 = .ok (.getfield 22, 3) := by decide +kernel
theorem dX5_gather_71 : decode cX5_gather 71 = .ok (.iload_n 2, 1) := by decide +kernel
theorem dX5_gather_72 : decode cX5_gather 72 = .ok (.iaload, 1) := by decide +kernel
theorem dX5_gather_73 : decode cX5_gather 73 = .ok (.iastore, 1) := by decide +kernel
theorem dX5_gather_74 : decode cX5_gather 74 = .ok (.aload_n 0, 1) := by decide +kernel
theorem dX5_gather_75 : decode cX5_gather 75 = .ok (.getfield 19, 3) := by decide +kernel
theorem dX5_gather_78 : decode cX5_gather 78 = .ok (.iload_n 2, 1) := by decide +kernel
theorem dX5_gather_79 : decode cX5_gather 79 = .ok (.iconst 1, 1) := by decide +kernel
theorem dX5_gather_80 : decode cX5_gather 80 = .ok (.aload_n 0, 1) := by decide +kernel
theorem dX5_gather_81 : decode cX5_gather 81 = .ok (.getfield 19, 3) := by decide +kernel
theorem dX5_gather_84 : decode cX5_gather 84 = .ok (.iload_n 2, 1) := by decide +kernel
theorem dX5_gather_85 : decode cX5_gather 85 = .ok (.iaload, 1) := by decide +kernel
theorem dX5_gather_86 : decode cX5_gather 86 = .ok (.isub, 1) := by decide +kernel
theorem dX5_gather_87 : decode cX5_gather 87 = .ok (.iastore, 1) := by decide +kernel
theorem dX5_gather_88 : decode cX5_gather 88 = .ok (.aload_n 0, 1) := by decide +kernel
theorem dX5_gather_89 : decode cX5_gather 89 = .ok (.getfield 22, 3) := by decide +kernel
theorem dX5_gather_92 : decode cX5_gather 92 = .ok (.iload_n 2, 1) := by decide +kernel
theorem dX5_gather_93 : decode cX5_gather 93 = .ok (.iconst 0, 1) := by decide +kernel
theorem dX5_gather_94 : decode cX5_gather 94 = .ok (.iastore, 1) := by decide +kernel
theorem dX5_gather_95 : decode cX5_gather 95 = .ok (.aload_n 0, 1) := by decide +kernel
theorem dX5_gather_96 : decode cX5_gather 96 = .ok (.getfield 64, 3) := by decide +kernel
theorem dX5_gather_99 : decode cX5_gather 99 = .ok (.iload_n 2, 1) := by decide +kernel
theorem dX5_gather_100 : decode cX5_gather 100 = .ok (.iaload, 1) := by decide +kernel
theorem dX5_gather_101 : decode cX5_gather 101 = .ok (.istore_n 3, 1) := by decide +kernel
theorem dX5_gather_102 : decode cX5_gather 102 = .ok (.iload_n 3, 1) := by decide +kernel
theorem dX5_gather_103 : decode cX5_gather 103 = .ok (.aload_n 0, 1) := by decide +kernel
theorem dX5_gather_104 : decode cX5_gather 104 = .ok (.getfield 67, 3) := by decide +kernel
theorem dX5_gather_107 : decode cX5_gather 107 = .ok (.iload_n 2, 1) := by decide +kernel
theorem dX5_gather_108 : decode cX5_gather 108 = .ok (.iaload, 1) := by decide +kernel
theorem dX5_gather_109 : decode cX5_gather 109 = .ok (.if_icmp .ge 16, 3) := by decide +kernel
theorem dX5_gather_112 : decode cX5_gather 112 = .ok (.aload_n 0, 1) := by decide +kernel
theorem dX5_gather_113 : decode cX5_gather 113 = .ok (.getfield 13, 3) := by decide +kernel
theorem dX5_gather_116 : decode cX5_gather 116 = .ok (.iload_n 3, 1) := by decide +kernel
theorem dX5_gather_117 : decode cX5_gather 117 = .ok (.iconst 0, 1) := by decide +kernel
theorem dX5_gather_118 : decode cX5_gather 118 = .ok (.iastore, 1) := by decide +kernel
theorem dX5_gather_119 : decode cX5_gather 119 = .ok (.iinc 3 1, 3) := by decide +kernel
theorem dX5_gather_122 : decode cX5_gather 122 = .ok (.goto (-20), 3) := by decide +kernel
theorem dX5_gather_125 : decode cX5_gather 125 = .ok (.aload_n 0, 1) := by decide +kernel
theorem dX5_gather_126 : decode cX5_gather 126 = .ok (.getfield 73, 3) := by decide +kernel
theorem dX5_gather_129 : decode cX5_gather 129 = .ok (.iload_n 2, 1) := by decide +kernel
theorem dX5_gather_130 : decode cX5_gather 130 = .ok (.aload_n 0, 1) := by decide +kernel
theorem dX5_gather_131 : decode cX5_gather 131 = .ok (.getfield 22, 3) := by decide +kernel
theorem dX5_gather_134 : decode cX5_gather 134 = .ok (.iload_n 2, 1) := by decide +kernel
theorem dX5_gather_135 : decode cX5_gather 135 = .ok (.iaload, 1) := by decide +kernel
theorem dX5_gather_136 : decode cX5_gather 136 = .ok (.iastore, 1) := by decide +kernel
theorem dX5_gather_137 : decode cX5_gather 137 = .ok (.iinc 2 1, 3) := by decide +kernel
theorem dX5_gather_140 : decode cX5_gather 140 = .ok (.goto (-124), 3) := by decide +kernel
theorem dX5_gather_143 : decode cX5_gather 143 = .ok (.iconst 0, 1) := by decide +kernel
theorem dX5_gather_144 : decode cX5_gather 144 = .ok (.istore_n 2, 1) := by decide +kernel
theorem dX5_gather_145 : decode cX5_gather 145 = .ok (.iload_n 2, 1) := by decide +kernel
theorem dX5_gather_146 : decode cX5_gather 146 = .ok (.iconst 2, 1) := by decide +kernel
theorem dX5_gather_147 : decode cX5_gather 147 = .ok (.if_icmp .ge 70, 3) := by decide +kernel
theorem dX5_gather_150 : decode cX5_gather 150 = .ok (.aload_n 0, 1) := by decide +kernel
theorem dX5_gather_151 : decode cX5_gather 151 = .ok (.getfield 49, 3) := by decide +kernel
theorem dX5_gather_154 : decode cX5_gather 154 = .ok (.iload_n 2, 1) := by decide +kernel
theorem dX5_gather_155 : decode cX5_gather 155 = .ok (.aload_n 0, 1) := by decide +kernel
theorem dX5_gather_156 : decode cX5_gather 156 = .ok (.getfield 43, 3) := by decide +kernel
theorem dX5_gather_159 : decode cX5_gather 159 = .ok (.iload_n 2, 1) := by decide +kernel
theorem dX5_gather_160 : decode cX5_gather 160 = .ok (.iaload, 1) := by decide +kernel
theorem dX5_gather_161 : decode cX5_gather 161 = .ok (.iastore, 1) := by decide +kernel
theorem dX5_gather_162 : decode cX5_gather 162 = .ok (.aload_n 0, 1) := by decide +kernel
theorem dX5_gather_163 : decode cX5_gather 163 = .ok (.getfield 43, 3) := by decide +kernel
theorem dX5_gather_166 : decode cX5_gather 166 = .ok (.iload_n 2, 1) := by decide +kernel
theorem dX5_gather_167 : decode cX5_gather 167 = .ok (.iconst 0, 1) := by decide +kernel
theorem dX5_gather_168 : decode cX5_gather 168 = .ok (.iastore, 1) := by decide +kernel
theorem dX5_gather_169 : decode cX5_gather 169 = .ok (.iconst 0, 1) := by decide +kernel
theorem dX5_gather_170 : decode cX5_gather 170 = .ok (.istore_n 3, 1) := by decide +kernel
theorem dX5_gather_171 : decode cX5_gather 171 = .ok (.iload_n 3, 1) := by decide +kernel
theorem dX5_gather_172 : decode cX5_gather 172 = .ok (.aload_n 0, 1) := by decide +kernel
theorem dX5_gather_173 : decode cX5_gather 173 = .ok (.getfield 49, 3) := by decide +kernel
theorem dX5_gather_176 : decode cX5_gather 176 = .ok (.iload_n 2, 1) := by decide +kernel
theorem dX5_gather_177 : decode cX5_gather 177 = .ok (.iaload, 1) := by decide +kernel
theorem dX5_gather_178 : decode cX5_gather 178 = .ok (.if_icmp .ge 33, 3) := by decide +kernel
theorem dX5_gather_181 : decode cX5_gather 181 = .ok (.aload_n 0, 1) := by decide +kernel
theorem dX5_gather_182 : decode cX5_gather 182 = .ok (.getfield 52, 3) := by decide +kernel
theorem dX5_gather_185 : decode cX5_gather 185 = .ok (.sipush 1000, 3) := by decide +kernel
theorem dX5_gather_188 : decode cX5_gather 188 = .ok (.iload_n 2, 1) := by decide +kernel
theorem dX5_gather_189 : decode cX5_gather 189 = .ok (.imul, 1) := by decide +kernel
theorem dX5_gather_190 : decode cX5_gather 190 = .ok (.iload_n 3, 1) := by decide +kernel
theorem dX5_gather_191 : decode cX5_gather 191 = .ok (.iadd, 1) := by decide +kernel
theorem dX5_gather_192 : decode cX5_gather 192 = .ok (.aload_n 0, 1) := by decide +kernel
theorem dX5_gather_193 : decode cX5_gather 193 = .ok (.getfield 46, 3) := by decide +kernel
theorem dX5_gather_196 : decode cX5_gather 196 = .ok (.sipush 1000, 3) := by decide +kernel
theorem dX5_gather_199 : decode cX5_gather 199 = .ok (.iload_n 2, 1) := by decide +kernel
theorem dX5_gather_200 : decode cX5_gather 200 = .ok (.imul, 1) := by decide +kernel
theorem dX5_gather_201 : decode cX5_gather 201 = .ok (.iload_n 3, 1) := by decide +kernel
theorem dX5_gather_202 : decode cX5_gather 202 = .ok (.iadd, 1) := by decide +kernel
theorem dX5_gather_203 : decode cX5_gather 203 = .ok (.iaload, 1) := by decide +kernel
theorem dX5_gather_204 : decode cX5_gather 204 = .ok (.iastore, 1) := by decide +kernel
theorem dX5_gather_205 : decode cX5_gather 205 = .ok (.iinc 3 1, 3) := by decide +kernel
theorem dX5_gather_208 : decode cX5_gather 208 = .ok (.goto (-37), 3) := by decide +kernel
theorem dX5_gather_211 : decode cX5_gather 211 = .ok (.iinc 2 1, 3) := by decide +kernel
theorem dX5_gather_214 : decode cX5_gather 214 = .ok (.goto (-69), 3) := by decide +kernel
theorem dX5_gather_217 : decode cX5_gather 217 = .ok (.iconst 0, 1) := by decide +kernel
theorem dX5_gather_218 : decode cX5_gather 218 = .ok (.istore_n 2, 1) := by decide +kernel
theorem dX5_gather_219 : decode cX5_gather 219 = .ok (.iload_n 2, 1) := by decide +kernel
theorem dX5_gather_220 : decode cX5_gather 220 = .ok (.bipush 16, 2) := by decide +kernel
theorem dX5_gather_222 : decode cX5_gather 222 = .ok (.if_icmp .ge 25, 3) := by decide +kernel
theorem dX5_gather_225 : decode cX5_gather 225 = .ok (.aload_n 0, 1) := by decide +kernel
theorem dX5_gather_226 : decode cX5_gather 226 = .ok (.getfield 25, 3) := by decide +kernel
theorem dX5_gather_229 : decode cX5_gather 229 = .ok (.iload_n 2, 1) := by decide +kernel
theorem dX5_gather_230 : decode cX5_gather 230 = .ok (.aload_n 0, 1) := by decide +kernel
theorem dX5_gather_231 : decode cX5_gather 231 = .ok (.aload_n 0, 1) := by decide +kernel
theorem dX5_gather_232 : decode cX5_gather 232 = .ok (.getfield 25, 3) := by decide +kernel
theorem dX5_gather_235 : decode cX5_gather 235 = .ok (.iload_n 2, 1) := by decide +kernel
theorem dX5_gather_236 : decode cX5_gather 236 = .ok (.iaload, 1) := by decide +kernel
theorem dX5_gather_237 : decode cX5_gather 237 = .ok (.invokevirtual 148, 3) := by decide +kernel
theorem dX5_gather_240 : decode cX5_gather 240 = .ok (.iastore, 1) := by decide +kernel
theorem dX5_gather_241 : decode cX5_gather 241 = .ok (.iinc 2 1, 3) := by decide +kernel
theorem dX5_gather_244 : decode cX5_gather 244 = .ok (.goto (-25), 3) := by decide +kernel
theorem dX5_gather_247 : decode cX5_gather 247 = .ok (.iconst 0, 1) := by decide +kernel
theorem dX5_gather_248 : decode cX5_gather 248 = .ok (.istore_n 2, 1) := by decide +kernel
theorem dX5_gather_249 : decode cX5_gather 249 = .ok (.iload_n 2, 1) := by decide +kernel
theorem dX5_gather_250 : decode cX5_gather 250 = .ok (.aload_n 0, 1) := by decide +kernel
theorem dX5_gather_251 : decode cX5_gather 251 = .ok (.getfield 157, 3) := by decide +kernel
theorem dX5_gather_254 : decode cX5_gather 254 = .ok (.if_icmp .ge 25, 3) := by decide +kernel
theorem dX5_gather_257 : decode cX5_gather 257 = .ok (.aload_n 0, 1) := by decide +kernel
theorem dX5_gather_258 : decode cX5_gather 258 = .ok (.getfield 28, 3) := by decide +kernel
theorem dX5_gather_261 : decode cX5_gather 261 = .ok (.iload_n 2, 1) := by decide +kernel
theorem dX5_gather_262 : decode cX5_gather 262 = .ok (.aload_n 0, 1) := by decide +kernel
theorem dX5_gather_263 : decode cX5_gather 263 = .ok (.aload_n 0, 1) := by decide +kernel
theorem dX5_gather_264 : decode cX5_gather 264 = .ok (.getfield 28, 3) := by decide +kernel
theorem dX5_gather_267 : decode cX5_gather 267 = .ok (.iload_n 2, 1) := by decide +kernel
theorem dX5_gather_268 : decode cX5_gather 268 = .ok (.iaload, 1) := by decide +kernel
theorem dX5_gather_269 : decode cX5_gather 269 = .ok (.invokevirtual 148, 3) := by decide +kernel
theorem dX5_gather_272 : decode cX5_gather 272 = .ok (.iastore, 1) := by decide +kernel
theorem dX5_gather_273 : decode cX5_gather 273 = .ok (.iinc 2 1, 3) := by decide +kernel
theorem dX5_gather_276 : decode cX5_gather 276 = .ok (.goto (-27), 3) := by decide +kernel
theorem dX5_gather_279 : decode cX5_gather 279 = .ok (.iconst 0, 1) := by decide +kernel
theorem dX5_gather_280 : decode cX5_gather 280 = .ok (.istore_n 2, 1) := by decide +kernel
theorem dX5_gather_281 : decode cX5_gather 281 = .ok (.iload_n 2, 1) := by decide +kernel
theorem dX5_gather_282 : decode cX5_gather 282 = .ok (.aload_n 0, 1) := by decide +kernel
theorem dX5_gather_283 : decode cX5_gather 283 = .ok (.getfield 154, 3) := by decide +kernel
theorem dX5_gather_286 : decode cX5_gather 286 = .ok (.if_icmp .ge 25, 3) := by decide +kernel
theorem dX5_gather_289 : decode cX5_gather 289 = .ok (.aload_n 0, 1) := by decide +kernel
theorem dX5_gather_290 : decode cX5_gather 290 = .ok (.getfield 37, 3) := by decide +kernel
theorem dX5_gather_293 : decode cX5_gather 293 = .ok (.iload_n 2, 1) := by decide +kernel
theorem dX5_gather_294 : decode cX5_gather 294 = .ok (.aload_n 0, 1) := by decide +kernel
theorem dX5_gather_295 : decode cX5_gather 295 = .ok (.aload_n 0, 1) := by decide +kernel
theorem dX5_gather_296 : decode cX5_gather 296 = .ok (.getfield 37, 3) := by decide +kernel
theorem dX5_gather_299 : decode cX5_gather 299 = .ok (.iload_n 2, 1) := by decide +kernel
theorem dX5_gather_300 : decode cX5_gather 300 = .ok (.iaload, 1) := by decide +kernel
theorem dX5_gather_301 : decode cX5_gather 301 = .ok (.invokevirtual 148, 3) := by decide +kernel
theorem dX5_gather_304 : decode cX5_gather 304 = .ok (.iastore, 1) := by decide +kernel
theorem dX5_gather_305 : decode cX5_gather 305 = .ok (.iinc 2 1, 3) := by decide +kernel
theorem dX5_gather_308 : decode cX5_gather 308 = .ok (.goto (-27), 3) := by decide +kernel
theorem dX5_gather_311 : decode cX5_gather 311 = .ok (.aload_n 0, 1) := by decide +kernel
theorem dX5_gather_312 : decode cX5_gather 312 = .ok (.iload_n 1, 1) := by decide +kernel
theorem dX5_gather_313 : decode cX5_gather 313 = .ok (.invokevirtual 160, 3) := by decide +kernel
theorem dX5_gather_316 : decode cX5_gather 316 = .ok (.aload_n 0, 1) := by decide +kernel
theorem dX5_gather_317 : decode cX5_gather 317 = .ok (.invokevirtual 163, 3) := by decide +kernel
theorem dX5_gather_320 : decode cX5_gather 320 = .ok (.aload_n 0, 1) := by decide +kernel
theorem dX5_gather_321 : decode cX5_gather 321 = .ok (.invokevirtual 166, 3) := by decide +kernel
theorem dX5_gather_324 : decode cX5_gather 324 = .ok (.aload_n 0, 1) := by decide +kernel
theorem dX5_gather_325 : decode cX5_gather 325 = .ok (.invokevirtual 163, 3) := by decide +kernel
theorem dX5_gather_328 : decode cX5_gather 328 = .ok (.iconst 0, 1) := by decide +kernel
theorem dX5_gather_329 : decode cX5_gather 329 = .ok (.istore_n 2, 1) := by decide +kernel
theorem dX5_gather_330 : decode cX5_gather 330 = .ok (.iload_n 2, 1) := by decide +kernel
theorem dX5_gather_331 : decode cX5_gather 331 = .ok (.bipush 8, 2) := by decide +kernel
theorem dX5_gather_333 : decode cX5_gather 333 = .ok (.if_icmp .ge 48, 3) := by decide +kernel
theorem dX5_gather_336 : decode cX5_gather 336 = .ok (.aload_n 0, 1) := by decide +kernel
theorem dX5_gather_337 : decode cX5_gather 337 = .ok (.getfield 31, 3) := by decide +kernel
theorem dX5_gather_340 : decode cX5_gather 340 = .ok (.iload_n 2, 1) := by decide +kernel
theorem dX5_gather_341 : decode cX5_gather 341 = .ok (.aload_n 0, 1) := by decide +kernel
theorem dX5_gather_342 : decode cX5_gather 342 = .ok (.aload_n 0, 1) := by decide +kernel
theorem dX5_gather_343 : decode cX5_gather 343 = .ok (.getfield 31, 3) := by decide +kernel
theorem dX5_gather_346 : decode cX5_gather 346 = .ok (.iload_n 2, 1) := by decide +kernel
theorem dX5_gather_347 : decode cX5_gather 347 = .ok (.iaload, 1) := by decide +kernel
theorem dX5_gather_348 : decode cX5_gather 348 = .ok (.invokevirtual 141, 3) := by decide +kernel
theorem dX5_gather_351 : decode cX5_gather 351 = .ok (.ifCond .eq 17, 3) := by decide +kernel
theorem dX5_gather_354 : decode cX5_gather 354 = .ok (.aload_n 0, 1) := by decide +kernel
theorem dX5_gather_355 : decode cX5_gather 355 = .ok (.getfield 13, 3) := by decide +kernel
theorem dX5_gather_358 : decode cX5_gather 358 = .ok (.aload_n 0, 1) := by decide +kernel
theorem dX5_gather_359 : decode cX5_gather 359 = .ok (.getfield 31, 3) := by decide +kernel
theorem dX5_gather_362 : decode cX5_gather 362 = .ok (.iload_n 2, 1) := by decide +kernel
theorem dX5_gather_363 : decode cX5_gather 363 = .ok (.iaload, 1) := by decide +kernel
theorem dX5_gather_364 : decode cX5_gather 364 = .ok (.iaload, 1) := by decide +kernel
theorem dX5_gather_365 : decode cX5_gather 365 = .ok (.goto 9, 3) := by decide +kernel
theorem dX5_gather_368 : decode cX5_gather 368 = .ok (.aload_n 0, 1) := by decide +kernel
theorem dX5_gather_369 : decode cX5_gather 369 = .ok (.getfield 31, 3) := by decide +kernel
theorem dX5_gather_372 : decode cX5_gather 372 = .ok (.iload_n 2, 1) := by decide +kernel
theorem dX5_gather_373 : decode cX5_gather 373 = .ok (.iaload, 1) := by decide +kernel
theorem dX5_gather_374 : decode cX5_gather 374 = .ok (.iastore, 1) := by decide +kernel
theorem dX5_gather_375 : decode cX5_gather 375 = .ok (.iinc 2 1, 3) := by decide +kernel
theorem dX5_gather_378 : decode cX5_gather 378 = .ok (.goto (-48), 3) := by decide +kernel
theorem dX5_gather_381 : decode cX5_gather 381 = .ok (.aload_n 0, 1) := by decide +kernel
theorem dX5_gather_382 : decode cX5_gather 382 = .ok (.getfield 55, 3) := by decide +kernel
theorem dX5_gather_385 : decode cX5_gather 385 = .ok (.iload_n 1, 1) := by decide +kernel
theorem dX5_gather_386 : decode cX5_gather 386 = .ok (.dup2, 1) := by decide +kernel
theorem dX5_gather_387 : decode cX5_gather 387 = .ok (.iaload, 1) := by decide +kernel
theorem dX5_gather_388 : decode cX5_gather 388 = .ok (.iconst 1, 1) := by decide +kernel
theorem dX5_gather_389 : decode cX5_gather 389 = .ok (.iadd, 1) := by decide +kernel
theorem dX5_gather_390 : decode cX5_gather 390 = .ok (.iastore, 1) := by decide +kernel
theorem dX5_gather_391 : decode cX5_gather 391 = .ok (.aload_n 0, 1) := by decide +kernel
theorem dX5_gather_392 : decode cX5_gather 392 = .ok (.aload_n 0, 1) := by decide +kernel
theorem dX5_gather_393 : decode cX5_gather 393 = .ok (.getfield 169, 3) := by decide +kernel
theorem dX5_gather_396 : decode cX5_gather 396 = .ok (.aload_n 0, 1) := by decide +kernel
theorem dX5_gather_397 : decode cX5_gather 397 = .ok (.getfield 138, 3) := by decide +kernel
theorem dX5_gather_400 : decode cX5_gather 400 = .ok (.iadd, 1) := by decide +kernel
theorem dX5_gather_401 : decode cX5_gather 401 = .ok (.putfield 169, 3) := by decide +kernel
theorem dX5_gather_404 : decode cX5_gather 404 = .ok (.aload_n 0, 1) := by decide +kernel
theorem dX5_gather_405 : decode cX5_gather 405 = .ok (.getfield 138, 3) := by decide +kernel
theorem dX5_gather_408 : decode cX5_gather 408 = .ok (.ireturn, 1) := by decide +kernel
theorem dX5_object_0 : decode cX5_object 0 = .ok (.iconst 0, 1) := by decide +kernel
theorem dX5_object_1 : decode cX5_object 1 = .ok (.istore 4, 2) := by decide +kernel
theorem dX5_object_3 : decode cX5_object 3 = .ok (.iload 4, 2) := by decide +kernel
theorem dX5_object_5 : decode cX5_object 5 = .ok (.iconst 3, 1) := by decide +kernel
theorem dX5_object_6 : decode cX5_object 6 = .ok (.if_icmp .ge 35, 3) := by decide +kernel
theorem dX5_object_9 : decode cX5_object 9 = .ok (.aload_n 0, 1) := by decide +kernel
theorem dX5_object_10 : decode cX5_object 10 = .ok (.getfield 22, 3) := by decide +kernel
theorem dX5_object_13 : decode cX5_object 13 = .ok (.iconst 0, 1) := by decide +kernel
theorem dX5_object_14 : decode cX5_object 14 = .ok (.iaload, 1) := by decide +kernel
theorem dX5_object_15 : decode cX5_object 15 = .ok (.iload_n 1, 1) := by decide +kernel
theorem dX5_object_16 : decode cX5_object 16 = .ok (.iadd, 1) := by decide +kernel
theorem dX5_object_17 : decode cX5_object 17 = .ok (.iconst 2, 1) := by decide +kernel
theorem dX5_object_18 : decode cX5_object 18 = .ok (.iadd, 1) := by decide +kernel
theorem dX5_object_19 : decode cX5_object 19 = .ok (.aload_n 0, 1) := by decide +kernel
theorem dX5_object_20 : decode cX5_object 20 = .ok (.iconst 0, 1) := by decide +kernel
theorem dX5_object_21 : decode cX5_object 21 = .ok (.invokevirtual 94, 3) := by decide +kernel
theorem dX5_object_24 : decode cX5_object 24 = .ok (.if_icmp .le 17, 3) := by decide +kernel
theorem dX5_object_27 : decode cX5_object 27 = .ok (.aload_n 0, 1) := by decide +kernel
theorem dX5_object_28 : decode cX5_object 28 = .ok (.iload 4, 2) := by decide +kernel
theorem dX5_object_30 : decode cX5_object 30 = .ok (.invokevirtual 172, 3) := by decide +kernel
theorem dX5_object_33 : decode cX5_object 33 = .ok (.istore 5, 2) := by decide +kernel
theorem dX5_object_35 : decode cX5_object 35 = .ok (.iinc 4 1, 3) := by decide +kernel
theorem dX5_object_38 : decode cX5_object 38 = .ok (.goto (-35), 3) := by decide +kernel
theorem dX5_object_41 : decode cX5_object 41 = .ok (.aload_n 0, 1) := by decide +kernel
theorem dX5_object_42 : decode cX5_object 42 = .ok (.getfield 22, 3) := by decide +kernel
theorem dX5_object_45 : decode cX5_object 45 = .ok (.iconst 0, 1) := by decide +kernel
theorem dX5_object_46 : decode cX5_object 46 = .ok (.iaload, 1) := by decide +kernel
theorem dX5_object_47 : decode cX5_object 47 = .ok (.iload_n 1, 1) := by decide +kernel
theorem dX5_object_48 : decode cX5_object 48 = .ok (.iadd, 1) := by decide +kernel
theorem dX5_object_49 : decode cX5_object 49 = .ok (.iconst 2, 1) := by decide +kernel
theorem dX5_object_50 : decode cX5_object 50 = .ok (.iadd, 1) := by decide +kernel
theorem dX5_object_51 : decode cX5_object 51 = .ok (.aload_n 0, 1) := by decide +kernel
theorem dX5_object_52 : decode cX5_object 52 = .ok (.iconst 0, 1) := by decide +kernel
theorem dX5_object_53 : decode cX5_object 53 = .ok (.invokevirtual 94, 3) := by decide +kernel
theorem dX5_object_56 : decode cX5_object 56 = .ok (.if_icmp .le 5, 3) := by decide +kernel
theorem dX5_object_59 : decode cX5_object 59 = .ok (.iconst 0, 1) := by decide +kernel
theorem dX5_object_60 : decode cX5_object 60 = .ok (.ireturn, 1) := by decide +kernel
theorem dX5_object_61 : decode cX5_object 61 = .ok (.aload_n 0, 1) := by decide +kernel
theorem dX5_object_62 : decode cX5_object 62 = .ok (.iconst 0, 1) := by decide +kernel
theorem dX5_object_63 : decode cX5_object 63 = .ok (.aload_n 0, 1) := by decide +kernel
theorem dX5_object_64 : decode cX5_object 64 = .ok (.getfield 19, 3) := by decide +kernel
theorem dX5_object_67 : decode cX5_object 67 = .ok (.iconst 0, 1) := by decide +kernel
theorem dX5_object_68 : decode cX5_object 68 = .ok (.iaload, 1) := by decide +kernel
theorem dX5_object_69 : decode cX5_object 69 = .ok (.invokevirtual 131, 3) := by decide +kernel
theorem dX5_object_72 : decode cX5_object 72 = .ok (.aload_n 0, 1) := by decide +kernel
theorem dX5_object_73 : decode cX5_object 73 = .ok (.getfield 22, 3) := by decide +kernel
theorem dX5_object_76 : decode cX5_object 76 = .ok (.iconst 0, 1) := by decide +kernel
theorem dX5_object_77 : decode cX5_object 77 = .ok (.iaload, 1) := by decide +kernel
theorem dX5_object_78 : decode cX5_object 78 = .ok (.iadd, 1) := by decide +kernel
theorem dX5_object_79 : decode cX5_object 79 = .ok (.istore 4, 2) := by decide +kernel
theorem dX5_object_81 : decode cX5_object 81 = .ok (.aload_n 0, 1) := by decide +kernel
theorem dX5_object_82 : decode cX5_object 82 = .ok (.getfield 22, 3) := by decide +kernel
theorem dX5_object_85 : decode cX5_object 85 = .ok (.iconst 0, 1) := by decide +kernel
theorem dX5_object_86 : decode cX5_object 86 = .ok (.aload_n 0, 1) := by decide +kernel
theorem dX5_object_87 : decode cX5_object 87 = .ok (.getfield 22, 3) := by decide +kernel
theorem dX5_object_90 : decode cX5_object 90 = .ok (.iconst 0, 1) := by decide +kernel
theorem dX5_object_91 : decode cX5_object 91 = .ok (.iaload, 1) := by decide +kernel
theorem dX5_object_92 : decode cX5_object 92 = .ok (.iload_n 1, 1) := by decide +kernel
theorem dX5_object_93 : decode cX5_object 93 = .ok (.iadd, 1) := by decide +kernel
theorem dX5_object_94 : decode cX5_object 94 = .ok (.iconst 2, 1) := by decide +kernel
theorem dX5_object_95 : decode cX5_object 95 = .ok (.iadd, 1) := by decide +kernel
theorem dX5_object_96 : decode cX5_object 96 = .ok (.iastore, 1) := by decide +kernel
theorem dX5_object_97 : decode cX5_object 97 = .ok (.aload_n 0, 1) := by decide +kernel
theorem dX5_object_98 : decode cX5_object 98 = .ok (.getfield 7, 3) := by decide +kernel
theorem dX5_object_101 : decode cX5_object 101 = .ok (.iload 4, 2) := by decide +kernel
theorem dX5_object_103 : decode cX5_object 103 = .ok (.iload_n 1, 1) := by decide +kernel
theorem dX5_object_104 : decode cX5_object 104 = .ok (.iload_n 3, 1) := by decide +kernel
theorem dX5_object_105 : decode cX5_object 105 = .ok (.ifCond .eq 8, 3) := by decide +kernel
theorem dX5_object_108 : decode cX5_object 108 = .ok (.bipush 64, 2) := by decide +kernel
theorem dX5_object_110 : decode cX5_object 110 = .ok (.goto 4, 3) := by decide +kernel
theorem dX5_object_113 : decode cX5_object 113 = .ok (.iconst 0, 1) := by decide +kernel
theorem dX5_object_114 : decode cX5_object 114 = .ok (.iadd, 1) := by decide +kernel
theorem dX5_object_115 : decode cX5_object 115 = .ok (.iastore, 1) := by decide +kernel
theorem dX5_object_116 : decode cX5_object 116 = .ok (.aload_n 0, 1) := by decide +kernel
theorem dX5_object_117 : decode cX5_object 117 = .ok (.getfield 7, 3) := by decide +kernel
theorem dX5_object_120 : decode cX5_object 120 = .ok (.iload 4, 2) := by decide +kernel
theorem dX5_object_122 : decode cX5_object 122 = .ok (.iconst 1, 1) := by decide +kernel
theorem dX5_object_123 : decode cX5_object 123 = .ok (.iadd, 1) := by decide +kernel
theorem dX5_object_124 : decode cX5_object 124 = .ok (.iload_n 2, 1) := by decide +kernel
theorem dX5_object_125 : decode cX5_object 125 = .ok (.iastore, 1) := by decide +kernel
theorem dX5_object_126 : decode cX5_object 126 = .ok (.iconst 0, 1) := by decide +kernel
theorem dX5_object_127 : decode cX5_object 127 = .ok (.istore 5, 2) := by decide +kernel
theorem dX5_object_129 : decode cX5_object 129 = .ok (.iload 5, 2) := by decide +kernel
theorem dX5_object_131 : decode cX5_object 131 = .ok (.iload_n 1, 1) := by decide +kernel
theorem dX5_object_132 : decode cX5_object 132 = .ok (.if_icmp .ge 22, 3) := by decide +kernel
theorem dX5_object_135 : decode cX5_object 135 = .ok (.aload_n 0, 1) := by decide +kernel
theorem dX5_object_136 : decode cX5_object 136 = .ok (.getfield 7, 3) := by decide +kernel
theorem dX5_object_139 : decode cX5_object 139 = .ok (.iload 4, 2) := by decide +kernel
theorem dX5_object_141 : decode cX5_object 141 = .ok (.iconst 2, 1) := by decide +kernel
theorem dX5_object_142 : decode cX5_object 142 = .ok (.iadd, 1) := by decide +kernel
theorem dX5_object_143 : decode cX5_object 143 = .ok (.iload 5, 2) := by decide +kernel
theorem dX5_object_145 : decode cX5_object 145 = .ok (.iadd, 1) := by decide +kernel
theorem dX5_object_146 : decode cX5_object 146 = .ok (.iconst 0, 1) := by decide +kernel
theorem dX5_object_147 : decode cX5_object 147 = .ok (.iastore, 1) := by decide +kernel
theorem dX5_object_148 : decode cX5_object 148 = .ok (.iinc 5 1, 3) := by decide +kernel
theorem dX5_object_151 : decode cX5_object 151 = .ok (.goto (-22), 3) := by decide +kernel
theorem dX5_object_154 : decode cX5_object 154 = .ok (.iload_n 3, 1) := by decide +kernel
theorem dX5_object_155 : decode cX5_object 155 = .ok (.ifCond .eq 24, 3) := by decide +kernel
theorem dX5_object_158 : decode cX5_object 158 = .ok (.aload_n 0, 1) := by decide +kernel
theorem dX5_object_159 : decode cX5_object 159 = .ok (.getfield 34, 3) := by decide +kernel
theorem dX5_object_162 : decode cX5_object 162 = .ok (.aload_n 0, 1) := by decide +kernel
theorem dX5_object_163 : decode cX5_object 163 = .ok (.getfield 151, 3) := by decide +kernel
theorem dX5_object_166 : decode cX5_object 166 = .ok (.iload 4, 2) := by decide +kernel
theorem dX5_object_168 : decode cX5_object 168 = .ok (.iastore, 1) := by decide +kernel
theorem dX5_object_169 : decode cX5_object 169 = .ok (.aload_n 0, 1) := by decide +kernel
theorem dX5_object_170 : decode cX5_object 170 = .ok (.dup, 1) := by decide +kernel
theorem dX5_object_171 : decode cX5_object 171 = .ok (.getfield 151, 3) := by decide +kernel
theorem dX5_object_174 : decode cX5_object 174 = .ok (.iconst 1, 1) := by decide +kernel
theorem dX5_object_175 : decode cX5_object 175 = .ok (.iadd, 1) := by decide +kernel
theorem dX5_object_176 : decode cX5_object 176 = .ok (.putfield 151, 3) := by decide +kernel
theorem dX5_object_179 : decode cX5_object 179 = .ok (.iload 4, 2) := by decide +kernel
theorem dX5_object_181 : decode cX5_object 181 = .ok (.ireturn, 1) := by decide +kernel
theorem dX5_make_0 : decode cX5_make 0 = .ok (.aload_n 0, 1) := by decide +kernel
theorem dX5_make_1 : decode cX5_make 1 = .ok (.iload_n 1, 1) := by decide +kernel
theorem dX5_make_2 : decode cX5_make 2 = .ok (.invokestatic 175, 3) := by decide +kernel
theorem dX5_make_5 : decode cX5_make 5 = .ok (.ifCond .ne 7, 3) := by decide +kernel
theorem dX5_make_8 : decode cX5_make 8 = .ok (.iconst 1, 1) := by decide +kernel
theorem dX5_make_9 : decode cX5_make 9 = .ok (.goto 18, 3) := by decide +kernel
theorem dX5_make_12 : decode cX5_make 12 = .ok (.iload_n 2, 1) := by decide +kernel
theorem dX5_make_13 : decode cX5_make 13 = .ok (.iconst 0, 1) := by decide +kernel
theorem dX5_make_14 : decode cX5_make 14 = .ok (.bipush 6, 2) := by decide +kernel
theorem dX5_make_16 : decode cX5_make 16 = .ok (.invokestatic 90, 3) := by decide +kernel
theorem dX5_make_19 : decode cX5_make 19 = .ok (.ifCond .ne 7, 3) := by decide +kernel
theorem dX5_make_22 : decode cX5_make 22 = .ok (.iconst 2, 1) := by decide +kernel
theorem dX5_make_23 : decode cX5_make 23 = .ok (.goto 4, 3) := by decide +kernel
theorem dX5_make_26 : decode cX5_make 26 = .ok (.iconst 0, 1) := by decide +kernel
theorem dX5_make_27 : decode cX5_make 27 = .ok (.putfield 87, 3) := by decide +kernel
theorem dX5_make_30 : decode cX5_make 30 = .ok (.aload_n 0, 1) := by decide +kernel
theorem dX5_make_31 : decode cX5_make 31 = .ok (.getfield 87, 3) := by decide +kernel
theorem dX5_make_34 : decode cX5_make 34 = .ok (.ifCond .le 5, 3) := by decide +kernel
theorem dX5_make_37 : decode cX5_make 37 = .ok (.iconst 0, 1) := by decide +kernel
theorem dX5_make_38 : decode cX5_make 38 = .ok (.ireturn, 1) := by decide +kernel
theorem dX5_make_39 : decode cX5_make 39 = .ok (.aload_n 0, 1) := by decide +kernel
theorem dX5_make_40 : decode cX5_make 40 = .ok (.iload_n 2, 1) := by decide +kernel
theorem dX5_make_41 : decode cX5_make 41 = .ok (.iload_n 3, 1) := by decide +kernel
theorem dX5_make_42 : decode cX5_make 42 = .ok (.iload 4, 2) := by decide +kernel
theorem dX5_make_44 : decode cX5_make 44 = .ok (.invokevirtual 178, 3) := by decide +kernel
theorem dX5_make_47 : decode cX5_make 47 = .ok (.istore 5, 2) := by decide +kernel
theorem dX5_make_49 : decode cX5_make 49 = .ok (.aload_n 0, 1) := by decide +kernel
theorem dX5_make_50 : decode cX5_make 50 = .ok (.getfield 25, 3) := by decide +kernel
theorem dX5_make_53 : decode cX5_make 53 = .ok (.iload_n 1, 1) := by decide +kernel
theorem dX5_make_54 : decode cX5_make 54 = .ok (.iload 5, 2) := by decide +kernel
theorem dX5_make_56 : decode cX5_make 56 = .ok (.ifCond .eq 8, 3) := by decide +kernel
theorem dX5_make_59 : decode cX5_make 59 = .ok (.iload 5, 2) := by decide +kernel
theorem dX5_make_61 : decode cX5_make 61 = .ok (.goto 9, 3) := by decide +kernel
theorem dX5_make_64 : decode cX5_make 64 = .ok (.aload_n 0, 1) := by decide +kernel
theorem dX5_make_65 : decode cX5_make 65 = .ok (.getfield 25, 3) := by decide +kernel
theorem dX5_make_68 : decode cX5_make 68 = .ok (.iload_n 1, 1) := by decide +kernel
theorem dX5_make_69 : decode cX5_make 69 = .ok (.iaload, 1) := by decide +kernel
theorem dX5_make_70 : decode cX5_make 70 = .ok (.iastore, 1) := by decide +kernel
theorem dX5_make_71 : decode cX5_make 71 = .ok (.iload 5, 2) := by decide +kernel
theorem dX5_make_73 : decode cX5_make 73 = .ok (.ireturn, 1) := by decide +kernel
theorem dX5_push_0 : decode cX5_push 0 = .ok (.aload_n 0, 1) := by decide +kernel
theorem dX5_push_1 : decode cX5_push 1 = .ok (.iload_n 1, 1) := by decide +kernel
theorem dX5_push_2 : decode cX5_push 2 = .ok (.invokestatic 175, 3) := by decide +kernel
theorem dX5_push_5 : decode cX5_push 5 = .ok (.ifCond .ne 7, 3) := by decide +kernel
theorem dX5_push_8 : decode cX5_push 8 = .ok (.iconst 1, 1) := by decide +kernel
theorem dX5_push_9 : decode cX5_push 9 = .ok (.goto 18, 3) := by decide +kernel
theorem dX5_push_12 : decode cX5_push 12 = .ok (.iload_n 3, 1) := by decide +kernel
theorem dX5_push_13 : decode cX5_push 13 = .ok (.iconst 1, 1) := by decide +kernel
theorem dX5_push_14 : decode cX5_push 14 = .ok (.bipush 40, 2) := by decide +kernel
theorem dX5_push_16 : decode cX5_push 16 = .ok (.invokestatic 90, 3) := by decide +kernel
theorem dX5_push_19 : decode cX5_push 19 = .ok (.ifCond .ne 7, 3) := by decide +kernel
theorem dX5_push_22 : decode cX5_push 22 = .ok (.iconst 2, 1) := by decide +kernel
theorem dX5_push_23 : decode cX5_push 23 = .ok (.goto 4, 3) := by decide +kernel
theorem dX5_push_26 : decode cX5_push 26 = .ok (.iconst 0, 1) := by decide +kernel
theorem dX5_push_27 : decode cX5_push 27 = .ok (.putfield 87, 3) := by decide +kernel
theorem dX5_push_30 : decode cX5_push 30 = .ok (.iconst 0, 1) := by decide +kernel
theorem dX5_push_31 : decode cX5_push 31 = .ok (.istore 4, 2) := by decide +kernel
theorem dX5_push_33 : decode cX5_push 33 = .ok (.iconst 1, 1) := by decide +kernel
theorem dX5_push_34 : decode cX5_push 34 = .ok (.istore 5, 2) := by decide +kernel
theorem dX5_push_36 : decode cX5_push 36 = .ok (.aload_n 0, 1) := by decide +kernel
theorem dX5_push_37 : decode cX5_push 37 = .ok (.getfield 87, 3) := by decide +kernel
theorem dX5_push_40 : decode cX5_push 40 = .ok (.ifCond .ne 59, 3) := by decide +kernel
theorem dX5_push_43 : decode cX5_push 43 = .ok (.iload 5, 2) := by decide +kernel
theorem dX5_push_45 : decode cX5_push 45 = .ok (.ifCond .eq 54, 3) := by decide +kernel
theorem dX5_push_48 : decode cX5_push 48 = .ok (.iload 4, 2) := by decide +kernel
theorem dX5_push_50 : decode cX5_push 50 = .ok (.iload_n 3, 1) := by decide +kernel
theorem dX5_push_51 : decode cX5_push 51 = .ok (.if_icmp .ge 48, 3) := by decide +kernel
theorem dX5_push_54 : decode cX5_push 54 = .ok (.aload_n 0, 1) := by decide +kernel
theorem dX5_push_55 : decode cX5_push 55 = .ok (.iconst 2, 1) := by decide +kernel
theorem dX5_push_56 : decode cX5_push 56 = .ok (.iload_n 2, 1) := by decide +kernel
theorem dX5_push_57 : decode cX5_push 57 = .ok (.iload 4, 2) := by decide +kernel
theorem dX5_push_59 : decode cX5_push 59 = .ok (.iadd, 1) := by decide +kernel
theorem dX5_push_60 : decode cX5_push 60 = .ok (.iconst 0, 1) := by decide +kernel
theorem dX5_push_61 : decode cX5_push 61 = .ok (.invokevirtual 178, 3) := by decide +kernel
theorem dX5_push_64 : decode cX5_push 64 = .ok (.istore 5, 2) := by decide +kernel
theorem dX5_push_66 : decode cX5_push 66 = .ok (.iload 5, 2) := by decide +kernel
theorem dX5_push_68 : decode cX5_push 68 = .ok (.ifCond .eq (-32), 3) := by decide +kernel
theorem dX5_push_71 : decode cX5_push 71 = .ok (.aload_n 0, 1) := by decide +kernel
theorem dX5_push_72 : decode cX5_push 72 = .ok (.iload 5, 2) := by decide +kernel
theorem dX5_push_74 : decode cX5_push 74 = .ok (.iconst 2, 1) := by decide +kernel
theorem dX5_push_75 : decode cX5_push 75 = .ok (.iadd, 1) := by decide +kernel
theorem dX5_push_76 : decode cX5_push 76 = .ok (.aload_n 0, 1) := by decide +kernel
theorem dX5_push_77 : decode cX5_push 77 = .ok (.getfield 25, 3) := by decide +kernel
theorem dX5_push_80 : decode cX5_push 80 = .ok (.iload_n 1, 1) := by decide +kernel
theorem dX5_push_81 : decode cX5_push 81 = .ok (.iaload, 1) := by decide +kernel
theorem dX5_push_82 : decode cX5_push 82 = .ok (.invokevirtual 182, 3) := by decide +kernel
theorem dX5_push_85 : decode cX5_push 85 = .ok (.aload_n 0, 1) := by decide +kernel
theorem dX5_push_86 : decode cX5_push 86 = .ok (.getfield 25, 3) := by decide +kernel
theorem dX5_push_89 : decode cX5_push 89 = .ok (.iload_n 1, 1) := by decide +kernel
theorem dX5_push_90 : decode cX5_push 90 = .ok (.iload 5, 2) := by decide +kernel
theorem dX5_push_92 : decode cX5_push 92 = .ok (.iastore, 1) := by decide +kernel
theorem dX5_push_93 : decode cX5_push 93 = .ok (.iinc 4 1, 3) := by decide +kernel
theorem dX5_push_96 : decode cX5_push 96 = .ok (.goto (-60), 3) := by decide +kernel
theorem dX5_push_99 : decode cX5_push 99 = .ok (.iload 4, 2) := by decide +kernel
theorem dX5_push_101 : decode cX5_push 101 = .ok (.ireturn, 1) := by decide +kernel
theorem dX5_hasField_0 : decode cX5_hasField 0 = .ok (.aload_n 0, 1) := by decide +kernel
theorem dX5_hasField_1 : decode cX5_hasField 1 = .ok (.aload_n 0, 1) := by decide +kernel
theorem dX5_hasField_2 : decode cX5_hasField 2 = .ok (.getfield 25, 3) := by decide +kernel
theorem dX5_hasField_5 : decode cX5_hasField 5 = .ok (.iload_n 1, 1) := by decide +kernel
theorem dX5_hasField_6 : decode cX5_hasField 6 = .ok (.iaload, 1) := by decide +kernel
theorem dX5_hasField_7 : decode cX5_hasField 7 = .ok (.ifCond .ne 7, 3) := by decide +kernel
theorem dX5_hasField_10 : decode cX5_hasField 10 = .ok (.iconst 2, 1) := by decide +kernel
theorem dX5_hasField_11 : decode cX5_hasField 11 = .ok (.goto 28, 3) := by decide +kernel
theorem dX5_hasField_14 : decode cX5_hasField 14 = .ok (.iload_n 2, 1) := by decide +kernel
theorem dX5_hasField_15 : decode cX5_hasField 15 = .ok (.iconst 0, 1) := by decide +kernel
theorem dX5_hasField_16 : decode cX5_hasField 16 = .ok (.aload_n 0, 1) := by decide +kernel
theorem dX5_hasField_17 : decode cX5_hasField 17 = .ok (.aload_n 0, 1) := by decide +kernel
theorem dX5_hasField_18 : decode cX5_hasField 18 = .ok (.getfield 25, 3) := by decide +kernel
theorem dX5_hasField_21 : decode cX5_hasField 21 = .ok (.iload_n 1, 1) := by decide +kernel
theorem dX5_hasField_22 : decode cX5_hasField 22 = .ok (.iaload, 1) := by decide +kernel
theorem dX5_hasField_23 : decode cX5_hasField 23 = .ok (.invokevirtual 121, 3) := by decide +kernel
theorem dX5_hasField_26 : decode cX5_hasField 26 = .ok (.iconst 1, 1) := by decide +kernel
theorem dX5_hasField_27 : decode cX5_hasField 27 = .ok (.isub, 1) := by decide +kernel
theorem dX5_hasField_28 : decode cX5_hasField 28 = .ok (.invokestatic 90, 3) := by decide +kernel
theorem dX5_hasField_31 : decode cX5_hasField 31 = .ok (.ifCond .ne 7, 3) := by decide +kernel
theorem dX5_hasField_34 : decode cX5_hasField 34 = .ok (.iconst 1, 1) := by decide +kernel
theorem dX5_hasField_35 : decode cX5_hasField 35 = .ok (.goto 4, 3) := by decide +kernel
theorem dX5_hasField_38 : decode cX5_hasField 38 = .ok (.iconst 0, 1) := by decide +kernel
theorem dX5_hasField_39 : decode cX5_hasField 39 = .ok (.putfield 87, 3) := by decide +kernel
theorem dX5_hasField_42 : decode cX5_hasField 42 = .ok (.aload_n 0, 1) := by decide +kernel
theorem dX5_hasField_43 : decode cX5_hasField 43 = .ok (.getfield 87, 3) := by decide +kernel
theorem dX5_hasField_46 : decode cX5_hasField 46 = .ok (.ifCond .ne 7, 3) := by decide +kernel
theorem dX5_hasField_49 : decode cX5_hasField 49 = .ok (.iconst 1, 1) := by decide +kernel
theorem dX5_hasField_50 : decode cX5_hasField 50 = .ok (.goto 4, 3) := by decide +kernel
theorem dX5_hasField_53 : decode cX5_hasField 53 = .ok (.iconst 0, 1) := by decide +kernel
theorem dX5_hasField_54 : decode cX5_hasField 54 = .ok (.ireturn, 1) := by decide +kernel
theorem dX5_put_0 : decode cX5_put 0 = .ok (.aload_n 0, 1) := by decide +kernel
theorem dX5_put_1 : decode cX5_put 1 = .ok (.iload_n 1, 1) := by decide +kernel
theorem dX5_put_2 : decode cX5_put 2 = .ok (.invokestatic 175, 3) := by decide +kernel
theorem dX5_put_5 : decode cX5_put 5 = .ok (.ifCond .eq 19, 3) := by decide +kernel
theorem dX5_put_8 : decode cX5_put 8 = .ok (.iload_n 3, 1) := by decide +kernel
theorem dX5_put_9 : decode cX5_put 9 = .ok (.iconst (-1), 1) := by decide +kernel
theorem dX5_put_10 : decode cX5_put 10 = .ok (.if_icmp .eq 10, 3) := by decide +kernel
theorem dX5_put_13 : decode cX5_put 13 = .ok (.iload_n 3, 1) := by decide +kernel
theorem dX5_put_14 : decode cX5_put 14 = .ok (.invokestatic 175, 3) := by decide +kernel
theorem dX5_put_17 : decode cX5_put 17 = .ok (.ifCond .eq 7, 3) := by decide +kernel
theorem dX5_put_20 : decode cX5_put 20 = .ok (.iconst 0, 1) := by decide +kernel
theorem dX5_put_21 : decode cX5_put 21 = .ok (.goto 4, 3) := by decide +kernel
theorem dX5_put_24 : decode cX5_put 24 = .ok (.iconst 1, 1) := by decide +kernel
theorem dX5_put_25 : decode cX5_put 25 = .ok (.putfield 87, 3) := by decide +kernel
theorem dX5_put_28 : decode cX5_put 28 = .ok (.aload_n 0, 1) := by decide +kernel
theorem dX5_put_29 : decode cX5_put 29 = .ok (.getfield 87, 3) := by decide +kernel
theorem dX5_put_32 : decode cX5_put 32 = .ok (.ifCond .gt 12, 3) := by decide +kernel
theorem dX5_put_35 : decode cX5_put 35 = .ok (.aload_n 0, 1) := by decide +kernel
theorem dX5_put_36 : decode cX5_put 36 = .ok (.iload_n 1, 1) := by decide +kernel
theorem dX5_put_37 : decode cX5_put 37 = .ok (.iload_n 2, 1) := by decide +kernel
theorem dX5_put_38 : decode cX5_put 38 = .ok (.invokevirtual 185, 3) := by decide +kernel
theorem dX5_put_41 : decode cX5_put 41 = .ok (.ifCond .ne 5, 3) := by decide +kernel
theorem dX5_put_44 : decode cX5_put 44 = .ok (.iconst 0, 1) := by decide +kernel
theorem dX5_put_45 : decode cX5_put 45 = .ok (.ireturn, 1) := by decide +kernel
theorem dX5_put_46 : decode cX5_put 46 = .ok (.aload_n 0, 1) := by decide +kernel
theorem dX5_put_47 : decode cX5_put 47 = .ok (.getfield 25, 3) := by decide +kernel
theorem dX5_put_50 : decode cX5_put 50 = .ok (.iload_n 1, 1) := by decide +kernel
theorem dX5_put_51 : decode cX5_put 51 = .ok (.iaload, 1) := by decide +kernel
theorem dX5_put_52 : decode cX5_put 52 = .ok (.iconst 2, 1) := by decide +kernel
theorem dX5_put_53 : decode cX5_put 53 = .ok (.iadd, 1) := by decide +kernel
theorem dX5_put_54 : decode cX5_put 54 = .ok (.iload_n 2, 1) := by decide +kernel
theorem dX5_put_55 : decode cX5_put 55 = .ok (.iadd, 1) := by decide +kernel
theorem dX5_put_56 : decode cX5_put 56 = .ok (.istore 4, 2) := by decide +kernel
theorem dX5_put_58 : decode cX5_put 58 = .ok (.aload_n 0, 1) := by decide +kernel
theorem dX5_put_59 : decode cX5_put 59 = .ok (.getfield 7, 3) := by decide +kernel
theorem dX5_put_62 : decode cX5_put 62 = .ok (.iload 4, 2) := by decide +kernel
theorem dX5_put_64 : decode cX5_put 64 = .ok (.iaload, 1) := by decide +kernel
theorem dX5_put_65 : decode cX5_put 65 = .ok (.istore 5, 2) := by decide +kernel
theorem dX5_put_67 : decode cX5_put 67 = .ok (.aload_n 0, 1) := by decide +kernel
theorem dX5_put_68 : decode cX5_put 68 = .ok (.iload 4, 2) := by decide +kernel
theorem dX5_put_70 : decode cX5_put 70 = .ok (.iload_n 3, 1) := by decide +kernel
theorem dX5_put_71 : decode cX5_put 71 = .ok (.iconst (-1), 1) := by decide +kernel
theorem dX5_put_72 : decode cX5_put 72 = .ok (.if_icmp .ne 7, 3) := by decide +kernel
theorem dX5_put_75 : decode cX5_put 75 = .ok (.iconst 0, 1) := by decide +kernel
theorem dX5_put_76 : decode cX5_put 76 = .ok (.goto 9, 3) := by decide +kernel
theorem dX5_put_79 : decode cX5_put 79 = .ok (.aload_n 0, 1) := by decide +kernel
theorem dX5_put_80 : decode cX5_put 80 = .ok (.getfield 25, 3) := by decide +kernel
theorem dX5_put_83 : decode cX5_put 83 = .ok (.iload_n 3, 1) := by decide +kernel
theorem dX5_put_84 : decode cX5_put 84 = .ok (.iaload, 1) := by decide +kernel
theorem dX5_put_85 : decode cX5_put 85 = .ok (.invokevirtual 182, 3) := by decide +kernel
theorem dX5_put_88 : decode cX5_put 88 = .ok (.iload 5, 2) := by decide +kernel
theorem dX5_put_90 : decode cX5_put 90 = .ok (.ireturn, 1) := by decide +kernel
theorem dX5_get_0 : decode cX5_get 0 = .ok (.aload_n 0, 1) := by decide +kernel
theorem dX5_get_1 : decode cX5_get 1 = .ok (.iload_n 1, 1) := by decide +kernel
theorem dX5_get_2 : decode cX5_get 2 = .ok (.invokestatic 175, 3) := by decide +kernel
theorem dX5_get_5 : decode cX5_get 5 = .ok (.ifCond .eq 14, 3) := by decide +kernel
theorem dX5_get_8 : decode cX5_get 8 = .ok (.iload_n 2, 1) := by decide +kernel
theorem dX5_get_9 : decode cX5_get 9 = .ok (.invokestatic 175, 3) := by decide +kernel
theorem dX5_get_12 : decode cX5_get 12 = .ok (.ifCond .eq 7, 3) := by decide +kernel
theorem dX5_get_15 : decode cX5_get 15 = .ok (.iconst 0, 1) := by decide +kernel
theorem dX5_get_16 : decode cX5_get 16 = .ok (.goto 4, 3) := by decide +kernel
theorem dX5_get_19 : decode cX5_get 19 = .ok (.iconst 1, 1) := by decide +kernel
theorem dX5_get_20 : decode cX5_get 20 = .ok (.putfield 87, 3) := by decide +kernel
theorem dX5_get_23 : decode cX5_get 23 = .ok (.aload_n 0, 1) := by decide +kernel
theorem dX5_get_24 : decode cX5_get 24 = .ok (.getfield 87, 3) := by decide +kernel
theorem dX5_get_27 : decode cX5_get 27 = .ok (.ifCond .gt 12, 3) := by decide +kernel
theorem dX5_get_30 : decode cX5_get 30 = .ok (.aload_n 0, 1) := by decide +kernel
theorem dX5_get_31 : decode cX5_get 31 = .ok (.iload_n 2, 1) := by decide +kernel
theorem dX5_get_32 : decode cX5_get 32 = .ok (.iload_n 3, 1) := by decide +kernel
theorem dX5_get_33 : decode cX5_get 33 = .ok (.invokevirtual 185, 3) := by decide +kernel
theorem dX5_get_36 : decode cX5_get 36 = .ok (.ifCond .ne 5, 3) := by decide +kernel
theorem dX5_get_39 : decode cX5_get 39 = .ok (.iconst 0, 1) := by decide +kernel
theorem dX5_get_40 : decode cX5_get 40 = .ok (.ireturn, 1) := by decide +kernel
theorem dX5_get_41 : decode cX5_get 41 = .ok (.aload_n 0, 1) := by decide +kernel
theorem dX5_get_42 : decode cX5_get 42 = .ok (.getfield 25, 3) := by decide +kernel
theorem dX5_get_45 : decode cX5_get 45 = .ok (.iload_n 1, 1) := by decide +kernel
theorem dX5_get_46 : decode cX5_get 46 = .ok (.aload_n 0, 1) := by decide +kernel
theorem dX5_get_47 : decode cX5_get 47 = .ok (.getfield 7, 3) := by decide +kernel
theorem dX5_get_50 : decode cX5_get 50 = .ok (.aload_n 0, 1) := by decide +kernel
theorem dX5_get_51 : decode cX5_get 51 = .ok (.getfield 25, 3) := by decide +kernel
theorem dX5_get_54 : decode cX5_get 54 = .ok (.iload_n 2, 1) := by decide +kernel
theorem dX5_get_55 : decode cX5_get 55 = .ok (.iaload, 1) := by decide +kernel
theorem dX5_get_56 : decode cX5_get 56 = .ok (.iconst 2, 1) := by decide +kernel
theorem dX5_get_57 : decode cX5_get 57 = .ok (.iadd, 1) := by decide +kernel
theorem dX5_get_58 : decode cX5_get 58 = .ok (.iload_n 3, 1) := by decide +kernel
theorem dX5_get_59 : decode cX5_get 59 = .ok (.iadd, 1) := by decide +kernel
theorem dX5_get_60 : decode cX5_get 60 = .ok (.iaload, 1) := by decide +kernel
theorem dX5_get_61 : decode cX5_get 61 = .ok (.iastore, 1) := by decide +kernel
theorem dX5_get_62 : decode cX5_get 62 = .ok (.aload_n 0, 1) := by decide +kernel
theorem dX5_get_63 : decode cX5_get 63 = .ok (.getfield 25, 3) := by decide +kernel
theorem dX5_get_66 : decode cX5_get 66 = .ok (.iload_n 1, 1) := by decide +kernel
theorem dX5_get_67 : decode cX5_get 67 = .ok (.iaload, 1) := by decide +kernel
theorem dX5_get_68 : decode cX5_get 68 = .ok (.ireturn, 1) := by decide +kernel
theorem dX5_move_0 : decode cX5_move 0 = .ok (.aload_n 0, 1) := by decide +kernel
theorem dX5_move_1 : decode cX5_move 1 = .ok (.iload_n 1, 1) := by decide +kernel
theorem dX5_move_2 : decode cX5_move 2 = .ok (.invokestatic 175, 3) := by decide +kernel
theorem dX5_move_5 : decode cX5_move 5 = .ok (.ifCond .eq 19, 3) := by decide +kernel
theorem dX5_move_8 : decode cX5_move 8 = .ok (.iload_n 2, 1) := by decide +kernel
theorem dX5_move_9 : decode cX5_move 9 = .ok (.iconst (-1), 1) := by decide +kernel
theorem dX5_move_10 : decode cX5_move 10 = .ok (.if_icmp .eq 10, 3) := by decide +kernel
theorem dX5_move_13 : decode cX5_move 13 = .ok (.iload_n 2, 1) := by decide +kernel
theorem dX5_move_14 : decode cX5_move 14 = .ok (.invokestatic 175, 3) := by decide +kernel
theorem dX5_move_17 : decode cX5_move 17 = .ok (.ifCond .eq 7, 3) := by decide +kernel
theorem dX5_move_20 : decode cX5_move 20 = .ok (.iconst 0, 1) := by decide +kernel
theorem dX5_move_21 : decode cX5_move 21 = .ok (.goto 4, 3) := by decide +kernel
theorem dX5_move_24 : decode cX5_move 24 = .ok (.iconst 1, 1) := by decide +kernel
theorem dX5_move_25 : decode cX5_move 25 = .ok (.putfield 87, 3) := by decide +kernel
theorem dX5_move_28 : decode cX5_move 28 = .ok (.aload_n 0, 1) := by decide +kernel
theorem dX5_move_29 : decode cX5_move 29 = .ok (.getfield 87, 3) := by decide +kernel
theorem dX5_move_32 : decode cX5_move 32 = .ok (.ifCond .le 5, 3) := by decide +kernel
theorem dX5_move_35 : decode cX5_move 35 = .ok (.iconst 0, 1) := by decide +kernel
theorem dX5_move_36 : decode cX5_move 36 = .ok (.ireturn, 1) := by decide +kernel
theorem dX5_move_37 : decode cX5_move 37 = .ok (.aload_n 0, 1) := by decide +kernel
theorem dX5_move_38 : decode cX5_move 38 = .ok (.getfield 25, 3) := by decide +kernel
theorem dX5_move_41 : decode cX5_move 41 = .ok (.iload_n 1, 1) := by decide +kernel
theorem dX5_move_42 : decode cX5_move 42 = .ok (.iload_n 2, 1) := by decide +kernel
theorem dX5_move_43 : decode cX5_move 43 = .ok (.iconst (-1), 1) := by decide +kernel
theorem dX5_move_44 : decode cX5_move 44 = .ok (.if_icmp .ne 7, 3) := by decide +kernel
theorem dX5_move_47 : decode cX5_move 47 = .ok (.iconst 0, 1) := by decide +kernel
theorem dX5_move_48 : decode cX5_move 48 = .ok (.goto 9, 3) := by decide +kernel
theorem dX5_move_51 : decode cX5_move 51 = .ok (.aload_n 0, 1) := by decide +kernel
theorem dX5_move_52 : decode cX5_move 52 = .ok (.getfield 25, 3) := by decide +kernel
theorem dX5_move_55 : decode cX5_move 55 = .ok (.iload_n 2, 1) := by decide +kernel
theorem dX5_move_56 : decode cX5_move 56 = .ok (.iaload, 1) := by decide +kernel
theorem dX5_move_57 : decode cX5_move 57 = .ok (.iastore, 1) := by decide +kernel
theorem dX5_move_58 : decode cX5_move 58 = .ok (.aload_n 0, 1) := by decide +kernel
theorem dX5_move_59 : decode cX5_move 59 = .ok (.getfield 25, 3) := by decide +kernel
theorem dX5_move_62 : decode cX5_move 62 = .ok (.iload_n 1, 1) := by decide +kernel
theorem dX5_move_63 : decode cX5_move 63 = .ok (.iaload, 1) := by decide +kernel
theorem dX5_move_64 : decode cX5_move 64 = .ok (.ireturn, 1) := by decide +kernel
theorem dX5_keep_0 : decode cX5_keep 0 = .ok (.aload_n 0, 1) := by decide +kernel
theorem dX5_keep_1 : decode cX5_keep 1 = .ok (.iload_n 1, 1) := by decide +kernel
theorem dX5_keep_2 : decode cX5_keep 2 = .ok (.invokestatic 175, 3) := by decide +kernel
theorem dX5_keep_5 : decode cX5_keep 5 = .ok (.ifCond .ne 7, 3) := by decide +kernel
theorem dX5_keep_8 : decode cX5_keep 8 = .ok (.iconst 1, 1) := by decide +kernel
theorem dX5_keep_9 : decode cX5_keep 9 = .ok (.goto 17, 3) := by decide +kernel
theorem dX5_keep_12 : decode cX5_keep 12 = .ok (.aload_n 0, 1) := by decide +kernel
theorem dX5_keep_13 : decode cX5_keep 13 = .ok (.getfield 157, 3) := by decide +kernel
theorem dX5_keep_16 : decode cX5_keep 16 = .ok (.bipush 40, 2) := by decide +kernel
theorem dX5_keep_18 : decode cX5_keep 18 = .ok (.if_icmp .ne 7, 3) := by decide +kernel
theorem dX5_keep_21 : decode cX5_keep 21 = .ok (.iconst 2, 1) := by decide +kernel
theorem dX5_keep_22 : decode cX5_keep 22 = .ok (.goto 4, 3) := by decide +kernel
theorem dX5_keep_25 : decode cX5_keep 25 = .ok (.iconst 0, 1) := by decide +kernel
theorem dX5_keep_26 : decode cX5_keep 26 = .ok (.putfield 87, 3) := by decide +kernel
theorem dX5_keep_29 : decode cX5_keep 29 = .ok (.aload_n 0, 1) := by decide +kernel
theorem dX5_keep_30 : decode cX5_keep 30 = .ok (.getfield 87, 3) := by decide +kernel
theorem dX5_keep_33 : decode cX5_keep 33 = .ok (.ifCond .le 5, 3) := by decide +kernel
theorem dX5_keep_36 : decode cX5_keep 36 = .ok (.iconst 0, 1) := by decide +kernel
theorem dX5_keep_37 : decode cX5_keep 37 = .ok (.ireturn, 1) := by decide +kernel
theorem dX5_keep_38 : decode cX5_keep 38 = .ok (.aload_n 0, 1) := by decide +kernel
theorem dX5_keep_39 : decode cX5_keep 39 = .ok (.getfield 28, 3) := by decide +kernel
theorem dX5_keep_42 : decode cX5_keep 42 = .ok (.aload_n 0, 1) := by decide +kernel
theorem dX5_keep_43 : decode cX5_keep 43 = .ok (.getfield 157, 3) := by decide +kernel
theorem dX5_keep_46 : decode cX5_keep 46 = .ok (.aload_n 0, 1) := by decide +kernel
theorem dX5_keep_47 : decode cX5_keep 47 = .ok (.getfield 25, 3) := by decide +kernel
theorem dX5_keep_50 : decode cX5_keep 50 = .ok (.iload_n 1, 1) := by decide +kernel
theorem dX5_keep_51 : decode cX5_keep 51 = .ok (.iaload, 1) := by decide +kernel
theorem dX5_keep_52 : decode cX5_keep 52 = .ok (.iastore, 1) := by decide +kernel
theorem dX5_keep_53 : decode cX5_keep 53 = .ok (.aload_n 0, 1) := by decide +kernel
theorem dX5_keep_54 : decode cX5_keep 54 = .ok (.dup, 1) := by decide +kernel
theorem dX5_keep_55 : decode cX5_keep 55 = .ok (.getfield 157, 3) := by decide +kernel
theorem dX5_keep_58 : decode cX5_keep 58 = .ok (.iconst 1, 1) := by decide +kernel
theorem dX5_keep_59 : decode cX5_keep 59 = .ok (.iadd, 1) := by decide +kernel
theorem dX5_keep_60 : decode cX5_keep 60 = .ok (.putfield 157, 3) := by decide +kernel
theorem dX5_keep_63 : decode cX5_keep 63 = .ok (.aload_n 0, 1) := by decide +kernel
theorem dX5_keep_64 : decode cX5_keep 64 = .ok (.getfield 157, 3) := by decide +kernel
theorem dX5_keep_67 : decode cX5_keep 67 = .ok (.ireturn, 1) := by decide +kernel
theorem dX5_back_0 : decode cX5_back 0 = .ok (.aload_n 0, 1) := by decide +kernel
theorem dX5_back_1 : decode cX5_back 1 = .ok (.iload_n 1, 1) := by decide +kernel
theorem dX5_back_2 : decode cX5_back 2 = .ok (.invokestatic 175, 3) := by decide +kernel
theorem dX5_back_5 : decode cX5_back 5 = .ok (.ifCond .ne 7, 3) := by decide +kernel
theorem dX5_back_8 : decode cX5_back 8 = .ok (.iconst 1, 1) := by decide +kernel
theorem dX5_back_9 : decode cX5_back 9 = .ok (.goto 15, 3) := by decide +kernel
theorem dX5_back_12 : decode cX5_back 12 = .ok (.aload_n 0, 1) := by decide +kernel
theorem dX5_back_13 : decode cX5_back 13 = .ok (.getfield 157, 3) := by decide +kernel
theorem dX5_back_16 : decode cX5_back 16 = .ok (.ifCond .ne 7, 3) := by decide +kernel
theorem dX5_back_19 : decode cX5_back 19 = .ok (.iconst 2, 1) := by decide +kernel
theorem dX5_back_20 : decode cX5_back 20 = .ok (.goto 4, 3) := by decide +kernel
theorem dX5_back_23 : decode cX5_back 23 = .ok (.iconst 0, 1) := by decide +kernel
theorem dX5_back_24 : decode cX5_back 24 = .ok (.putfield 87, 3) := by decide +kernel
theorem dX5_back_27 : decode cX5_back 27 = .ok (.aload_n 0, 1) := by decide +kernel
theorem dX5_back_28 : decode cX5_back 28 = .ok (.getfield 87, 3) := by decide +kernel
theorem dX5_back_31 : decode cX5_back 31 = .ok (.ifCond .le 5, 3) := by decide +kernel
theorem dX5_back_34 : decode cX5_back 34 = .ok (.iconst 0, 1) := by decide +kernel
theorem dX5_back_35 : decode cX5_back 35 = .ok (.ireturn, 1) := by decide +kernel
theorem dX5_back_36 : decode cX5_back 36 = .ok (.aload_n 0, 1) := by decide +kernel
theorem dX5_back_37 : decode cX5_back 37 = .ok (.dup, 1) := by decide +kernel
theorem dX5_back_38 : decode cX5_back 38 = .ok (.getfield 157, 3) := by decide +kernel
theorem dX5_back_41 : decode cX5_back 41 = .ok (.iconst 1, 1) := by decide +kernel
theorem dX5_back_42 : decode cX5_back 42 = .ok (.isub, 1) := by decide +kernel
theorem dX5_back_43 : decode cX5_back 43 = .ok (.putfield 157, 3) := by decide +kernel
theorem dX5_back_46 : decode cX5_back 46 = .ok (.aload_n 0, 1) := by decide +kernel
theorem dX5_back_47 : decode cX5_back 47 = .ok (.getfield 25, 3) := by decide +kernel
theorem dX5_back_50 : decode cX5_back 50 = .ok (.iload_n 1, 1) := by decide +kernel
theorem dX5_back_51 : decode cX5_back 51 = .ok (.aload_n 0, 1) := by decide +kernel
theorem dX5_back_52 : decode cX5_back 52 = .ok (.getfield 28, 3) := by decide +kernel
theorem dX5_back_55 : decode cX5_back 55 = .ok (.aload_n 0, 1) := by decide +kernel
theorem dX5_back_56 : decode cX5_back 56 = .ok (.getfield 157, 3) := by decide +kernel
theorem dX5_back_59 : decode cX5_back 59 = .ok (.iaload, 1) := by decide +kernel
theorem dX5_back_60 : decode cX5_back 60 = .ok (.iastore, 1) := by decide +kernel
theorem dX5_back_61 : decode cX5_back 61 = .ok (.aload_n 0, 1) := by decide +kernel
theorem dX5_back_62 : decode cX5_back 62 = .ok (.getfield 25, 3) := by decide +kernel
theorem dX5_back_65 : decode cX5_back 65 = .ok (.iload_n 1, 1) := by decide +kernel
theorem dX5_back_66 : decode cX5_back 66 = .ok (.iaload, 1) := by decide +kernel
theorem dX5_back_67 : decode cX5_back 67 = .ok (.ireturn, 1) := by decide +kernel
theorem dX5_weak_0 : decode cX5_weak 0 = .ok (.aload_n 0, 1) := by decide +kernel
theorem dX5_weak_1 : decode cX5_weak 1 = .ok (.iload_n 1, 1) := by decide +kernel
theorem dX5_weak_2 : decode cX5_weak 2 = .ok (.iconst 0, 1) := by decide +kernel
theorem dX5_weak_3 : decode cX5_weak 3 = .ok (.bipush 7, 2) := by decide +kernel
theorem dX5_weak_5 : decode cX5_weak 5 = .ok (.invokestatic 90, 3) := by decide +kernel
theorem dX5_weak_8 : decode cX5_weak 8 = .ok (.ifCond .eq 14, 3) := by decide +kernel
theorem dX5_weak_11 : decode cX5_weak 11 = .ok (.iload_n 2, 1) := by decide +kernel
theorem dX5_weak_12 : decode cX5_weak 12 = .ok (.invokestatic 175, 3) := by decide +kernel
theorem dX5_weak_15 : decode cX5_weak 15 = .ok (.ifCond .eq 7, 3) := by decide +kernel
theorem dX5_weak_18 : decode cX5_weak 18 = .ok (.iconst 0, 1) := by decide +kernel
theorem dX5_weak_19 : decode cX5_weak 19 = .ok (.goto 4, 3) := by decide +kernel
theorem dX5_weak_22 : decode cX5_weak 22 = .ok (.iconst 1, 1) := by decide +kernel
theorem dX5_weak_23 : decode cX5_weak 23 = .ok (.putfield 87, 3) := by decide +kernel
theorem dX5_weak_26 : decode cX5_weak 26 = .ok (.aload_n 0, 1) := by decide +kernel
theorem dX5_weak_27 : decode cX5_weak 27 = .ok (.getfield 87, 3) := by decide +kernel
theorem dX5_weak_30 : decode cX5_weak 30 = .ok (.ifCond .le 5, 3) := by decide +kernel
theorem dX5_weak_33 : decode cX5_weak 33 = .ok (.iconst 0, 1) := by decide +kernel
theorem dX5_weak_34 : decode cX5_weak 34 = .ok (.ireturn, 1) := by decide +kernel
theorem dX5_weak_35 : decode cX5_weak 35 = .ok (.aload_n 0, 1) := by decide +kernel
theorem dX5_weak_36 : decode cX5_weak 36 = .ok (.getfield 31, 3) := by decide +kernel
theorem dX5_weak_39 : decode cX5_weak 39 = .ok (.iload_n 1, 1) := by decide +kernel
theorem dX5_weak_40 : decode cX5_weak 40 = .ok (.iaload, 1) := by decide +kernel
theorem dX5_weak_41 : decode cX5_weak 41 = .ok (.istore_n 3, 1) := by decide +kernel
theorem dX5_weak_42 : decode cX5_weak 42 = .ok (.aload_n 0, 1) := by decide +kernel
theorem dX5_weak_43 : decode cX5_weak 43 = .ok (.getfield 31, 3) := by decide +kernel
theorem dX5_weak_46 : decode cX5_weak 46 = .ok (.iload_n 1, 1) := by decide +kernel
theorem dX5_weak_47 : decode cX5_weak 47 = .ok (.aload_n 0, 1) := by decide +kernel
theorem dX5_weak_48 : decode cX5_weak 48 = .ok (.getfield 25, 3) := by decide +kernel
theorem dX5_weak_51 : decode cX5_weak 51 = .ok (.iload_n 2, 1) := by decide +kernel
theorem dX5_weak_52 : decode cX5_weak 52 = .ok (.iaload, 1) := by decide +kernel
theorem dX5_weak_53 : decode cX5_weak 53 = .ok (.iastore, 1) := by decide +kernel
theorem dX5_weak_54 : decode cX5_weak 54 = .ok (.iload_n 3, 1) := by decide +kernel
theorem dX5_weak_55 : decode cX5_weak 55 = .ok (.ireturn, 1) := by decide +kernel
theorem dX5_strong_0 : decode cX5_strong 0 = .ok (.aload_n 0, 1) := by decide +kernel
theorem dX5_strong_1 : decode cX5_strong 1 = .ok (.iload_n 2, 1) := by decide +kernel
theorem dX5_strong_2 : decode cX5_strong 2 = .ok (.iconst 0, 1) := by decide +kernel
theorem dX5_strong_3 : decode cX5_strong 3 = .ok (.bipush 7, 2) := by decide +kernel
theorem dX5_strong_5 : decode cX5_strong 5 = .ok (.invokestatic 90, 3) := by decide +kernel
theorem dX5_strong_8 : decode cX5_strong 8 = .ok (.ifCond .eq 14, 3) := by decide +kernel
theorem dX5_strong_11 : decode cX5_strong 11 = .ok (.iload_n 1, 1) := by decide +kernel
theorem dX5_strong_12 : decode cX5_strong 12 = .ok (.invokestatic 175, 3) := by decide +kernel
theorem dX5_strong_15 : decode cX5_strong 15 = .ok (.ifCond .eq 7, 3) := by decide +kernel
theorem dX5_strong_18 : decode cX5_strong 18 = .ok (.iconst 0, 1) := by decide +kernel
theorem dX5_strong_19 : decode cX5_strong 19 = .ok (.goto 4, 3) := by decide +kernel
theorem dX5_strong_22 : decode cX5_strong 22 = .ok (.iconst 1, 1) := by decide +kernel
theorem dX5_strong_23 : decode cX5_strong 23 = .ok (.putfield 87, 3) := by decide +kernel
theorem dX5_strong_26 : decode cX5_strong 26 = .ok (.aload_n 0, 1) := by decide +kernel
theorem dX5_strong_27 : decode cX5_strong 27 = .ok (.getfield 87, 3) := by decide +kernel
theorem dX5_strong_30 : decode cX5_strong 30 = .ok (.ifCond .le 5, 3) := by decide +kernel
theorem dX5_strong_33 : decode cX5_strong 33 = .ok (.iconst 0, 1) := by decide +kernel
theorem dX5_strong_34 : decode cX5_strong 34 = .ok (.ireturn, 1) := by decide +kernel
theorem dX5_strong_35 : decode cX5_strong 35 = .ok (.aload_n 0, 1) := by decide +kernel
theorem dX5_strong_36 : decode cX5_strong 36 = .ok (.getfield 25, 3) := by decide +kernel
theorem dX5_strong_39 : decode cX5_strong 39 = .ok (.iload_n 1, 1) := by decide +kernel
theorem dX5_strong_40 : decode cX5_strong 40 = .ok (.aload_n 0, 1) := by decide +kernel
theorem dX5_strong_41 : decode cX5_strong 41 = .ok (.getfield 31, 3) := by decide +kernel
theorem dX5_strong_44 : decode cX5_strong 44 = .ok (.iload_n 2, 1) := by decide +kernel
theorem dX5_strong_45 : decode cX5_strong 45 = .ok (.iaload, 1) := by decide +kernel
theorem dX5_strong_46 : decode cX5_strong 46 = .ok (.iastore, 1) := by decide +kernel
theorem dX5_strong_47 : decode cX5_strong 47 = .ok (.aload_n 0, 1) := by decide +kernel
theorem dX5_strong_48 : decode cX5_strong 48 = .ok (.getfield 25, 3) := by decide +kernel
theorem dX5_strong_51 : decode cX5_strong 51 = .ok (.iload_n 1, 1) := by decide +kernel
theorem dX5_strong_52 : decode cX5_strong 52 = .ok (.iaload, 1) := by decide +kernel
theorem dX5_strong_53 : decode cX5_strong 53 = .ok (.ireturn, 1) := by decide +kernel
theorem dX5_wish_0 : decode cX5_wish 0 = .ok (.aload_n 0, 1) := by decide +kernel
theorem dX5_wish_1 : decode cX5_wish 1 = .ok (.iload_n 1, 1) := by decide +kernel
theorem dX5_wish_2 : decode cX5_wish 2 = .ok (.invokestatic 175, 3) := by decide +kernel
theorem dX5_wish_5 : decode cX5_wish 5 = .ok (.ifCond .eq 7, 3) := by decide +kernel
theorem dX5_wish_8 : decode cX5_wish 8 = .ok (.iconst 0, 1) := by decide +kernel
theorem dX5_wish_9 : decode cX5_wish 9 = .ok (.goto 4, 3) := by decide +kernel
theorem dX5_wish_12 : decode cX5_wish 12 = .ok (.iconst 1, 1) := by decide +kernel
theorem dX5_wish_13 : decode cX5_wish 13 = .ok (.putfield 87, 3) := by decide +kernel
theorem dX5_wish_16 : decode cX5_wish 16 = .ok (.aload_n 0, 1) := by decide +kernel
theorem dX5_wish_17 : decode cX5_wish 17 = .ok (.getfield 87, 3) := by decide +kernel
theorem dX5_wish_20 : decode cX5_wish 20 = .ok (.ifCond .gt 10, 3) := by decide +kernel
theorem dX5_wish_23 : decode cX5_wish 23 = .ok (.aload_n 0, 1) := by decide +kernel
theorem dX5_wish_24 : decode cX5_wish 24 = .ok (.getfield 154, 3) := by decide +kernel
theorem dX5_wish_27 : decode cX5_wish 27 = .ok (.ifCond .ne 5, 3) := by decide +kernel
theorem dX5_wish_30 : decode cX5_wish 30 = .ok (.iconst 0, 1) := by decide +kernel
theorem dX5_wish_31 : decode cX5_wish 31 = .ok (.ireturn, 1) := by decide +kernel
theorem dX5_wish_32 : decode cX5_wish 32 = .ok (.aload_n 0, 1) := by decide +kernel
theorem dX5_wish_33 : decode cX5_wish 33 = .ok (.getfield 25, 3) := by decide +kernel
theorem dX5_wish_36 : decode cX5_wish 36 = .ok (.iload_n 1, 1) := by decide +kernel
theorem dX5_wish_37 : decode cX5_wish 37 = .ok (.aload_n 0, 1) := by decide +kernel
theorem dX5_wish_38 : decode cX5_wish 38 = .ok (.getfield 37, 3) := by decide +kernel
theorem dX5_wish_41 : decode cX5_wish 41 = .ok (.iconst 0, 1) := by decide +kernel
theorem dX5_wish_42 : decode cX5_wish 42 = .ok (.iaload, 1) := by decide +kernel
theorem dX5_wish_43 : decode cX5_wish 43 = .ok (.iastore, 1) := by decide +kernel
theorem dX5_wish_44 : decode cX5_wish 44 = .ok (.aload_n 0, 1) := by decide +kernel
theorem dX5_wish_45 : decode cX5_wish 45 = .ok (.dup, 1) := by decide +kernel
theorem dX5_wish_46 : decode cX5_wish 46 = .ok (.getfield 154, 3) := by decide +kernel
theorem dX5_wish_49 : decode cX5_wish 49 = .ok (.iconst 1, 1) := by decide +kernel
theorem dX5_wish_50 : decode cX5_wish 50 = .ok (.isub, 1) := by decide +kernel
theorem dX5_wish_51 : decode cX5_wish 51 = .ok (.putfield 154, 3) := by decide +kernel
theorem dX5_wish_54 : decode cX5_wish 54 = .ok (.iconst 0, 1) := by decide +kernel
theorem dX5_wish_55 : decode cX5_wish 55 = .ok (.istore_n 2, 1) := by decide +kernel
theorem dX5_wish_56 : decode cX5_wish 56 = .ok (.iload_n 2, 1) := by decide +kernel
theorem dX5_wish_57 : decode cX5_wish 57 = .ok (.aload_n 0, 1) := by decide +kernel
theorem dX5_wish_58 : decode cX5_wish 58 = .ok (.getfield 154, 3) := by decide +kernel
theorem dX5_wish_61 : decode cX5_wish 61 = .ok (.if_icmp .ge 23, 3) := by decide +kernel
theorem dX5_wish_64 : decode cX5_wish 64 = .ok (.aload_n 0, 1) := by decide +kernel
theorem dX5_wish_65 : decode cX5_wish 65 = .ok (.getfield 37, 3) := by decide +kernel
theorem dX5_wish_68 : decode cX5_wish 68 = .ok (.iload_n 2, 1) := by decide +kernel
theorem dX5_wish_69 : decode cX5_wish 69 = .ok (.aload_n 0, 1) := by decide +kernel
theorem dX5_wish_70 : decode cX5_wish 70 = .ok (.getfield 37, 3) := by decide +kernel
theorem dX5_wish_73 : decode cX5_wish 73 = .ok (.iload_n 2, 1) := by decide +kernel
theorem dX5_wish_74 : decode cX5_wish 74 = .ok (.iconst 1, 1) := by decide +kernel
theorem dX5_wish_75 : decode cX5_wish 75 = .ok (.iadd, 1) := by decide +kernel
theorem dX5_wish_76 : decode cX5_wish 76 = .ok (.iaload, 1) := by decide +kernel
theorem dX5_wish_77 : decode cX5_wish 77 = .ok (.iastore, 1) := by decide +kernel
theorem dX5_wish_78 : decode cX5_wish 78 = .ok (.iinc 2 1, 3) := by decide +kernel
theorem dX5_wish_81 : decode cX5_wish 81 = .ok (.goto (-25), 3) := by decide +kernel
theorem dX5_wish_84 : decode cX5_wish 84 = .ok (.aload_n 0, 1) := by decide +kernel
theorem dX5_wish_85 : decode cX5_wish 85 = .ok (.getfield 25, 3) := by decide +kernel
theorem dX5_wish_88 : decode cX5_wish 88 = .ok (.iload_n 1, 1) := by decide +kernel
theorem dX5_wish_89 : decode cX5_wish 89 = .ok (.iaload, 1) := by decide +kernel
theorem dX5_wish_90 : decode cX5_wish 90 = .ok (.ireturn, 1) := by decide +kernel
theorem dX5_collect_0 : decode cX5_collect 0 = .ok (.aload_n 0, 1) := by decide +kernel
theorem dX5_collect_1 : decode cX5_collect 1 = .ok (.iload_n 1, 1) := by decide +kernel
theorem dX5_collect_2 : decode cX5_collect 2 = .ok (.iconst 0, 1) := by decide +kernel
theorem dX5_collect_3 : decode cX5_collect 3 = .ok (.iconst 2, 1) := by decide +kernel
theorem dX5_collect_4 : decode cX5_collect 4 = .ok (.invokestatic 90, 3) := by decide +kernel
theorem dX5_collect_7 : decode cX5_collect 7 = .ok (.ifCond .eq 7, 3) := by decide +kernel
theorem dX5_collect_10 : decode cX5_collect 10 = .ok (.iconst 0, 1) := by decide +kernel
theorem dX5_collect_11 : decode cX5_collect 11 = .ok (.goto 4, 3) := by decide +kernel
theorem dX5_collect_14 : decode cX5_collect 14 = .ok (.iconst 1, 1) := by decide +kernel
theorem dX5_collect_15 : decode cX5_collect 15 = .ok (.putfield 87, 3) := by decide +kernel
theorem dX5_collect_18 : decode cX5_collect 18 = .ok (.aload_n 0, 1) := by decide +kernel
theorem dX5_collect_19 : decode cX5_collect 19 = .ok (.getfield 87, 3) := by decide +kernel
theorem dX5_collect_22 : decode cX5_collect 22 = .ok (.ifCond .le 7, 3) := by decide +kernel
theorem dX5_collect_25 : decode cX5_collect 25 = .ok (.iconst 0, 1) := by decide +kernel
theorem dX5_collect_26 : decode cX5_collect 26 = .ok (.goto 8, 3) := by decide +kernel
theorem dX5_collect_29 : decode cX5_collect 29 = .ok (.aload_n 0, 1) := by decide +kernel
theorem dX5_collect_30 : decode cX5_collect 30 = .ok (.iload_n 1, 1) := by decide +kernel
theorem dX5_collect_31 : decode cX5_collect 31 = .ok (.invokevirtual 172, 3) := by decide +kernel
theorem dX5_collect_34 : decode cX5_collect 34 = .ok (.ireturn, 1) := by decide +kernel
theorem dX5_root_0 : decode cX5_root 0 = .ok (.aload_n 0, 1) := by decide +kernel
theorem dX5_root_1 : decode cX5_root 1 = .ok (.iload_n 1, 1) := by decide +kernel
theorem dX5_root_2 : decode cX5_root 2 = .ok (.invokestatic 175, 3) := by decide +kernel
theorem dX5_root_5 : decode cX5_root 5 = .ok (.ifCond .eq 7, 3) := by decide +kernel
theorem dX5_root_8 : decode cX5_root 8 = .ok (.iconst 0, 1) := by decide +kernel
theorem dX5_root_9 : decode cX5_root 9 = .ok (.goto 4, 3) := by decide +kernel
theorem dX5_root_12 : decode cX5_root 12 = .ok (.iconst 1, 1) := by decide +kernel
theorem dX5_root_13 : decode cX5_root 13 = .ok (.putfield 87, 3) := by decide +kernel
theorem dX5_root_16 : decode cX5_root 16 = .ok (.aload_n 0, 1) := by decide +kernel
theorem dX5_root_17 : decode cX5_root 17 = .ok (.getfield 87, 3) := by decide +kernel
theorem dX5_root_20 : decode cX5_root 20 = .ok (.ifCond .le 7, 3) := by decide +kernel
theorem dX5_root_23 : decode cX5_root 23 = .ok (.iconst 0, 1) := by decide +kernel
theorem dX5_root_24 : decode cX5_root 24 = .ok (.goto 9, 3) := by decide +kernel
theorem dX5_root_27 : decode cX5_root 27 = .ok (.aload_n 0, 1) := by decide +kernel
theorem dX5_root_28 : decode cX5_root 28 = .ok (.getfield 25, 3) := by decide +kernel
theorem dX5_root_31 : decode cX5_root 31 = .ok (.iload_n 1, 1) := by decide +kernel
theorem dX5_root_32 : decode cX5_root 32 = .ok (.iaload, 1) := by decide +kernel
theorem dX5_root_33 : decode cX5_root 33 = .ok (.ireturn, 1) := by decide +kernel
theorem dX5_about_0 : decode cX5_about 0 = .ok (.aload_n 0, 1) := by decide +kernel
theorem dX5_about_1 : decode cX5_about 1 = .ok (.iload_n 1, 1) := by decide +kernel
theorem dX5_about_2 : decode cX5_about 2 = .ok (.invokestatic 175, 3) := by decide +kernel
theorem dX5_about_5 : decode cX5_about 5 = .ok (.ifCond .ne 7, 3) := by decide +kernel
theorem dX5_about_8 : decode cX5_about 8 = .ok (.iconst 1, 1) := by decide +kernel
theorem dX5_about_9 : decode cX5_about 9 = .ok (.goto 41, 3) := by decide +kernel
theorem dX5_about_12 : decode cX5_about 12 = .ok (.aload_n 0, 1) := by decide +kernel
theorem dX5_about_13 : decode cX5_about 13 = .ok (.getfield 25, 3) := by decide +kernel
theorem dX5_about_16 : decode cX5_about 16 = .ok (.iload_n 1, 1) := by decide +kernel
theorem dX5_about_17 : decode cX5_about 17 = .ok (.iaload, 1) := by decide +kernel
theorem dX5_about_18 : decode cX5_about 18 = .ok (.ifCond .ne 7, 3) := by decide +kernel
theorem dX5_about_21 : decode cX5_about 21 = .ok (.iconst 2, 1) := by decide +kernel
theorem dX5_about_22 : decode cX5_about 22 = .ok (.goto 28, 3) := by decide +kernel
theorem dX5_about_25 : decode cX5_about 25 = .ok (.iload_n 2, 1) := by decide +kernel
theorem dX5_about_26 : decode cX5_about 26 = .ok (.iconst 0, 1) := by decide +kernel
theorem dX5_about_27 : decode cX5_about 27 = .ok (.iconst 4, 1) := by decide +kernel
theorem dX5_about_28 : decode cX5_about 28 = .ok (.aload_n 0, 1) := by decide +kernel
theorem dX5_about_29 : decode cX5_about 29 = .ok (.aload_n 0, 1) := by decide +kernel
theorem dX5_about_30 : decode cX5_about 30 = .ok (.getfield 25, 3) := by decide +kernel
theorem dX5_about_33 : decode cX5_about 33 = .ok (.iload_n 1, 1) := by decide +kernel
theorem dX5_about_34 : decode cX5_about 34 = .ok (.iaload, 1) := by decide +kernel
theorem dX5_about_35 : decode cX5_about 35 = .ok (.invokevirtual 121, 3) := by decide +kernel
theorem dX5_about_38 : decode cX5_about 38 = .ok (.iadd, 1) := by decide +kernel
theorem dX5_about_39 : decode cX5_about 39 = .ok (.invokestatic 90, 3) := by decide +kernel
theorem dX5_about_42 : decode cX5_about 42 = .ok (.ifCond .ne 7, 3) := by decide +kernel
theorem dX5_about_45 : decode cX5_about 45 = .ok (.iconst 1, 1) := by decide +kernel
theorem dX5_about_46 : decode cX5_about 46 = .ok (.goto 4, 3) := by decide +kernel
theorem dX5_about_49 : decode cX5_about 49 = .ok (.iconst 0, 1) := by decide +kernel
theorem dX5_about_50 : decode cX5_about 50 = .ok (.putfield 87, 3) := by decide +kernel
theorem dX5_about_53 : decode cX5_about 53 = .ok (.aload_n 0, 1) := by decide +kernel
theorem dX5_about_54 : decode cX5_about 54 = .ok (.getfield 87, 3) := by decide +kernel
theorem dX5_about_57 : decode cX5_about 57 = .ok (.ifCond .le 5, 3) := by decide +kernel
theorem dX5_about_60 : decode cX5_about 60 = .ok (.iconst 0, 1) := by decide +kernel
theorem dX5_about_61 : decode cX5_about 61 = .ok (.ireturn, 1) := by decide +kernel
theorem dX5_about_62 : decode cX5_about 62 = .ok (.aload_n 0, 1) := by decide +kernel
theorem dX5_about_63 : decode cX5_about 63 = .ok (.getfield 25, 3) := by decide +kernel
theorem dX5_about_66 : decode cX5_about 66 = .ok (.iload_n 1, 1) := by decide +kernel
theorem dX5_about_67 : decode cX5_about 67 = .ok (.iaload, 1) := by decide +kernel
theorem dX5_about_68 : decode cX5_about 68 = .ok (.istore_n 3, 1) := by decide +kernel
theorem dX5_about_69 : decode cX5_about 69 = .ok (.iload_n 2, 1) := by decide +kernel
theorem dX5_about_70 : decode cX5_about 70 = .ok (.tableswitch 75 0 4 #[34, 40, 46, 60, 69], 34) := by decide +kernel
theorem dX5_about_104 : decode cX5_about 104 = .ok (.aload_n 0, 1) := by decide +kernel
theorem dX5_about_105 : decode cX5_about 105 = .ok (.iload_n 3, 1) := by decide +kernel
theorem dX5_about_106 : decode cX5_about 106 = .ok (.invokevirtual 121, 3) := by decide +kernel
theorem dX5_about_109 : decode cX5_about 109 = .ok (.ireturn, 1) := by decide +kernel
theorem dX5_about_110 : decode cX5_about 110 = .ok (.aload_n 0, 1) := by decide +kernel
theorem dX5_about_111 : decode cX5_about 111 = .ok (.iload_n 3, 1) := by decide +kernel
theorem dX5_about_112 : decode cX5_about 112 = .ok (.invokevirtual 124, 3) := by decide +kernel
theorem dX5_about_115 : decode cX5_about 115 = .ok (.ireturn, 1) := by decide +kernel
theorem dX5_about_116 : decode cX5_about 116 = .ok (.aload_n 0, 1) := by decide +kernel
theorem dX5_about_117 : decode cX5_about 117 = .ok (.iload_n 3, 1) := by decide +kernel
theorem dX5_about_118 : decode cX5_about 118 = .ok (.invokevirtual 188, 3) := by decide +kernel
theorem dX5_about_121 : decode cX5_about 121 = .ok (.ifCond .eq 7, 3) := by decide +kernel
theorem dX5_about_124 : decode cX5_about 124 = .ok (.iconst 1, 1) := by decide +kernel
theorem dX5_about_125 : decode cX5_about 125 = .ok (.goto 4, 3) := by decide +kernel
theorem dX5_about_128 : decode cX5_about 128 = .ok (.iconst 0, 1) := by decide +kernel
theorem dX5_about_129 : decode cX5_about 129 = .ok (.ireturn, 1) := by decide +kernel
theorem dX5_about_130 : decode cX5_about 130 = .ok (.aload_n 0, 1) := by decide +kernel
theorem dX5_about_131 : decode cX5_about 131 = .ok (.getfield 7, 3) := by decide +kernel
theorem dX5_about_134 : decode cX5_about 134 = .ok (.iload_n 3, 1) := by decide +kernel
theorem dX5_about_135 : decode cX5_about 135 = .ok (.iconst 1, 1) := by decide +kernel
theorem dX5_about_136 : decode cX5_about 136 = .ok (.iadd, 1) := by decide +kernel
theorem dX5_about_137 : decode cX5_about 137 = .ok (.iaload, 1) := by decide +kernel
theorem dX5_about_138 : decode cX5_about 138 = .ok (.ireturn, 1) := by decide +kernel
theorem dX5_about_139 : decode cX5_about 139 = .ok (.aload_n 0, 1) := by decide +kernel
theorem dX5_about_140 : decode cX5_about 140 = .ok (.iload_n 3, 1) := by decide +kernel
theorem dX5_about_141 : decode cX5_about 141 = .ok (.invokevirtual 98, 3) := by decide +kernel
theorem dX5_about_144 : decode cX5_about 144 = .ok (.ireturn, 1) := by decide +kernel
theorem dX5_about_145 : decode cX5_about 145 = .ok (.aload_n 0, 1) := by decide +kernel
theorem dX5_about_146 : decode cX5_about 146 = .ok (.getfield 7, 3) := by decide +kernel
theorem dX5_about_149 : decode cX5_about 149 = .ok (.iload_n 3, 1) := by decide +kernel
theorem dX5_about_150 : decode cX5_about 150 = .ok (.iconst 2, 1) := by decide +kernel
theorem dX5_about_151 : decode cX5_about 151 = .ok (.iadd, 1) := by decide +kernel
theorem dX5_about_152 : decode cX5_about 152 = .ok (.iload_n 2, 1) := by decide +kernel
theorem dX5_about_153 : decode cX5_about 153 = .ok (.iadd, 1) := by decide +kernel
theorem dX5_about_154 : decode cX5_about 154 = .ok (.iconst 5, 1) := by decide +kernel
theorem dX5_about_155 : decode cX5_about 155 = .ok (.isub, 1) := by decide +kernel
theorem dX5_about_156 : decode cX5_about 156 = .ok (.iaload, 1) := by decide +kernel
theorem dX5_about_157 : decode cX5_about 157 = .ok (.ireturn, 1) := by decide +kernel
theorem dX5_word_0 : decode cX5_word 0 = .ok (.iconst 0, 1) := by decide +kernel
theorem dX5_word_1 : decode cX5_word 1 = .ok (.istore_n 2, 1) := by decide +kernel
theorem dX5_word_2 : decode cX5_word 2 = .ok (.iconst 0, 1) := by decide +kernel
theorem dX5_word_3 : decode cX5_word 3 = .ok (.istore_n 3, 1) := by decide +kernel
theorem dX5_word_4 : decode cX5_word 4 = .ok (.iload_n 3, 1) := by decide +kernel
theorem dX5_word_5 : decode cX5_word 5 = .ok (.iconst 3, 1) := by decide +kernel
theorem dX5_word_6 : decode cX5_word 6 = .ok (.if_icmp .ge 52, 3) := by decide +kernel
theorem dX5_word_9 : decode cX5_word 9 = .ok (.aload_n 0, 1) := by decide +kernel
theorem dX5_word_10 : decode cX5_word 10 = .ok (.iload_n 3, 1) := by decide +kernel
theorem dX5_word_11 : decode cX5_word 11 = .ok (.aload_n 0, 1) := by decide +kernel
theorem dX5_word_12 : decode cX5_word 12 = .ok (.getfield 19, 3) := by decide +kernel
theorem dX5_word_15 : decode cX5_word 15 = .ok (.iload_n 3, 1) := by decide +kernel
theorem dX5_word_16 : decode cX5_word 16 = .ok (.iaload, 1) := by decide +kernel
theorem dX5_word_17 : decode cX5_word 17 = .ok (.invokevirtual 131, 3) := by decide +kernel
theorem dX5_word_20 : decode cX5_word 20 = .ok (.istore 4, 2) := by decide +kernel
theorem dX5_word_22 : decode cX5_word 22 = .ok (.iload_n 2, 1) := by decide +kernel
theorem dX5_word_23 : decode cX5_word 23 = .ok (.ifCond .ne 23, 3) := by decide +kernel
theorem dX5_word_26 : decode cX5_word 26 = .ok (.iload_n 1, 1) := by decide +kernel
theorem dX5_word_27 : decode cX5_word 27 = .ok (.iload 4, 2) := by decide +kernel
theorem dX5_word_29 : decode cX5_word 29 = .ok (.iload 4, 2) := by decide +kernel
theorem dX5_word_31 : decode cX5_word 31 = .ok (.aload_n 0, 1) := by decide +kernel
theorem dX5_word_32 : decode cX5_word 32 = .ok (.getfield 22, 3) := by decide +kernel
theorem dX5_word_35 : decode cX5_word 35 = .ok (.iload_n 3, 1) := by decide +kernel
theorem dX5_word_36 : decode cX5_word 36 = .ok (.iaload, 1) := by decide +kernel
theorem dX5_word_37 : decode cX5_word 37 = .ok (.iadd, 1) := by decide +kernel
theorem dX5_word_38 : decode cX5_word 38 = .ok (.iconst 1, 1) := by decide +kernel
theorem dX5_word_39 : decode cX5_word 39 = .ok (.isub, 1) := by decide +kernel
theorem dX5_word_40 : decode cX5_word 40 = .ok (.invokestatic 90, 3) := by decide +kernel
theorem dX5_word_43 : decode cX5_word 43 = .ok (.ifCond .eq 7, 3) := by decide +kernel
theorem dX5_word_46 : decode cX5_word 46 = .ok (.iconst 1, 1) := by decide +kernel
theorem dX5_word_47 : decode cX5_word 47 = .ok (.goto 4, 3) := by decide +kernel
theorem dX5_word_50 : decode cX5_word 50 = .ok (.iconst 0, 1) := by decide +kernel
theorem dX5_word_51 : decode cX5_word 51 = .ok (.istore_n 2, 1) := by decide +kernel
theorem dX5_word_52 : decode cX5_word 52 = .ok (.iinc 3 1, 3) := by decide +kernel
theorem dX5_word_55 : decode cX5_word 55 = .ok (.goto (-51), 3) := by decide +kernel
theorem dX5_word_58 : decode cX5_word 58 = .ok (.aload_n 0, 1) := by decide +kernel
theorem dX5_word_59 : decode cX5_word 59 = .ok (.iload_n 2, 1) := by decide +kernel
theorem dX5_word_60 : decode cX5_word 60 = .ok (.ifCond .eq 7, 3) := by decide +kernel
theorem dX5_word_63 : decode cX5_word 63 = .ok (.iconst 0, 1) := by decide +kernel
theorem dX5_word_64 : decode cX5_word 64 = .ok (.goto 4, 3) := by decide +kernel
theorem dX5_word_67 : decode cX5_word 67 = .ok (.iconst 1, 1) := by decide +kernel
theorem dX5_word_68 : decode cX5_word 68 = .ok (.putfield 87, 3) := by decide +kernel
theorem dX5_word_71 : decode cX5_word 71 = .ok (.iload_n 2, 1) := by decide +kernel
theorem dX5_word_72 : decode cX5_word 72 = .ok (.ifCond .eq 12, 3) := by decide +kernel
theorem dX5_word_75 : decode cX5_word 75 = .ok (.aload_n 0, 1) := by decide +kernel
theorem dX5_word_76 : decode cX5_word 76 = .ok (.getfield 7, 3) := by decide +kernel
theorem dX5_word_79 : decode cX5_word 79 = .ok (.iload_n 1, 1) := by decide +kernel
theorem dX5_word_80 : decode cX5_word 80 = .ok (.iaload, 1) := by decide +kernel
theorem dX5_word_81 : decode cX5_word 81 = .ok (.goto 4, 3) := by decide +kernel
theorem dX5_word_84 : decode cX5_word 84 = .ok (.iconst 0, 1) := by decide +kernel
theorem dX5_word_85 : decode cX5_word 85 = .ok (.ireturn, 1) := by decide +kernel
theorem dX5_sizeOf_0 : decode cX5_sizeOf 0 = .ok (.iload_n 1, 1) := by decide +kernel
theorem dX5_sizeOf_1 : decode cX5_sizeOf 1 = .ok (.tableswitch 73 0 6 #[43, 43, 50, 55, 60, 65, 70], 43) := by decide +kernel
theorem dX5_sizeOf_44 : decode cX5_sizeOf 44 = .ok (.aload_n 0, 1) := by decide +kernel
theorem dX5_sizeOf_45 : decode cX5_sizeOf 45 = .ok (.getfield 43, 3) := by decide +kernel
theorem dX5_sizeOf_48 : decode cX5_sizeOf 48 = .ok (.iload_n 1, 1) := by decide +kernel
theorem dX5_sizeOf_49 : decode cX5_sizeOf 49 = .ok (.iaload, 1) := by decide +kernel
theorem dX5_sizeOf_50 : decode cX5_sizeOf 50 = .ok (.ireturn, 1) := by decide +kernel
theorem dX5_sizeOf_51 : decode cX5_sizeOf 51 = .ok (.aload_n 0, 1) := by decide +kernel
theorem dX5_sizeOf_52 : decode cX5_sizeOf 52 = .ok (.getfield 105, 3) := by decide +kernel
theorem dX5_sizeOf_55 : decode cX5_sizeOf 55 = .ok (.ireturn, 1) := by decide +kernel
theorem dX5_sizeOf_56 : decode cX5_sizeOf 56 = .ok (.aload_n 0, 1) := by decide +kernel
theorem dX5_sizeOf_57 : decode cX5_sizeOf 57 = .ok (.getfield 157, 3) := by decide +kernel
theorem dX5_sizeOf_60 : decode cX5_sizeOf 60 = .ok (.ireturn, 1) := by decide +kernel
theorem dX5_sizeOf_61 : decode cX5_sizeOf 61 = .ok (.aload_n 0, 1) := by decide +kernel
theorem dX5_sizeOf_62 : decode cX5_sizeOf 62 = .ok (.getfield 151, 3) := by decide +kernel
theorem dX5_sizeOf_65 : decode cX5_sizeOf 65 = .ok (.ireturn, 1) := by decide +kernel
theorem dX5_sizeOf_66 : decode cX5_sizeOf 66 = .ok (.aload_n 0, 1) := by decide +kernel
theorem dX5_sizeOf_67 : decode cX5_sizeOf 67 = .ok (.getfield 154, 3) := by decide +kernel
theorem dX5_sizeOf_70 : decode cX5_sizeOf 70 = .ok (.ireturn, 1) := by decide +kernel
theorem dX5_sizeOf_71 : decode cX5_sizeOf 71 = .ok (.bipush 8, 2) := by decide +kernel
theorem dX5_sizeOf_73 : decode cX5_sizeOf 73 = .ok (.ireturn, 1) := by decide +kernel
theorem dX5_sizeOf_74 : decode cX5_sizeOf 74 = .ok (.iconst 0, 1) := by decide +kernel
theorem dX5_sizeOf_75 : decode cX5_sizeOf 75 = .ok (.ireturn, 1) := by decide +kernel
theorem dX5_row_0 : decode cX5_row 0 = .ok (.aload_n 0, 1) := by decide +kernel
theorem dX5_row_1 : decode cX5_row 1 = .ok (.iload_n 1, 1) := by decide +kernel
theorem dX5_row_2 : decode cX5_row 2 = .ok (.iconst 0, 1) := by decide +kernel
theorem dX5_row_3 : decode cX5_row 3 = .ok (.bipush 6, 2) := by decide +kernel
theorem dX5_row_5 : decode cX5_row 5 = .ok (.invokestatic 90, 3) := by decide +kernel
theorem dX5_row_8 : decode cX5_row 8 = .ok (.ifCond .eq 22, 3) := by decide +kernel
theorem dX5_row_11 : decode cX5_row 11 = .ok (.iload_n 2, 1) := by decide +kernel
theorem dX5_row_12 : decode cX5_row 12 = .ok (.iconst 0, 1) := by decide +kernel
theorem dX5_row_13 : decode cX5_row 13 = .ok (.aload_n 0, 1) := by decide +kernel
theorem dX5_row_14 : decode cX5_row 14 = .ok (.iload_n 1, 1) := by decide +kernel
theorem dX5_row_15 : decode cX5_row 15 = .ok (.invokevirtual 191, 3) := by decide +kernel
theorem dX5_row_18 : decode cX5_row 18 = .ok (.iconst 1, 1) := by decide +kernel
theorem dX5_row_19 : decode cX5_row 19 = .ok (.isub, 1) := by decide +kernel
theorem dX5_row_20 : decode cX5_row 20 = .ok (.invokestatic 90, 3) := by decide +kernel
theorem dX5_row_23 : decode cX5_row 23 = .ok (.ifCond .eq 7, 3) := by decide +kernel
theorem dX5_row_26 : decode cX5_row 26 = .ok (.iconst 0, 1) := by decide +kernel
theorem dX5_row_27 : decode cX5_row 27 = .ok (.goto 4, 3) := by decide +kernel
theorem dX5_row_30 : decode cX5_row 30 = .ok (.iconst 1, 1) := by decide +kernel
theorem dX5_row_31 : decode cX5_row 31 = .ok (.putfield 87, 3) := by decide +kernel
theorem dX5_row_34 : decode cX5_row 34 = .ok (.aload_n 0, 1) := by decide +kernel
theorem dX5_row_35 : decode cX5_row 35 = .ok (.getfield 87, 3) := by decide +kernel
theorem dX5_row_38 : decode cX5_row 38 = .ok (.ifCond .le 5, 3) := by decide +kernel
theorem dX5_row_41 : decode cX5_row 41 = .ok (.iconst 0, 1) := by decide +kernel
theorem dX5_row_42 : decode cX5_row 42 = .ok (.ireturn, 1) := by decide +kernel
theorem dX5_row_43 : decode cX5_row 43 = .ok (.iload_n 1, 1) := by decide +kernel
theorem dX5_row_44 : decode cX5_row 44 = .ok (.tableswitch 81 0 5 #[40, 40, 53, 60, 67, 74], 40) := by decide +kernel
theorem dX5_row_84 : decode cX5_row 84 = .ok (.aload_n 0, 1) := by decide +kernel
theorem dX5_row_85 : decode cX5_row 85 = .ok (.getfield 46, 3) := by decide +kernel
theorem dX5_row_88 : decode cX5_row 88 = .ok (.sipush 1000, 3) := by decide +kernel
theorem dX5_row_91 : decode cX5_row 91 = .ok (.iload_n 1, 1) := by decide +kernel
theorem dX5_row_92 : decode cX5_row 92 = .ok (.imul, 1) := by decide +kernel
theorem dX5_row_93 : decode cX5_row 93 = .ok (.iload_n 2, 1) := by decide +kernel
theorem dX5_row_94 : decode cX5_row 94 = .ok (.iadd, 1) := by decide +kernel
theorem dX5_row_95 : decode cX5_row 95 = .ok (.iaload, 1) := by decide +kernel
theorem dX5_row_96 : decode cX5_row 96 = .ok (.ireturn, 1) := by decide +kernel
theorem dX5_row_97 : decode cX5_row 97 = .ok (.aload_n 0, 1) := by decide +kernel
theorem dX5_row_98 : decode cX5_row 98 = .ok (.getfield 40, 3) := by decide +kernel
theorem dX5_row_101 : decode cX5_row 101 = .ok (.iload_n 2, 1) := by decide +kernel
theorem dX5_row_102 : decode cX5_row 102 = .ok (.iaload, 1) := by decide +kernel
theorem dX5_row_103 : decode cX5_row 103 = .ok (.ireturn, 1) := by decide +kernel
theorem dX5_row_104 : decode cX5_row 104 = .ok (.aload_n 0, 1) := by decide +kernel
theorem dX5_row_105 : decode cX5_row 105 = .ok (.getfield 28, 3) := by decide +kernel
theorem dX5_row_108 : decode cX5_row 108 = .ok (.iload_n 2, 1) := by decide +kernel
theorem dX5_row_109 : decode cX5_row 109 = .ok (.iaload, 1) := by decide +kernel
theorem dX5_row_110 : decode cX5_row 110 = .ok (.ireturn, 1) := by decide +kernel
theorem dX5_row_111 : decode cX5_row 111 = .ok (.aload_n 0, 1) := by decide +kernel
theorem dX5_row_112 : decode cX5_row 112 = .ok (.getfield 34, 3) := by decide +kernel
theorem dX5_row_115 : decode cX5_row 115 = .ok (.iload_n 2, 1) := by decide +kernel
theorem dX5_row_116 : decode cX5_row 116 = .ok (.iaload, 1) := by decide +kernel
theorem dX5_row_117 : decode cX5_row 117 = .ok (.ireturn, 1) := by decide +kernel
theorem dX5_row_118 : decode cX5_row 118 = .ok (.aload_n 0, 1) := by decide +kernel
theorem dX5_row_119 : decode cX5_row 119 = .ok (.getfield 37, 3) := by decide +kernel
theorem dX5_row_122 : decode cX5_row 122 = .ok (.iload_n 2, 1) := by decide +kernel
theorem dX5_row_123 : decode cX5_row 123 = .ok (.iaload, 1) := by decide +kernel
theorem dX5_row_124 : decode cX5_row 124 = .ok (.ireturn, 1) := by decide +kernel
theorem dX5_row_125 : decode cX5_row 125 = .ok (.aload_n 0, 1) := by decide +kernel
theorem dX5_row_126 : decode cX5_row 126 = .ok (.getfield 31, 3) := by decide +kernel
theorem dX5_row_129 : decode cX5_row 129 = .ok (.iload_n 2, 1) := by decide +kernel
theorem dX5_row_130 : decode cX5_row 130 = .ok (.iaload, 1) := by decide +kernel
theorem dX5_row_131 : decode cX5_row 131 = .ok (.ireturn, 1) := by decide +kernel
theorem dX5_code_0 : decode cX5_code 0 = .ok (.aload_n 0, 1) := by decide +kernel
theorem dX5_code_1 : decode cX5_code 1 = .ok (.aload_n 0, 1) := by decide +kernel
theorem dX5_code_2 : decode cX5_code 2 = .ok (.getfield 194, 3) := by decide +kernel
theorem dX5_code_5 : decode cX5_code 5 = .ok (.bipush 64, 2) := by decide +kernel
theorem dX5_code_7 : decode cX5_code 7 = .ok (.if_icmp .ne 7, 3) := by decide +kernel
theorem dX5_code_10 : decode cX5_code 10 = .ok (.iconst 1, 1) := by decide +kernel
theorem dX5_code_11 : decode cX5_code 11 = .ok (.goto 4, 3) := by decide +kernel
theorem dX5_code_14 : decode cX5_code 14 = .ok (.iconst 0, 1) := by decide +kernel
theorem dX5_code_15 : decode cX5_code 15 = .ok (.putfield 87, 3) := by decide +kernel
theorem dX5_code_18 : decode cX5_code 18 = .ok (.aload_n 0, 1) := by decide +kernel
theorem dX5_code_19 : decode cX5_code 19 = .ok (.getfield 87, 3) := by decide +kernel
theorem dX5_code_22 : decode cX5_code 22 = .ok (.ifCond .le 5, 3) := by decide +kernel
theorem dX5_code_25 : decode cX5_code 25 = .ok (.iconst 0, 1) := by decide +kernel
theorem dX5_code_26 : decode cX5_code 26 = .ok (.ireturn, 1) := by decide +kernel
theorem dX5_code_27 : decode cX5_code 27 = .ok (.aload_n 0, 1) := by decide +kernel
theorem dX5_code_28 : decode cX5_code 28 = .ok (.getfield 61, 3) := by decide +kernel
theorem dX5_code_31 : decode cX5_code 31 = .ok (.iconst 4, 1) := by decide +kernel
theorem dX5_code_32 : decode cX5_code 32 = .ok (.aload_n 0, 1) := by decide +kernel
theorem dX5_code_33 : decode cX5_code 33 = .ok (.getfield 194, 3) := by decide +kernel
theorem dX5_code_36 : decode cX5_code 36 = .ok (.imul, 1) := by decide +kernel
theorem dX5_code_37 : decode cX5_code 37 = .ok (.iload_n 1, 1) := by decide +kernel
theorem dX5_code_38 : decode cX5_code 38 = .ok (.iastore, 1) := by decide +kernel
theorem dX5_code_39 : decode cX5_code 39 = .ok (.aload_n 0, 1) := by decide +kernel
theorem dX5_code_40 : decode cX5_code 40 = .ok (.getfield 61, 3) := by decide +kernel
theorem dX5_code_43 : decode cX5_code 43 = .ok (.iconst 4, 1) := by decide +kernel
theorem dX5_code_44 : decode cX5_code 44 = .ok (.aload_n 0, 1) := by decide +kernel
theorem dX5_code_45 : decode cX5_code 45 = .ok (.getfield 194, 3) := by decide +kernel
theorem dX5_code_48 : decode cX5_code 48 = .ok (.imul, 1) := by decide +kernel
theorem dX5_code_49 : decode cX5_code 49 = .ok (.iconst 1, 1) := by decide +kernel
theorem dX5_code_50 : decode cX5_code 50 = .ok (.iadd, 1) := by decide +kernel
theorem dX5_code_51 : decode cX5_code 51 = .ok (.iload_n 2, 1) := by decide +kernel
theorem dX5_code_52 : decode cX5_code 52 = .ok (.iastore, 1) := by decide +kernel
theorem dX5_code_53 : decode cX5_code 53 = .ok (.aload_n 0, 1) := by decide +kernel
theorem dX5_code_54 : decode cX5_code 54 = .ok (.getfield 61, 3) := by decide +kernel
theorem dX5_code_57 : decode cX5_code 57 = .ok (.iconst 4, 1) := by decide +kernel
theorem dX5_code_58 : decode cX5_code 58 = .ok (.aload_n 0, 1) := by decide +kernel
theorem dX5_code_59 : decode cX5_code 59 = .ok (.getfield 194, 3) := by decide +kernel
theorem dX5_code_62 : decode cX5_code 62 = .ok (.imul, 1) := by decide +kernel
theorem dX5_code_63 : decode cX5_code 63 = .ok (.iconst 2, 1) := by decide +kernel
theorem dX5_code_64 : decode cX5_code 64 = .ok (.iadd, 1) := by decide +kernel
theorem dX5_code_65 : decode cX5_code 65 = .ok (.iload_n 3, 1) := by decide +kernel
theorem dX5_code_66 : decode cX5_code 66 = .ok (.iastore, 1) := by decide +kernel
theorem dX5_code_67 : decode cX5_code 67 = .ok (.aload_n 0, 1) := by decide +kernel
theorem dX5_code_68 : decode cX5_code 68 = .ok (.getfield 61, 3) := by decide +kernel
theorem dX5_code_71 : decode cX5_code 71 = .ok (.iconst 4, 1) := by decide +kernel
theorem dX5_code_72 : decode cX5_code 72 = .ok (.aload_n 0, 1) := by decide +kernel
theorem dX5_code_73 : decode cX5_code 73 = .ok (.getfield 194, 3) := by decide +kernel
theorem dX5_code_76 : decode cX5_code 76 = .ok (.imul, 1) := by decide +kernel
theorem dX5_code_77 : decode cX5_code 77 = .ok (.iconst 3, 1) := by decide +kernel
theorem dX5_code_78 : decode cX5_code 78 = .ok (.iadd, 1) := by decide +kernel
theorem dX5_code_79 : decode cX5_code 79 = .ok (.iload 4, 2) := by decide +kernel
theorem dX5_code_81 : decode cX5_code 81 = .ok (.iastore, 1) := by decide +kernel
theorem dX5_code_82 : decode cX5_code 82 = .ok (.aload_n 0, 1) := by decide +kernel
theorem dX5_code_83 : decode cX5_code 83 = .ok (.dup, 1) := by decide +kernel
theorem dX5_code_84 : decode cX5_code 84 = .ok (.getfield 194, 3) := by decide +kernel
theorem dX5_code_87 : decode cX5_code 87 = .ok (.iconst 1, 1) := by decide +kernel
theorem dX5_code_88 : decode cX5_code 88 = .ok (.iadd, 1) := by decide +kernel
theorem dX5_code_89 : decode cX5_code 89 = .ok (.putfield 194, 3) := by decide +kernel
theorem dX5_code_92 : decode cX5_code 92 = .ok (.aload_n 0, 1) := by decide +kernel
theorem dX5_code_93 : decode cX5_code 93 = .ok (.getfield 194, 3) := by decide +kernel
theorem dX5_code_96 : decode cX5_code 96 = .ok (.ireturn, 1) := by decide +kernel
theorem dX5_scrap_0 : decode cX5_scrap 0 = .ok (.aload_n 0, 1) := by decide +kernel
theorem dX5_scrap_1 : decode cX5_scrap 1 = .ok (.iconst 0, 1) := by decide +kernel
theorem dX5_scrap_2 : decode cX5_scrap 2 = .ok (.putfield 87, 3) := by decide +kernel
theorem dX5_scrap_5 : decode cX5_scrap 5 = .ok (.aload_n 0, 1) := by decide +kernel
theorem dX5_scrap_6 : decode cX5_scrap 6 = .ok (.getfield 194, 3) := by decide +kernel
theorem dX5_scrap_9 : decode cX5_scrap 9 = .ok (.istore_n 1, 1) := by decide +kernel
theorem dX5_scrap_10 : decode cX5_scrap 10 = .ok (.aload_n 0, 1) := by decide +kernel
theorem dX5_scrap_11 : decode cX5_scrap 11 = .ok (.iconst 0, 1) := by decide +kernel
theorem dX5_scrap_12 : decode cX5_scrap 12 = .ok (.putfield 194, 3) := by decide +kernel
theorem dX5_scrap_15 : decode cX5_scrap 15 = .ok (.iload_n 1, 1) := by decide +kernel
theorem dX5_scrap_16 : decode cX5_scrap 16 = .ok (.ireturn, 1) := by decide +kernel
theorem dX5_isNumber_0 : decode cX5_isNumber 0 = .ok (.iload_n 0, 1) := by decide +kernel
theorem dX5_isNumber_1 : decode cX5_isNumber 1 = .ok (.iconst 0, 1) := by decide +kernel
theorem dX5_isNumber_2 : decode cX5_isNumber 2 = .ok (.bipush 7, 2) := by decide +kernel
theorem dX5_isNumber_4 : decode cX5_isNumber 4 = .ok (.invokestatic 90, 3) := by decide +kernel
theorem dX5_isNumber_7 : decode cX5_isNumber 7 = .ok (.ireturn, 1) := by decide +kernel
theorem dX5_isPlace_0 : decode cX5_isPlace 0 = .ok (.iload_n 1, 1) := by decide +kernel
theorem dX5_isPlace_1 : decode cX5_isPlace 1 = .ok (.iconst 0, 1) := by decide +kernel
theorem dX5_isPlace_2 : decode cX5_isPlace 2 = .ok (.aload_n 0, 1) := by decide +kernel
theorem dX5_isPlace_3 : decode cX5_isPlace 3 = .ok (.getfield 194, 3) := by decide +kernel
theorem dX5_isPlace_6 : decode cX5_isPlace 6 = .ok (.invokestatic 90, 3) := by decide +kernel
theorem dX5_isPlace_9 : decode cX5_isPlace 9 = .ok (.ireturn, 1) := by decide +kernel
theorem dX5_isField_0 : decode cX5_isField 0 = .ok (.iload_n 0, 1) := by decide +kernel
theorem dX5_isField_1 : decode cX5_isField 1 = .ok (.iconst 0, 1) := by decide +kernel
theorem dX5_isField_2 : decode cX5_isField 2 = .ok (.iconst 5, 1) := by decide +kernel
theorem dX5_isField_3 : decode cX5_isField 3 = .ok (.invokestatic 90, 3) := by decide +kernel
theorem dX5_isField_6 : decode cX5_isField 6 = .ok (.ireturn, 1) := by decide +kernel
theorem dX5_isRight_0 : decode cX5_isRight 0 = .ok (.iload_n 1, 1) := by decide +kernel
theorem dX5_isRight_1 : decode cX5_isRight 1 = .ok (.tableswitch 338 0 14 #[75, 77, 108, 142, 170, 195, 195, 200, 205, 233, 253, 274, 303, 309, 77], 75) := by decide +kernel
theorem dX5_isRight_76 : decode cX5_isRight 76 = .ok (.iconst 1, 1) := by decide +kernel
theorem dX5_isRight_77 : decode cX5_isRight 77 = .ok (.ireturn, 1) := by decide +kernel
theorem dX5_isRight_78 : decode cX5_isRight 78 = .ok (.iload_n 2, 1) := by decide +kernel
theorem dX5_isRight_79 : decode cX5_isRight 79 = .ok (.invokestatic 175, 3) := by decide +kernel
theorem dX5_isRight_82 : decode cX5_isRight 82 = .ok (.ifCond .eq 25, 3) := by decide +kernel
theorem dX5_isRight_85 : decode cX5_isRight 85 = .ok (.iload_n 3, 1) := by decide +kernel
theorem dX5_isRight_86 : decode cX5_isRight 86 = .ok (.iconst 0, 1) := by decide +kernel
theorem dX5_isRight_87 : decode cX5_isRight 87 = .ok (.bipush 6, 2) := by decide +kernel
theorem dX5_isRight_89 : decode cX5_isRight 89 = .ok (.invokestatic 90, 3) := by decide +kernel
theorem dX5_isRight_92 : decode cX5_isRight 92 = .ok (.ifCond .eq 15, 3) := by decide +kernel
theorem dX5_isRight_95 : decode cX5_isRight 95 = .ok (.iload 4, 2) := by decide +kernel
theorem dX5_isRight_97 : decode cX5_isRight 97 = .ok (.invokestatic 197, 3) := by decide +kernel
theorem dX5_isRight_100 : decode cX5_isRight 100 = .ok (.ifCond .eq 7, 3) := by decide +kernel
theorem dX5_isRight_103 : decode cX5_isRight 103 = .ok (.iconst 1, 1) := by decide +kernel
theorem dX5_isRight_104 : decode cX5_isRight 104 = .ok (.goto 4, 3) := by decide +kernel
theorem dX5_isRight_107 : decode cX5_isRight 107 = .ok (.iconst 0, 1) := by decide +kernel
theorem dX5_isRight_108 : decode cX5_isRight 108 = .ok (.ireturn, 1) := by decide +kernel
theorem dX5_isRight_109 : decode cX5_isRight 109 = .ok (.iload_n 2, 1) := by decide +kernel
theorem dX5_isRight_110 : decode cX5_isRight 110 = .ok (.invokestatic 175, 3) := by decide +kernel
theorem dX5_isRight_113 : decode cX5_isRight 113 = .ok (.ifCond .eq 28, 3) := by decide +kernel
theorem dX5_isRight_116 : decode cX5_isRight 116 = .ok (.iload_n 3, 1) := by decide +kernel
theorem dX5_isRight_117 : decode cX5_isRight 117 = .ok (.invokestatic 200, 3) := by decide +kernel
theorem dX5_isRight_120 : decode cX5_isRight 120 = .ok (.ifCond .eq 21, 3) := by decide +kernel
theorem dX5_isRight_123 : decode cX5_isRight 123 = .ok (.iload 4, 2) := by decide +kernel
theorem dX5_isRight_125 : decode cX5_isRight 125 = .ok (.iconst (-1), 1) := by decide +kernel
theorem dX5_isRight_126 : decode cX5_isRight 126 = .ok (.if_icmp .eq 11, 3) := by decide +kernel
theorem dX5_isRight_129 : decode cX5_isRight 129 = .ok (.iload 4, 2) := by decide +kernel
theorem dX5_isRight_131 : decode cX5_isRight 131 = .ok (.invokestatic 175, 3) := by decide +kernel
theorem dX5_isRight_134 : decode cX5_isRight 134 = .ok (.ifCond .eq 7, 3) := by decide +kernel
theorem dX5_isRight_137 : decode cX5_isRight 137 = .ok (.iconst 1, 1) := by decide +kernel
theorem dX5_isRight_138 : decode cX5_isRight 138 = .ok (.goto 4, 3) := by decide +kernel
theorem dX5_isRight_141 : decode cX5_isRight 141 = .ok (.iconst 0, 1) := by decide +kernel
theorem dX5_isRight_142 : decode cX5_isRight 142 = .ok (.ireturn, 1) := by decide +kernel
theorem dX5_isRight_143 : decode cX5_isRight 143 = .ok (.iload_n 2, 1) := by decide +kernel
theorem dX5_isRight_144 : decode cX5_isRight 144 = .ok (.invokestatic 175, 3) := by decide +kernel
theorem dX5_isRight_147 : decode cX5_isRight 147 = .ok (.ifCond .eq 22, 3) := by decide +kernel
theorem dX5_isRight_150 : decode cX5_isRight 150 = .ok (.iload_n 3, 1) := by decide +kernel
theorem dX5_isRight_151 : decode cX5_isRight 151 = .ok (.invokestatic 175, 3) := by decide +kernel
theorem dX5_isRight_154 : decode cX5_isRight 154 = .ok (.ifCond .eq 15, 3) := by decide +kernel
theorem dX5_isRight_157 : decode cX5_isRight 157 = .ok (.iload 4, 2) := by decide +kernel
theorem dX5_isRight_159 : decode cX5_isRight 159 = .ok (.invokestatic 200, 3) := by decide +kernel
theorem dX5_isRight_162 : decode cX5_isRight 162 = .ok (.ifCond .eq 7, 3) := by decide +kernel
theorem dX5_isRight_165 : decode cX5_isRight 165 = .ok (.iconst 1, 1) := by decide +kernel
theorem dX5_isRight_166 : decode cX5_isRight 166 = .ok (.goto 4, 3) := by decide +kernel
theorem dX5_isRight_169 : decode cX5_isRight 169 = .ok (.iconst 0, 1) := by decide +kernel
theorem dX5_isRight_170 : decode cX5_isRight 170 = .ok (.ireturn, 1) := by decide +kernel
theorem dX5_isRight_171 : decode cX5_isRight 171 = .ok (.iload_n 2, 1) := by decide +kernel
theorem dX5_isRight_172 : decode cX5_isRight 172 = .ok (.invokestatic 175, 3) := by decide +kernel
theorem dX5_isRight_175 : decode cX5_isRight 175 = .ok (.ifCond .eq 19, 3) := by decide +kernel
theorem dX5_isRight_178 : decode cX5_isRight 178 = .ok (.iload_n 3, 1) := by decide +kernel
theorem dX5_isRight_179 : decode cX5_isRight 179 = .ok (.iconst (-1), 1) := by decide +kernel
theorem dX5_isRight_180 : decode cX5_isRight 180 = .ok (.if_icmp .eq 10, 3) := by decide +kernel
theorem dX5_isRight_183 : decode cX5_isRight 183 = .ok (.iload_n 3, 1) := by decide +kernel
theorem dX5_isRight_184 : decode cX5_isRight 184 = .ok (.invokestatic 175, 3) := by decide +kernel
theorem dX5_isRight_187 : decode cX5_isRight 187 = .ok (.ifCond .eq 7, 3) := by decide +kernel
theorem dX5_isRight_190 : decode cX5_isRight 190 = .ok (.iconst 1, 1) := by decide +kernel
theorem dX5_isRight_191 : decode cX5_isRight 191 = .ok (.goto 4, 3) := by decide +kernel
theorem dX5_isRight_194 : decode cX5_isRight 194 = .ok (.iconst 0, 1) := by decide +kernel
theorem dX5_isRight_195 : decode cX5_isRight 195 = .ok (.ireturn, 1) := by decide +kernel
theorem dX5_isRight_196 : decode cX5_isRight 196 = .ok (.iload_n 2, 1) := by decide +kernel
theorem dX5_isRight_197 : decode cX5_isRight 197 = .ok (.invokestatic 175, 3) := by decide +kernel
theorem dX5_isRight_200 : decode cX5_isRight 200 = .ok (.ireturn, 1) := by decide +kernel
theorem dX5_isRight_201 : decode cX5_isRight 201 = .ok (.iload_n 2, 1) := by decide +kernel
theorem dX5_isRight_202 : decode cX5_isRight 202 = .ok (.invokestatic 197, 3) := by decide +kernel
theorem dX5_isRight_205 : decode cX5_isRight 205 = .ok (.ireturn, 1) := by decide +kernel
theorem dX5_isRight_206 : decode cX5_isRight 206 = .ok (.iload_n 2, 1) := by decide +kernel
theorem dX5_isRight_207 : decode cX5_isRight 207 = .ok (.invokestatic 197, 3) := by decide +kernel
theorem dX5_isRight_210 : decode cX5_isRight 210 = .ok (.ifCond .eq 22, 3) := by decide +kernel
theorem dX5_isRight_213 : decode cX5_isRight 213 = .ok (.iload_n 3, 1) := by decide +kernel
theorem dX5_isRight_214 : decode cX5_isRight 214 = .ok (.invokestatic 197, 3) := by decide +kernel
theorem dX5_isRight_217 : decode cX5_isRight 217 = .ok (.ifCond .eq 15, 3) := by decide +kernel
theorem dX5_isRight_220 : decode cX5_isRight 220 = .ok (.iload 4, 2) := by decide +kernel
theorem dX5_isRight_222 : decode cX5_isRight 222 = .ok (.invokestatic 197, 3) := by decide +kernel
theorem dX5_isRight_225 : decode cX5_isRight 225 = .ok (.ifCond .eq 7, 3) := by decide +kernel
theorem dX5_isRight_228 : decode cX5_isRight 228 = .ok (.iconst 1, 1) := by decide +kernel
theorem dX5_isRight_229 : decode cX5_isRight 229 = .ok (.goto 4, 3) := by decide +kernel
theorem dX5_isRight_232 : decode cX5_isRight 232 = .ok (.iconst 0, 1) := by decide +kernel
theorem dX5_isRight_233 : decode cX5_isRight 233 = .ok (.ireturn, 1) := by decide +kernel
theorem dX5_isRight_234 : decode cX5_isRight 234 = .ok (.iload_n 2, 1) := by decide +kernel
theorem dX5_isRight_235 : decode cX5_isRight 235 = .ok (.invokestatic 197, 3) := by decide +kernel
theorem dX5_isRight_238 : decode cX5_isRight 238 = .ok (.ifCond .eq 14, 3) := by decide +kernel
theorem dX5_isRight_241 : decode cX5_isRight 241 = .ok (.iload_n 3, 1) := by decide +kernel
theorem dX5_isRight_242 : decode cX5_isRight 242 = .ok (.invokestatic 175, 3) := by decide +kernel
theorem dX5_isRight_245 : decode cX5_isRight 245 = .ok (.ifCond .eq 7, 3) := by decide +kernel
theorem dX5_isRight_248 : decode cX5_isRight 248 = .ok (.iconst 1, 1) := by decide +kernel
theorem dX5_isRight_249 : decode cX5_isRight 249 = .ok (.goto 4, 3) := by decide +kernel
theorem dX5_isRight_252 : decode cX5_isRight 252 = .ok (.iconst 0, 1) := by decide +kernel
theorem dX5_isRight_253 : decode cX5_isRight 253 = .ok (.ireturn, 1) := by decide +kernel
theorem dX5_isRight_254 : decode cX5_isRight 254 = .ok (.iload_n 2, 1) := by decide +kernel
theorem dX5_isRight_255 : decode cX5_isRight 255 = .ok (.invokestatic 175, 3) := by decide +kernel
theorem dX5_isRight_258 : decode cX5_isRight 258 = .ok (.ifCond .eq 15, 3) := by decide +kernel
theorem dX5_isRight_261 : decode cX5_isRight 261 = .ok (.aload_n 0, 1) := by decide +kernel
theorem dX5_isRight_262 : decode cX5_isRight 262 = .ok (.iload_n 3, 1) := by decide +kernel
theorem dX5_isRight_263 : decode cX5_isRight 263 = .ok (.invokevirtual 203, 3) := by decide +kernel
theorem dX5_isRight_266 : decode cX5_isRight 266 = .ok (.ifCond .eq 7, 3) := by decide +kernel
theorem dX5_isRight_269 : decode cX5_isRight 269 = .ok (.iconst 1, 1) := by decide +kernel
theorem dX5_isRight_270 : decode cX5_isRight 270 = .ok (.goto 4, 3) := by decide +kernel
theorem dX5_isRight_273 : decode cX5_isRight 273 = .ok (.iconst 0, 1) := by decide +kernel
theorem dX5_isRight_274 : decode cX5_isRight 274 = .ok (.ireturn, 1) := by decide +kernel
theorem dX5_isRight_275 : decode cX5_isRight 275 = .ok (.iload_n 2, 1) := by decide +kernel
theorem dX5_isRight_276 : decode cX5_isRight 276 = .ok (.invokestatic 197, 3) := by decide +kernel
theorem dX5_isRight_279 : decode cX5_isRight 279 = .ok (.ifCond .eq 23, 3) := by decide +kernel
theorem dX5_isRight_282 : decode cX5_isRight 282 = .ok (.iload_n 3, 1) := by decide +kernel
theorem dX5_isRight_283 : decode cX5_isRight 283 = .ok (.invokestatic 197, 3) := by decide +kernel
theorem dX5_isRight_286 : decode cX5_isRight 286 = .ok (.ifCond .eq 16, 3) := by decide +kernel
theorem dX5_isRight_289 : decode cX5_isRight 289 = .ok (.aload_n 0, 1) := by decide +kernel
theorem dX5_isRight_290 : decode cX5_isRight 290 = .ok (.iload 4, 2) := by decide +kernel
theorem dX5_isRight_292 : decode cX5_isRight 292 = .ok (.invokevirtual 203, 3) := by decide +kernel
theorem dX5_isRight_295 : decode cX5_isRight 295 = .ok (.ifCond .eq 7, 3) := by decide +kernel
theorem dX5_isRight_298 : decode cX5_isRight 298 = .ok (.iconst 1, 1) := by decide +kernel
theorem dX5_isRight_299 : decode cX5_isRight 299 = .ok (.goto 4, 3) := by decide +kernel
theorem dX5_isRight_302 : decode cX5_isRight 302 = .ok (.iconst 0, 1) := by decide +kernel
theorem dX5_isRight_303 : decode cX5_isRight 303 = .ok (.ireturn, 1) := by decide +kernel
theorem dX5_isRight_304 : decode cX5_isRight 304 = .ok (.aload_n 0, 1) := by decide +kernel
theorem dX5_isRight_305 : decode cX5_isRight 305 = .ok (.iload_n 2, 1) := by decide +kernel
theorem dX5_isRight_306 : decode cX5_isRight 306 = .ok (.invokevirtual 203, 3) := by decide +kernel
theorem dX5_isRight_309 : decode cX5_isRight 309 = .ok (.ireturn, 1) := by decide +kernel
theorem dX5_isRight_310 : decode cX5_isRight 310 = .ok (.iload_n 2, 1) := by decide +kernel
theorem dX5_isRight_311 : decode cX5_isRight 311 = .ok (.invokestatic 175, 3) := by decide +kernel
theorem dX5_isRight_314 : decode cX5_isRight 314 = .ok (.ifCond .eq 23, 3) := by decide +kernel
theorem dX5_isRight_317 : decode cX5_isRight 317 = .ok (.iload_n 3, 1) := by decide +kernel
theorem dX5_isRight_318 : decode cX5_isRight 318 = .ok (.invokestatic 175, 3) := by decide +kernel
theorem dX5_isRight_321 : decode cX5_isRight 321 = .ok (.ifCond .eq 16, 3) := by decide +kernel
theorem dX5_isRight_324 : decode cX5_isRight 324 = .ok (.aload_n 0, 1) := by decide +kernel
theorem dX5_isRight_325 : decode cX5_isRight 325 = .ok (.iload 4, 2) := by decide +kernel
theorem dX5_isRight_327 : decode cX5_isRight 327 = .ok (.invokevirtual 203, 3) := by decide +kernel
theorem dX5_isRight_330 : decode cX5_isRight 330 = .ok (.ifCond .eq 7, 3) := by decide +kernel
theorem dX5_isRight_333 : decode cX5_isRight 333 = .ok (.iconst 1, 1) := by decide +kernel
theorem dX5_isRight_334 : decode cX5_isRight 334 = .ok (.goto 4, 3) := by decide +kernel
theorem dX5_isRight_337 : decode cX5_isRight 337 = .ok (.iconst 0, 1) := by decide +kernel
theorem dX5_isRight_338 : decode cX5_isRight 338 = .ok (.ireturn, 1) := by decide +kernel
theorem dX5_isRight_339 : decode cX5_isRight 339 = .ok (.iconst 0, 1) := by decide +kernel
theorem dX5_isRight_340 : decode cX5_isRight 340 = .ok (.ireturn, 1) := by decide +kernel
theorem dX5_hindered_0 : decode cX5_hindered 0 = .ok (.iload_n 1, 1) := by decide +kernel
theorem dX5_hindered_1 : decode cX5_hindered 1 = .ok (.iconst 2, 1) := by decide +kernel
theorem dX5_hindered_2 : decode cX5_hindered 2 = .ok (.if_icmp .ne 7, 3) := by decide +kernel
theorem dX5_hindered_5 : decode cX5_hindered 5 = .ok (.iload_n 2, 1) := by decide +kernel
theorem dX5_hindered_6 : decode cX5_hindered 6 = .ok (.goto 19, 3) := by decide +kernel
theorem dX5_hindered_9 : decode cX5_hindered 9 = .ok (.iload_n 1, 1) := by decide +kernel
theorem dX5_hindered_10 : decode cX5_hindered 10 = .ok (.iconst 3, 1) := by decide +kernel
theorem dX5_hindered_11 : decode cX5_hindered 11 = .ok (.if_icmp .eq 9, 3) := by decide +kernel
theorem dX5_hindered_14 : decode cX5_hindered 14 = .ok (.iload_n 1, 1) := by decide +kernel
theorem dX5_hindered_15 : decode cX5_hindered 15 = .ok (.bipush 9, 2) := by decide +kernel
theorem dX5_hindered_17 : decode cX5_hindered 17 = .ok (.if_icmp .ne 7, 3) := by decide +kernel
theorem dX5_hindered_20 : decode cX5_hindered 20 = .ok (.iload_n 3, 1) := by decide +kernel
theorem dX5_hindered_21 : decode cX5_hindered 21 = .ok (.goto 4, 3) := by decide +kernel
theorem dX5_hindered_24 : decode cX5_hindered 24 = .ok (.iconst (-1), 1) := by decide +kernel
theorem dX5_hindered_25 : decode cX5_hindered 25 = .ok (.istore 5, 2) := by decide +kernel
theorem dX5_hindered_27 : decode cX5_hindered 27 = .ok (.iload 5, 2) := by decide +kernel
theorem dX5_hindered_29 : decode cX5_hindered 29 = .ok (.iconst (-1), 1) := by decide +kernel
theorem dX5_hindered_30 : decode cX5_hindered 30 = .ok (.if_icmp .eq 15, 3) := by decide +kernel
theorem dX5_hindered_33 : decode cX5_hindered 33 = .ok (.aload_n 0, 1) := by decide +kernel
theorem dX5_hindered_34 : decode cX5_hindered 34 = .ok (.getfield 25, 3) := by decide +kernel
theorem dX5_hindered_37 : decode cX5_hindered 37 = .ok (.iload 5, 2) := by decide +kernel
theorem dX5_hindered_39 : decode cX5_hindered 39 = .ok (.iaload, 1) := by decide +kernel
theorem dX5_hindered_40 : decode cX5_hindered 40 = .ok (.ifCond .ne 5, 3) := by decide +kernel
theorem dX5_hindered_43 : decode cX5_hindered 43 = .ok (.iconst 2, 1) := by decide +kernel
theorem dX5_hindered_44 : decode cX5_hindered 44 = .ok (.ireturn, 1) := by decide +kernel
theorem dX5_hindered_45 : decode cX5_hindered 45 = .ok (.iload_n 1, 1) := by decide +kernel
theorem dX5_hindered_46 : decode cX5_hindered 46 = .ok (.iconst 2, 1) := by decide +kernel
theorem dX5_hindered_47 : decode cX5_hindered 47 = .ok (.if_icmp .ne 17, 3) := by decide +kernel
theorem dX5_hindered_50 : decode cX5_hindered 50 = .ok (.iload_n 3, 1) := by decide +kernel
theorem dX5_hindered_51 : decode cX5_hindered 51 = .ok (.aload_n 0, 1) := by decide +kernel
theorem dX5_hindered_52 : decode cX5_hindered 52 = .ok (.aload_n 0, 1) := by decide +kernel
theorem dX5_hindered_53 : decode cX5_hindered 53 = .ok (.getfield 25, 3) := by decide +kernel
theorem dX5_hindered_56 : decode cX5_hindered 56 = .ok (.iload_n 2, 1) := by decide +kernel
theorem dX5_hindered_57 : decode cX5_hindered 57 = .ok (.iaload, 1) := by decide +kernel
theorem dX5_hindered_58 : decode cX5_hindered 58 = .ok (.invokevirtual 121, 3) := by decide +kernel
theorem dX5_hindered_61 : decode cX5_hindered 61 = .ok (.if_icmp .ge 23, 3) := by decide +kernel
theorem dX5_hindered_64 : decode cX5_hindered 64 = .ok (.iload_n 1, 1) := by decide +kernel
theorem dX5_hindered_65 : decode cX5_hindered 65 = .ok (.iconst 3, 1) := by decide +kernel
theorem dX5_hindered_66 : decode cX5_hindered 66 = .ok (.if_icmp .ne 20, 3) := by decide +kernel
theorem dX5_hindered_69 : decode cX5_hindered 69 = .ok (.iload 4, 2) := by decide +kernel
theorem dX5_hindered_71 : decode cX5_hindered 71 = .ok (.aload_n 0, 1) := by decide +kernel
theorem dX5_hindered_72 : decode cX5_hindered 72 = .ok (.aload_n 0, 1) := by decide +kernel
theorem dX5_hindered_73 : decode cX5_hindered 73 = .ok (.getfield 25, 3) := by decide +kernel
theorem dX5_hindered_76 : decode cX5_hindered 76 = .ok (.iload_n 3, 1) := by decide +kernel
theorem dX5_hindered_77 : decode cX5_hindered 77 = .ok (.iaload, 1) := by decide +kernel
theorem dX5_hindered_78 : decode cX5_hindered 78 = .ok (.invokevirtual 121, 3) := by decide +kernel
theorem dX5_hindered_81 : decode cX5_hindered 81 = .ok (.if_icmp .lt 5, 3) := by decide +kernel
theorem dX5_hindered_84 : decode cX5_hindered 84 = .ok (.iconst 3, 1) := by decide +kernel
theorem dX5_hindered_85 : decode cX5_hindered 85 = .ok (.ireturn, 1) := by decide +kernel
theorem dX5_hindered_86 : decode cX5_hindered 86 = .ok (.iload_n 1, 1) := by decide +kernel
theorem dX5_hindered_87 : decode cX5_hindered 87 = .ok (.iconst 5, 1) := by decide +kernel
theorem dX5_hindered_88 : decode cX5_hindered 88 = .ok (.if_icmp .ne 12, 3) := by decide +kernel
theorem dX5_hindered_91 : decode cX5_hindered 91 = .ok (.aload_n 0, 1) := by decide +kernel
theorem dX5_hindered_92 : decode cX5_hindered 92 = .ok (.getfield 157, 3) := by decide +kernel
theorem dX5_hindered_95 : decode cX5_hindered 95 = .ok (.bipush 40, 2) := by decide +kernel
theorem dX5_hindered_97 : decode cX5_hindered 97 = .ok (.if_icmp .eq 16, 3) := by decide +kernel
theorem dX5_hindered_100 : decode cX5_hindered 100 = .ok (.iload_n 1, 1) := by decide +kernel
theorem dX5_hindered_101 : decode cX5_hindered 101 = .ok (.bipush 6, 2) := by decide +kernel
theorem dX5_hindered_103 : decode cX5_hindered 103 = .ok (.if_icmp .ne 14, 3) := by decide +kernel
theorem dX5_hindered_106 : decode cX5_hindered 106 = .ok (.aload_n 0, 1) := by decide +kernel
theorem dX5_hindered_107 : decode cX5_hindered 107 = .ok (.getfield 157, 3) := by decide +kernel
theorem dX5_hindered_110 : decode cX5_hindered 110 = .ok (.ifCond .ne 7, 3) := by decide +kernel
theorem dX5_hindered_113 : decode cX5_hindered 113 = .ok (.iconst 4, 1) := by decide +kernel
theorem dX5_hindered_114 : decode cX5_hindered 114 = .ok (.goto 4, 3) := by decide +kernel
theorem dX5_hindered_117 : decode cX5_hindered 117 = .ok (.iconst 0, 1) := by decide +kernel
theorem dX5_hindered_118 : decode cX5_hindered 118 = .ok (.ireturn, 1) := by decide +kernel
theorem dX5_does_0 : decode cX5_does 0 = .ok (.iload_n 1, 1) := by decide +kernel
theorem dX5_does_1 : decode cX5_does 1 = .ok (.iconst 1, 1) := by decide +kernel
theorem dX5_does_2 : decode cX5_does 2 = .ok (.iadd, 1) := by decide +kernel
theorem dX5_does_3 : decode cX5_does 3 = .ok (.istore 6, 2) := by decide +kernel
theorem dX5_does_5 : decode cX5_does 5 = .ok (.iload_n 2, 1) := by decide +kernel
theorem dX5_does_6 : decode cX5_does 6 = .ok (.tableswitch 374 1 14 #[70, 130, 165, 191, 217, 245, 273, 284, 308, 331, 348, 372, 374, 70], 70) := by decide +kernel
theorem dX5_does_76 : decode cX5_does 76 = .ok (.aload_n 0, 1) := by decide +kernel
theorem dX5_does_77 : decode cX5_does 77 = .ok (.iload 4, 2) := by decide +kernel
theorem dX5_does_79 : decode cX5_does 79 = .ok (.aload_n 0, 1) := by decide +kernel
theorem dX5_does_80 : decode cX5_does 80 = .ok (.getfield 58, 3) := by decide +kernel
theorem dX5_does_83 : decode cX5_does 83 = .ok (.iload 5, 2) := by decide +kernel
theorem dX5_does_85 : decode cX5_does 85 = .ok (.iaload, 1) := by decide +kernel
theorem dX5_does_86 : decode cX5_does 86 = .ok (.iload_n 2, 1) := by decide +kernel
theorem dX5_does_87 : decode cX5_does 87 = .ok (.bipush 14, 2) := by decide +kernel
theorem dX5_does_89 : decode cX5_does 89 = .ok (.if_icmp .ne 7, 3) := by decide +kernel
theorem dX5_does_92 : decode cX5_does 92 = .ok (.iconst 1, 1) := by decide +kernel
theorem dX5_does_93 : decode cX5_does 93 = .ok (.goto 4, 3) := by decide +kernel
theorem dX5_does_96 : decode cX5_does 96 = .ok (.iconst 0, 1) := by decide +kernel
theorem dX5_does_97 : decode cX5_does 97 = .ok (.invokevirtual 178, 3) := by decide +kernel
theorem dX5_does_100 : decode cX5_does 100 = .ok (.istore 7, 2) := by decide +kernel
theorem dX5_does_102 : decode cX5_does 102 = .ok (.aload_n 0, 1) := by decide +kernel
theorem dX5_does_103 : decode cX5_does 103 = .ok (.getfield 25, 3) := by decide +kernel
theorem dX5_does_106 : decode cX5_does 106 = .ok (.iload_n 3, 1) := by decide +kernel
theorem dX5_does_107 : decode cX5_does 107 = .ok (.iload 7, 2) := by decide +kernel
theorem dX5_does_109 : decode cX5_does 109 = .ok (.ifCond .eq 8, 3) := by decide +kernel
theorem dX5_does_112 : decode cX5_does 112 = .ok (.iload 7, 2) := by decide +kernel
theorem dX5_does_114 : decode cX5_does 114 = .ok (.goto 9, 3) := by decide +kernel
theorem dX5_does_117 : decode cX5_does 117 = .ok (.aload_n 0, 1) := by decide +kernel
theorem dX5_does_118 : decode cX5_does 118 = .ok (.getfield 25, 3) := by decide +kernel
theorem dX5_does_121 : decode cX5_does 121 = .ok (.iload_n 3, 1) := by decide +kernel
theorem dX5_does_122 : decode cX5_does 122 = .ok (.iaload, 1) := by decide +kernel
theorem dX5_does_123 : decode cX5_does 123 = .ok (.iastore, 1) := by decide +kernel
theorem dX5_does_124 : decode cX5_does 124 = .ok (.iload 7, 2) := by decide +kernel
theorem dX5_does_126 : decode cX5_does 126 = .ok (.ifCond .eq 8, 3) := by decide +kernel
theorem dX5_does_129 : decode cX5_does 129 = .ok (.iload 6, 2) := by decide +kernel
theorem dX5_does_131 : decode cX5_does 131 = .ok (.goto 4, 3) := by decide +kernel
theorem dX5_does_134 : decode cX5_does 134 = .ok (.iconst (-1), 1) := by decide +kernel
theorem dX5_does_135 : decode cX5_does 135 = .ok (.ireturn, 1) := by decide +kernel
theorem dX5_does_136 : decode cX5_does 136 = .ok (.aload_n 0, 1) := by decide +kernel
theorem dX5_does_137 : decode cX5_does 137 = .ok (.aload_n 0, 1) := by decide +kernel
theorem dX5_does_138 : decode cX5_does 138 = .ok (.getfield 25, 3) := by decide +kernel
theorem dX5_does_141 : decode cX5_does 141 = .ok (.iload_n 3, 1) := by decide +kernel
theorem dX5_does_142 : decode cX5_does 142 = .ok (.iaload, 1) := by decide +kernel
theorem dX5_does_143 : decode cX5_does 143 = .ok (.iconst 2, 1) := by decide +kernel
theorem dX5_does_144 : decode cX5_does 144 = .ok (.iadd, 1) := by decide +kernel
theorem dX5_does_145 : decode cX5_does 145 = .ok (.iload 4, 2) := by decide +kernel
theorem dX5_does_147 : decode cX5_does 147 = .ok (.iadd, 1) := by decide +kernel
theorem dX5_does_148 : decode cX5_does 148 = .ok (.iload 5, 2) := by decide +kernel
theorem dX5_does_150 : decode cX5_does 150 = .ok (.iconst (-1), 1) := by decide +kernel
theorem dX5_does_151 : decode cX5_does 151 = .ok (.if_icmp .ne 7, 3) := by decide +kernel
theorem dX5_does_154 : decode cX5_does 154 = .ok (.iconst 0, 1) := by decide +kernel
theorem dX5_does_155 : decode cX5_does 155 = .ok (.goto 10, 3) := by decide +kernel
theorem dX5_does_158 : decode cX5_does 158 = .ok (.aload_n 0, 1) := by decide +kernel
theorem dX5_does_159 : decode cX5_does 159 = .ok (.getfield 25, 3) := by decide +kernel
theorem dX5_does_162 : decode cX5_does 162 = .ok (.iload 5, 2) := by decide +kernel
theorem dX5_does_164 : decode cX5_does 164 = .ok (.iaload, 1) := by decide +kernel
theorem dX5_does_165 : decode cX5_does 165 = .ok (.invokevirtual 182, 3) := by decide +kernel
theorem dX5_does_168 : decode cX5_does 168 = .ok (.iload 6, 2) := by decide +kernel
theorem dX5_does_170 : decode cX5_does 170 = .ok (.ireturn, 1) := by decide +kernel
theorem dX5_does_171 : decode cX5_does 171 = .ok (.aload_n 0, 1) := by decide +kernel
theorem dX5_does_172 : decode cX5_does 172 = .ok (.getfield 25, 3) := by decide +kernel
theorem dX5_does_175 : decode cX5_does 175 = .ok (.iload_n 3, 1) := by decide +kernel
theorem dX5_does_176 : decode cX5_does 176 = .ok (.aload_n 0, 1) := by decide +kernel
theorem dX5_does_177 : decode cX5_does 177 = .ok (.getfield 7, 3) := by decide +kernel
theorem dX5_does_180 : decode cX5_does 180 = .ok (.aload_n 0, 1) := by decide +kernel
theorem dX5_does_181 : decode cX5_does 181 = .ok (.getfield 25, 3) := by decide +kernel
theorem dX5_does_184 : decode cX5_does 184 = .ok (.iload 4, 2) := by decide +kernel
theorem dX5_does_186 : decode cX5_does 186 = .ok (.iaload, 1) := by decide +kernel
theorem dX5_does_187 : decode cX5_does 187 = .ok (.iconst 2, 1) := by decide +kernel
theorem dX5_does_188 : decode cX5_does 188 = .ok (.iadd, 1) := by decide +kernel
theorem dX5_does_189 : decode cX5_does 189 = .ok (.iload 5, 2) := by decide +kernel
theorem dX5_does_191 : decode cX5_does 191 = .ok (.iadd, 1) := by decide +kernel
theorem dX5_does_192 : decode cX5_does 192 = .ok (.iaload, 1) := by decide +kernel
theorem dX5_does_193 : decode cX5_does 193 = .ok (.iastore, 1) := by decide +kernel
theorem dX5_does_194 : decode cX5_does 194 = .ok (.iload 6, 2) := by decide +kernel
theorem dX5_does_196 : decode cX5_does 196 = .ok (.ireturn, 1) := by decide +kernel
theorem dX5_does_197 : decode cX5_does 197 = .ok (.aload_n 0, 1) := by decide +kernel
theorem dX5_does_198 : decode cX5_does 198 = .ok (.getfield 25, 3) := by decide +kernel
theorem dX5_does_201 : decode cX5_does 201 = .ok (.iload_n 3, 1) := by decide +kernel
theorem dX5_does_202 : decode cX5_does 202 = .ok (.iload 4, 2) := by decide +kernel
theorem dX5_does_204 : decode cX5_does 204 = .ok (.iconst (-1), 1) := by decide +kernel
theorem dX5_does_205 : decode cX5_does 205 = .ok (.if_icmp .ne 7, 3) := by decide +kernel
theorem dX5_does_208 : decode cX5_does 208 = .ok (.iconst 0, 1) := by decide +kernel
theorem dX5_does_209 : decode cX5_does 209 = .ok (.goto 10, 3) := by decide +kernel
theorem dX5_does_212 : decode cX5_does 212 = .ok (.aload_n 0, 1) := by decide +kernel
theorem dX5_does_213 : decode cX5_does 213 = .ok (.getfield 25, 3) := by decide +kernel
theorem dX5_does_216 : decode cX5_does 216 = .ok (.iload 4, 2) := by decide +kernel
theorem dX5_does_218 : decode cX5_does 218 = .ok (.iaload, 1) := by decide +kernel
theorem dX5_does_219 : decode cX5_does 219 = .ok (.iastore, 1) := by decide +kernel
theorem dX5_does_220 : decode cX5_does 220 = .ok (.iload 6, 2) := by decide +kernel
theorem dX5_does_222 : decode cX5_does 222 = .ok (.ireturn, 1) := by decide +kernel
theorem dX5_does_223 : decode cX5_does 223 = .ok (.aload_n 0, 1) := by decide +kernel
theorem dX5_does_224 : decode cX5_does 224 = .ok (.getfield 28, 3) := by decide +kernel
theorem dX5_does_227 : decode cX5_does 227 = .ok (.aload_n 0, 1) := by decide +kernel
theorem dX5_does_228 : decode cX5_does 228 = .ok (.getfield 157, 3) := by decide +kernel
theorem dX5_does_231 : decode cX5_does 231 = .ok (.aload_n 0, 1) := by decide +kernel
theorem dX5_does_232 : decode cX5_does 232 = .ok (.getfield 25, 3) := by decide +kernel
theorem dX5_does_235 : decode cX5_does 235 = .ok (.iload_n 3, 1) := by decide +kernel
theorem dX5_does_236 : decode cX5_does 236 = .ok (.iaload, 1) := by decide +kernel
theorem dX5_does_237 : decode cX5_does 237 = .ok (.iastore, 1) := by decide +kernel
theorem dX5_does_238 : decode cX5_does 238 = .ok (.aload_n 0, 1) := by decide +kernel
theorem dX5_does_239 : decode cX5_does 239 = .ok (.dup, 1) := by decide +kernel
theorem dX5_does_240 : decode cX5_does 240 = .ok (.getfield 157, 3) := by decide +kernel
theorem dX5_does_243 : decode cX5_does 243 = .ok (.iconst 1, 1) := by decide +kernel
theorem dX5_does_244 : decode cX5_does 244 = .ok (.iadd, 1) := by decide +kernel
theorem dX5_does_245 : decode cX5_does 245 = .ok (.putfield 157, 3) := by decide +kernel
theorem dX5_does_248 : decode cX5_does 248 = .ok (.iload 6, 2) := by decide +kernel
theorem dX5_does_250 : decode cX5_does 250 = .ok (.ireturn, 1) := by decide +kernel
theorem dX5_does_251 : decode cX5_does 251 = .ok (.aload_n 0, 1) := by decide +kernel
theorem dX5_does_252 : decode cX5_does 252 = .ok (.dup, 1) := by decide +kernel
theorem dX5_does_253 : decode cX5_does 253 = .ok (.getfield 157, 3) := by decide +kernel
theorem dX5_does_256 : decode cX5_does 256 = .ok (.iconst 1, 1) := by decide +kernel
theorem dX5_does_257 : decode cX5_does 257 = .ok (.isub, 1) := by decide +kernel
theorem dX5_does_258 : decode cX5_does 258 = .ok (.putfield 157, 3) := by decide +kernel
theorem dX5_does_261 : decode cX5_does 261 = .ok (.aload_n 0, 1) := by decide +kernel
theorem dX5_does_262 : decode cX5_does 262 = .ok (.getfield 25, 3) := by decide +kernel
theorem dX5_does_265 : decode cX5_does 265 = .ok (.iload_n 3, 1) := by decide +kernel
theorem dX5_does_266 : decode cX5_does 266 = .ok (.aload_n 0, 1) := by decide +kernel
theorem dX5_does_267 : decode cX5_does 267 = .ok (.getfield 28, 3) := by decide +kernel
theorem dX5_does_270 : decode cX5_does 270 = .ok (.aload_n 0, 1) := by decide +kernel
theorem dX5_does_271 : decode cX5_does 271 = .ok (.getfield 157, 3) := by decide +kernel
theorem dX5_does_274 : decode cX5_does 274 = .ok (.iaload, 1) := by decide +kernel
theorem dX5_does_275 : decode cX5_does 275 = .ok (.iastore, 1) := by decide +kernel
theorem dX5_does_276 : decode cX5_does 276 = .ok (.iload 6, 2) := by decide +kernel
theorem dX5_does_278 : decode cX5_does 278 = .ok (.ireturn, 1) := by decide +kernel
theorem dX5_does_279 : decode cX5_does 279 = .ok (.aload_n 0, 1) := by decide +kernel
theorem dX5_does_280 : decode cX5_does 280 = .ok (.getfield 58, 3) := by decide +kernel
theorem dX5_does_283 : decode cX5_does 283 = .ok (.iload_n 3, 1) := by decide +kernel
theorem dX5_does_284 : decode cX5_does 284 = .ok (.iload 4, 2) := by decide +kernel
theorem dX5_does_286 : decode cX5_does 286 = .ok (.iastore, 1) := by decide +kernel
theorem dX5_does_287 : decode cX5_does 287 = .ok (.iload 6, 2) := by decide +kernel
theorem dX5_does_289 : decode cX5_does 289 = .ok (.ireturn, 1) := by decide +kernel
theorem dX5_does_290 : decode cX5_does 290 = .ok (.aload_n 0, 1) := by decide +kernel
theorem dX5_does_291 : decode cX5_does 291 = .ok (.getfield 58, 3) := by decide +kernel
theorem dX5_does_294 : decode cX5_does 294 = .ok (.iload_n 3, 1) := by decide +kernel
theorem dX5_does_295 : decode cX5_does 295 = .ok (.aload_n 0, 1) := by decide +kernel
theorem dX5_does_296 : decode cX5_does 296 = .ok (.getfield 58, 3) := by decide +kernel
theorem dX5_does_299 : decode cX5_does 299 = .ok (.iload 4, 2) := by decide +kernel
theorem dX5_does_301 : decode cX5_does 301 = .ok (.iaload, 1) := by decide +kernel
theorem dX5_does_302 : decode cX5_does 302 = .ok (.aload_n 0, 1) := by decide +kernel
theorem dX5_does_303 : decode cX5_does 303 = .ok (.getfield 58, 3) := by decide +kernel
theorem dX5_does_306 : decode cX5_does 306 = .ok (.iload 5, 2) := by decide +kernel
theorem dX5_does_308 : decode cX5_does 308 = .ok (.iaload, 1) := by decide +kernel
theorem dX5_does_309 : decode cX5_does 309 = .ok (.iadd, 1) := by decide +kernel
theorem dX5_does_310 : decode cX5_does 310 = .ok (.iastore, 1) := by decide +kernel
theorem dX5_does_311 : decode cX5_does 311 = .ok (.iload 6, 2) := by decide +kernel
theorem dX5_does_313 : decode cX5_does 313 = .ok (.ireturn, 1) := by decide +kernel
theorem dX5_does_314 : decode cX5_does 314 = .ok (.aload_n 0, 1) := by decide +kernel
theorem dX5_does_315 : decode cX5_does 315 = .ok (.getfield 58, 3) := by decide +kernel
theorem dX5_does_318 : decode cX5_does 318 = .ok (.iload_n 3, 1) := by decide +kernel
theorem dX5_does_319 : decode cX5_does 319 = .ok (.aload_n 0, 1) := by decide +kernel
theorem dX5_does_320 : decode cX5_does 320 = .ok (.getfield 7, 3) := by decide +kernel
theorem dX5_does_323 : decode cX5_does 323 = .ok (.aload_n 0, 1) := by decide +kernel
theorem dX5_does_324 : decode cX5_does 324 = .ok (.getfield 25, 3) := by decide +kernel
theorem dX5_does_327 : decode cX5_does 327 = .ok (.iload 4, 2) := by decide +kernel
theorem dX5_does_329 : decode cX5_does 329 = .ok (.iaload, 1) := by decide +kernel
theorem dX5_does_330 : decode cX5_does 330 = .ok (.iconst 1, 1) := by decide +kernel
theorem dX5_does_331 : decode cX5_does 331 = .ok (.iadd, 1) := by decide +kernel
theorem dX5_does_332 : decode cX5_does 332 = .ok (.iaload, 1) := by decide +kernel
theorem dX5_does_333 : decode cX5_does 333 = .ok (.iastore, 1) := by decide +kernel
theorem dX5_does_334 : decode cX5_does 334 = .ok (.iload 6, 2) := by decide +kernel
theorem dX5_does_336 : decode cX5_does 336 = .ok (.ireturn, 1) := by decide +kernel
theorem dX5_does_337 : decode cX5_does 337 = .ok (.aload_n 0, 1) := by decide +kernel
theorem dX5_does_338 : decode cX5_does 338 = .ok (.getfield 25, 3) := by decide +kernel
theorem dX5_does_341 : decode cX5_does 341 = .ok (.iload_n 3, 1) := by decide +kernel
theorem dX5_does_342 : decode cX5_does 342 = .ok (.iaload, 1) := by decide +kernel
theorem dX5_does_343 : decode cX5_does 343 = .ok (.ifCond .ne 8, 3) := by decide +kernel
theorem dX5_does_346 : decode cX5_does 346 = .ok (.iload 4, 2) := by decide +kernel
theorem dX5_does_348 : decode cX5_does 348 = .ok (.goto 5, 3) := by decide +kernel
theorem dX5_does_351 : decode cX5_does 351 = .ok (.iload 6, 2) := by decide +kernel
theorem dX5_does_353 : decode cX5_does 353 = .ok (.ireturn, 1) := by decide +kernel
theorem dX5_does_354 : decode cX5_does 354 = .ok (.aload_n 0, 1) := by decide +kernel
theorem dX5_does_355 : decode cX5_does 355 = .ok (.getfield 58, 3) := by decide +kernel
theorem dX5_does_358 : decode cX5_does 358 = .ok (.iload_n 3, 1) := by decide +kernel
theorem dX5_does_359 : decode cX5_does 359 = .ok (.iaload, 1) := by decide +kernel
theorem dX5_does_360 : decode cX5_does 360 = .ok (.aload_n 0, 1) := by decide +kernel
theorem dX5_does_361 : decode cX5_does 361 = .ok (.getfield 58, 3) := by decide +kernel
theorem dX5_does_364 : decode cX5_does 364 = .ok (.iload 4, 2) := by decide +kernel
theorem dX5_does_366 : decode cX5_does 366 = .ok (.iaload, 1) := by decide +kernel
theorem dX5_does_367 : decode cX5_does 367 = .ok (.if_icmp .ge 8, 3) := by decide +kernel
theorem dX5_does_370 : decode cX5_does 370 = .ok (.iload 5, 2) := by decide +kernel
theorem dX5_does_372 : decode cX5_does 372 = .ok (.goto 5, 3) := by decide +kernel
theorem dX5_does_375 : decode cX5_does 375 = .ok (.iload 6, 2) := by decide +kernel
theorem dX5_does_377 : decode cX5_does 377 = .ok (.ireturn, 1) := by decide +kernel
theorem dX5_does_378 : decode cX5_does 378 = .ok (.iload_n 3, 1) := by decide +kernel
theorem dX5_does_379 : decode cX5_does 379 = .ok (.ireturn, 1) := by decide +kernel
theorem dX5_does_380 : decode cX5_does 380 = .ok (.aload_n 0, 1) := by decide +kernel
theorem dX5_does_381 : decode cX5_does 381 = .ok (.getfield 25, 3) := by decide +kernel
theorem dX5_does_384 : decode cX5_does 384 = .ok (.iload_n 3, 1) := by decide +kernel
theorem dX5_does_385 : decode cX5_does 385 = .ok (.iaload, 1) := by decide +kernel
theorem dX5_does_386 : decode cX5_does 386 = .ok (.aload_n 0, 1) := by decide +kernel
theorem dX5_does_387 : decode cX5_does 387 = .ok (.getfield 25, 3) := by decide +kernel
theorem dX5_does_390 : decode cX5_does 390 = .ok (.iload 4, 2) := by decide +kernel
theorem dX5_does_392 : decode cX5_does 392 = .ok (.iaload, 1) := by decide +kernel
theorem dX5_does_393 : decode cX5_does 393 = .ok (.if_icmp .ne 8, 3) := by decide +kernel
theorem dX5_does_396 : decode cX5_does 396 = .ok (.iload 5, 2) := by decide +kernel
theorem dX5_does_398 : decode cX5_does 398 = .ok (.goto 5, 3) := by decide +kernel
theorem dX5_does_401 : decode cX5_does 401 = .ok (.iload 6, 2) := by decide +kernel
theorem dX5_does_403 : decode cX5_does 403 = .ok (.ireturn, 1) := by decide +kernel
theorem dX5_run_0 : decode cX5_run 0 = .ok (.aload_n 0, 1) := by decide +kernel
theorem dX5_run_1 : decode cX5_run 1 = .ok (.aload_n 0, 1) := by decide +kernel
theorem dX5_run_2 : decode cX5_run 2 = .ok (.iload_n 1, 1) := by decide +kernel
theorem dX5_run_3 : decode cX5_run 3 = .ok (.invokevirtual 203, 3) := by decide +kernel
theorem dX5_run_6 : decode cX5_run 6 = .ok (.ifCond .ne 7, 3) := by decide +kernel
theorem dX5_run_9 : decode cX5_run 9 = .ok (.iconst 1, 1) := by decide +kernel
theorem dX5_run_10 : decode cX5_run 10 = .ok (.goto 19, 3) := by decide +kernel
theorem dX5_run_13 : decode cX5_run 13 = .ok (.iload_n 2, 1) := by decide +kernel
theorem dX5_run_14 : decode cX5_run 14 = .ok (.iconst 0, 1) := by decide +kernel
theorem dX5_run_15 : decode cX5_run 15 = .ok (.sipush 400, 3) := by decide +kernel
theorem dX5_run_18 : decode cX5_run 18 = .ok (.invokestatic 90, 3) := by decide +kernel
theorem dX5_run_21 : decode cX5_run 21 = .ok (.ifCond .ne 7, 3) := by decide +kernel
theorem dX5_run_24 : decode cX5_run 24 = .ok (.iconst 2, 1) := by decide +kernel
theorem dX5_run_25 : decode cX5_run 25 = .ok (.goto 4, 3) := by decide +kernel
theorem dX5_run_28 : decode cX5_run 28 = .ok (.iconst 0, 1) := by decide +kernel
theorem dX5_run_29 : decode cX5_run 29 = .ok (.putfield 87, 3) := by decide +kernel
theorem dX5_run_32 : decode cX5_run 32 = .ok (.aload_n 0, 1) := by decide +kernel
theorem dX5_run_33 : decode cX5_run 33 = .ok (.getfield 87, 3) := by decide +kernel
theorem dX5_run_36 : decode cX5_run 36 = .ok (.ifCond .le 5, 3) := by decide +kernel
theorem dX5_run_39 : decode cX5_run 39 = .ok (.iconst 0, 1) := by decide +kernel
theorem dX5_run_40 : decode cX5_run 40 = .ok (.ireturn, 1) := by decide +kernel
theorem dX5_run_41 : decode cX5_run 41 = .ok (.aload_n 0, 1) := by decide +kernel
theorem dX5_run_42 : decode cX5_run 42 = .ok (.iload_n 1, 1) := by decide +kernel
theorem dX5_run_43 : decode cX5_run 43 = .ok (.putfield 206, 3) := by decide +kernel
theorem dX5_run_46 : decode cX5_run 46 = .ok (.iconst 0, 1) := by decide +kernel
theorem dX5_run_47 : decode cX5_run 47 = .ok (.istore_n 3, 1) := by decide +kernel
theorem dX5_run_48 : decode cX5_run 48 = .ok (.aload_n 0, 1) := by decide +kernel
theorem dX5_run_49 : decode cX5_run 49 = .ok (.getfield 206, 3) := by decide +kernel
theorem dX5_run_52 : decode cX5_run 52 = .ok (.aload_n 0, 1) := by decide +kernel
theorem dX5_run_53 : decode cX5_run 53 = .ok (.getfield 194, 3) := by decide +kernel
theorem dX5_run_56 : decode cX5_run 56 = .ok (.if_icmp .ge 173, 3) := by decide +kernel
theorem dX5_run_59 : decode cX5_run 59 = .ok (.iload_n 3, 1) := by decide +kernel
theorem dX5_run_60 : decode cX5_run 60 = .ok (.iload_n 2, 1) := by decide +kernel
theorem dX5_run_61 : decode cX5_run 61 = .ok (.if_icmp .ne 6, 3) := by decide +kernel
theorem dX5_run_64 : decode cX5_run 64 = .ok (.bipush 6, 2) := by decide +kernel
theorem dX5_run_66 : decode cX5_run 66 = .ok (.ireturn, 1) := by decide +kernel
theorem dX5_run_67 : decode cX5_run 67 = .ok (.aload_n 0, 1) := by decide +kernel
theorem dX5_run_68 : decode cX5_run 68 = .ok (.getfield 61, 3) := by decide +kernel
theorem dX5_run_71 : decode cX5_run 71 = .ok (.iconst 4, 1) := by decide +kernel
theorem dX5_run_72 : decode cX5_run 72 = .ok (.aload_n 0, 1) := by decide +kernel
theorem dX5_run_73 : decode cX5_run 73 = .ok (.getfield 206, 3) := by decide +kernel
theorem dX5_run_76 : decode cX5_run 76 = .ok (.imul, 1) := by decide +kernel
theorem dX5_run_77 : decode cX5_run 77 = .ok (.iaload, 1) := by decide +kernel
theorem dX5_run_78 : decode cX5_run 78 = .ok (.istore 4, 2) := by decide +kernel
theorem dX5_run_80 : decode cX5_run 80 = .ok (.aload_n 0, 1) := by decide +kernel
theorem dX5_run_81 : decode cX5_run 81 = .ok (.getfield 61, 3) := by decide +kernel
theorem dX5_run_84 : decode cX5_run 84 = .ok (.iconst 4, 1) := by decide +kernel
theorem dX5_run_85 : decode cX5_run 85 = .ok (.aload_n 0, 1) := by decide +kernel
theorem dX5_run_86 : decode cX5_run 86 = .ok (.getfield 206, 3) := by decide +kernel
theorem dX5_run_89 : decode cX5_run 89 = .ok (.imul, 1) := by decide +kernel
theorem dX5_run_90 : decode cX5_run 90 = .ok (.iconst 1, 1) := by decide +kernel
theorem dX5_run_91 : decode cX5_run 91 = .ok (.iadd, 1) := by decide +kernel
theorem dX5_run_92 : decode cX5_run 92 = .ok (.iaload, 1) := by decide +kernel
theorem dX5_run_93 : decode cX5_run 93 = .ok (.istore 5, 2) := by decide +kernel
theorem dX5_run_95 : decode cX5_run 95 = .ok (.aload_n 0, 1) := by decide +kernel
theorem dX5_run_96 : decode cX5_run 96 = .ok (.getfield 61, 3) := by decide +kernel
theorem dX5_run_99 : decode cX5_run 99 = .ok (.iconst 4, 1) := by decide +kernel
theorem dX5_run_100 : decode cX5_run 100 = .ok (.aload_n 0, 1) := by decide +kernel
theorem dX5_run_101 : decode cX5_run 101 = .ok (.getfield 206, 3) := by decide +kernel
theorem dX5_run_104 : decode cX5_run 104 = .ok (.imul, 1) := by decide +kernel
theorem dX5_run_105 : decode cX5_run 105 = .ok (.iconst 2, 1) := by decide +kernel
theorem dX5_run_106 : decode cX5_run 106 = .ok (.iadd, 1) := by decide +kernel
theorem dX5_run_107 : decode cX5_run 107 = .ok (.iaload, 1) := by decide +kernel
theorem dX5_run_108 : decode cX5_run 108 = .ok (.istore 6, 2) := by decide +kernel
theorem dX5_run_110 : decode cX5_run 110 = .ok (.aload_n 0, 1) := by decide +kernel
theorem dX5_run_111 : decode cX5_run 111 = .ok (.getfield 61, 3) := by decide +kernel
theorem dX5_run_114 : decode cX5_run 114 = .ok (.iconst 4, 1) := by decide +kernel
theorem dX5_run_115 : decode cX5_run 115 = .ok (.aload_n 0, 1) := by decide +kernel
theorem dX5_run_116 : decode cX5_run 116 = .ok (.getfield 206, 3) := by decide +kernel
theorem dX5_run_119 : decode cX5_run 119 = .ok (.imul, 1) := by decide +kernel
theorem dX5_run_120 : decode cX5_run 120 = .ok (.iconst 3, 1) := by decide +kernel
theorem dX5_run_121 : decode cX5_run 121 = .ok (.iadd, 1) := by decide +kernel
theorem dX5_run_122 : decode cX5_run 122 = .ok (.iaload, 1) := by decide +kernel
theorem dX5_run_123 : decode cX5_run 123 = .ok (.istore 7, 2) := by decide +kernel
theorem dX5_run_125 : decode cX5_run 125 = .ok (.aload_n 0, 1) := by decide +kernel
theorem dX5_run_126 : decode cX5_run 126 = .ok (.iload 4, 2) := by decide +kernel
theorem dX5_run_128 : decode cX5_run 128 = .ok (.iload 5, 2) := by decide +kernel
theorem dX5_run_130 : decode cX5_run 130 = .ok (.iload 6, 2) := by decide +kernel
theorem dX5_run_132 : decode cX5_run 132 = .ok (.iload 7, 2) := by decide +kernel
theorem dX5_run_134 : decode cX5_run 134 = .ok (.invokevirtual 209, 3) := by decide +kernel
theorem dX5_run_137 : decode cX5_run 137 = .ok (.ifCond .ne 5, 3) := by decide +kernel
theorem dX5_run_140 : decode cX5_run 140 = .ok (.iconst 1, 1) := by decide +kernel
theorem dX5_run_141 : decode cX5_run 141 = .ok (.ireturn, 1) := by decide +kernel
theorem dX5_run_142 : decode cX5_run 142 = .ok (.aload_n 0, 1) := by decide +kernel
theorem dX5_run_143 : decode cX5_run 143 = .ok (.iload 4, 2) := by decide +kernel
theorem dX5_run_145 : decode cX5_run 145 = .ok (.iload 5, 2) := by decide +kernel
theorem dX5_run_147 : decode cX5_run 147 = .ok (.iload 6, 2) := by decide +kernel
theorem dX5_run_149 : decode cX5_run 149 = .ok (.iload 7, 2) := by decide +kernel
theorem dX5_run_151 : decode cX5_run 151 = .ok (.invokevirtual 213, 3) := by decide +kernel
theorem dX5_run_154 : decode cX5_run 154 = .ok (.istore 8, 2) := by decide +kernel
theorem dX5_run_156 : decode cX5_run 156 = .ok (.iload 8, 2) := by decide +kernel
theorem dX5_run_158 : decode cX5_run 158 = .ok (.ifCond .le 6, 3) := by decide +kernel
theorem dX5_run_161 : decode cX5_run 161 = .ok (.iload 8, 2) := by decide +kernel
theorem dX5_run_163 : decode cX5_run 163 = .ok (.ireturn, 1) := by decide +kernel
theorem dX5_run_164 : decode cX5_run 164 = .ok (.iload 4, 2) := by decide +kernel
theorem dX5_run_166 : decode cX5_run 166 = .ok (.ifCond .ne 15, 3) := by decide +kernel
theorem dX5_run_169 : decode cX5_run 169 = .ok (.aload_n 0, 1) := by decide +kernel
theorem dX5_run_170 : decode cX5_run 170 = .ok (.dup, 1) := by decide +kernel
theorem dX5_run_171 : decode cX5_run 171 = .ok (.getfield 217, 3) := by decide +kernel
theorem dX5_run_174 : decode cX5_run 174 = .ok (.iconst 1, 1) := by decide +kernel
theorem dX5_run_175 : decode cX5_run 175 = .ok (.iadd, 1) := by decide +kernel
theorem dX5_run_176 : decode cX5_run 176 = .ok (.putfield 217, 3) := by decide +kernel
theorem dX5_run_179 : decode cX5_run 179 = .ok (.iconst 0, 1) := by decide +kernel
theorem dX5_run_180 : decode cX5_run 180 = .ok (.ireturn, 1) := by decide +kernel
theorem dX5_run_181 : decode cX5_run 181 = .ok (.aload_n 0, 1) := by decide +kernel
theorem dX5_run_182 : decode cX5_run 182 = .ok (.aload_n 0, 1) := by decide +kernel
theorem dX5_run_183 : decode cX5_run 183 = .ok (.getfield 206, 3) := by decide +kernel
theorem dX5_run_186 : decode cX5_run 186 = .ok (.iload 4, 2) := by decide +kernel
theorem dX5_run_188 : decode cX5_run 188 = .ok (.iload 5, 2) := by decide +kernel
theorem dX5_run_190 : decode cX5_run 190 = .ok (.iload 6, 2) := by decide +kernel
theorem dX5_run_192 : decode cX5_run 192 = .ok (.iload 7, 2) := by decide +kernel
theorem dX5_run_194 : decode cX5_run 194 = .ok (.invokevirtual 220, 3) := by decide +kernel
theorem dX5_run_197 : decode cX5_run 197 = .ok (.istore 9, 2) := by decide +kernel
theorem dX5_run_199 : decode cX5_run 199 = .ok (.iload 9, 2) := by decide +kernel
theorem dX5_run_201 : decode cX5_run 201 = .ok (.iconst (-1), 1) := by decide +kernel
theorem dX5_run_202 : decode cX5_run 202 = .ok (.if_icmp .ne 5, 3) := by decide +kernel
theorem dX5_run_205 : decode cX5_run 205 = .ok (.iconst 5, 1) := by decide +kernel
theorem dX5_run_206 : decode cX5_run 206 = .ok (.ireturn, 1) := by decide +kernel
theorem dX5_run_207 : decode cX5_run 207 = .ok (.aload_n 0, 1) := by decide +kernel
theorem dX5_run_208 : decode cX5_run 208 = .ok (.dup, 1) := by decide +kernel
theorem dX5_run_209 : decode cX5_run 209 = .ok (.getfield 217, 3) := by decide +kernel
theorem dX5_run_212 : decode cX5_run 212 = .ok (.iconst 1, 1) := by decide +kernel
theorem dX5_run_213 : decode cX5_run 213 = .ok (.iadd, 1) := by decide +kernel
theorem dX5_run_214 : decode cX5_run 214 = .ok (.putfield 217, 3) := by decide +kernel
theorem dX5_run_217 : decode cX5_run 217 = .ok (.aload_n 0, 1) := by decide +kernel
theorem dX5_run_218 : decode cX5_run 218 = .ok (.iload 9, 2) := by decide +kernel
theorem dX5_run_220 : decode cX5_run 220 = .ok (.putfield 206, 3) := by decide +kernel
theorem dX5_run_223 : decode cX5_run 223 = .ok (.iinc 3 1, 3) := by decide +kernel
theorem dX5_run_226 : decode cX5_run 226 = .ok (.goto (-178), 3) := by decide +kernel
theorem dX5_run_229 : decode cX5_run 229 = .ok (.iconst 0, 1) := by decide +kernel
theorem dX5_run_230 : decode cX5_run 230 = .ok (.ireturn, 1) := by decide +kernel
theorem dX5_count_0 : decode cX5_count 0 = .ok (.aload_n 0, 1) := by decide +kernel
theorem dX5_count_1 : decode cX5_count 1 = .ok (.iload_n 1, 1) := by decide +kernel
theorem dX5_count_2 : decode cX5_count 2 = .ok (.iconst 0, 1) := by decide +kernel
theorem dX5_count_3 : decode cX5_count 3 = .ok (.bipush 24, 2) := by decide +kernel
theorem dX5_count_5 : decode cX5_count 5 = .ok (.invokestatic 90, 3) := by decide +kernel
theorem dX5_count_8 : decode cX5_count 8 = .ok (.ifCond .eq 7, 3) := by decide +kernel
theorem dX5_count_11 : decode cX5_count 11 = .ok (.iconst 0, 1) := by decide +kernel
theorem dX5_count_12 : decode cX5_count 12 = .ok (.goto 4, 3) := by decide +kernel
theorem dX5_count_15 : decode cX5_count 15 = .ok (.iconst 1, 1) := by decide +kernel
theorem dX5_count_16 : decode cX5_count 16 = .ok (.putfield 87, 3) := by decide +kernel
theorem dX5_count_19 : decode cX5_count 19 = .ok (.aload_n 0, 1) := by decide +kernel
theorem dX5_count_20 : decode cX5_count 20 = .ok (.getfield 87, 3) := by decide +kernel
theorem dX5_count_23 : decode cX5_count 23 = .ok (.ifCond .le 5, 3) := by decide +kernel
theorem dX5_count_26 : decode cX5_count 26 = .ok (.iconst 0, 1) := by decide +kernel
theorem dX5_count_27 : decode cX5_count 27 = .ok (.ireturn, 1) := by decide +kernel
theorem dX5_count_28 : decode cX5_count 28 = .ok (.iload_n 1, 1) := by decide +kernel
theorem dX5_count_29 : decode cX5_count 29 = .ok (.iconst 3, 1) := by decide +kernel
theorem dX5_count_30 : decode cX5_count 30 = .ok (.if_icmp .ge 10, 3) := by decide +kernel
theorem dX5_count_33 : decode cX5_count 33 = .ok (.aload_n 0, 1) := by decide +kernel
theorem dX5_count_34 : decode cX5_count 34 = .ok (.getfield 22, 3) := by decide +kernel
theorem dX5_count_37 : decode cX5_count 37 = .ok (.iload_n 1, 1) := by decide +kernel
theorem dX5_count_38 : decode cX5_count 38 = .ok (.iaload, 1) := by decide +kernel
theorem dX5_count_39 : decode cX5_count 39 = .ok (.ireturn, 1) := by decide +kernel
theorem dX5_count_40 : decode cX5_count 40 = .ok (.iload_n 1, 1) := by decide +kernel
theorem dX5_count_41 : decode cX5_count 41 = .ok (.bipush 9, 2) := by decide +kernel
theorem dX5_count_43 : decode cX5_count 43 = .ok (.if_icmp .ge 11, 3) := by decide +kernel
theorem dX5_count_46 : decode cX5_count 46 = .ok (.aload_n 0, 1) := by decide +kernel
theorem dX5_count_47 : decode cX5_count 47 = .ok (.iload_n 1, 1) := by decide +kernel
theorem dX5_count_48 : decode cX5_count 48 = .ok (.iconst 3, 1) := by decide +kernel
theorem dX5_count_49 : decode cX5_count 49 = .ok (.isub, 1) := by decide +kernel
theorem dX5_count_50 : decode cX5_count 50 = .ok (.invokevirtual 191, 3) := by decide +kernel
theorem dX5_count_53 : decode cX5_count 53 = .ok (.ireturn, 1) := by decide +kernel
theorem dX5_count_54 : decode cX5_count 54 = .ok (.iload_n 1, 1) := by decide +kernel
theorem dX5_count_55 : decode cX5_count 55 = .ok (.bipush 12, 2) := by decide +kernel
theorem dX5_count_57 : decode cX5_count 57 = .ok (.if_icmp .ge 13, 3) := by decide +kernel
theorem dX5_count_60 : decode cX5_count 60 = .ok (.aload_n 0, 1) := by decide +kernel
theorem dX5_count_61 : decode cX5_count 61 = .ok (.getfield 55, 3) := by decide +kernel
theorem dX5_count_64 : decode cX5_count 64 = .ok (.iload_n 1, 1) := by decide +kernel
theorem dX5_count_65 : decode cX5_count 65 = .ok (.bipush 9, 2) := by decide +kernel
theorem dX5_count_67 : decode cX5_count 67 = .ok (.isub, 1) := by decide +kernel
theorem dX5_count_68 : decode cX5_count 68 = .ok (.iaload, 1) := by decide +kernel
theorem dX5_count_69 : decode cX5_count 69 = .ok (.ireturn, 1) := by decide +kernel
theorem dX5_count_70 : decode cX5_count 70 = .ok (.iload_n 1, 1) := by decide +kernel
theorem dX5_count_71 : decode cX5_count 71 = .ok (.bipush 12, 2) := by decide +kernel
theorem dX5_count_73 : decode cX5_count 73 = .ok (.if_icmp .ne 10, 3) := by decide +kernel
theorem dX5_count_76 : decode cX5_count 76 = .ok (.aload_n 0, 1) := by decide +kernel
theorem dX5_count_77 : decode cX5_count 77 = .ok (.getfield 112, 3) := by decide +kernel
theorem dX5_count_80 : decode cX5_count 80 = .ok (.goto 64, 3) := by decide +kernel
theorem dX5_count_83 : decode cX5_count 83 = .ok (.iload_n 1, 1) := by decide +kernel
theorem dX5_count_84 : decode cX5_count 84 = .ok (.bipush 13, 2) := by decide +kernel
theorem dX5_count_86 : decode cX5_count 86 = .ok (.if_icmp .ne 10, 3) := by decide +kernel
theorem dX5_count_89 : decode cX5_count 89 = .ok (.aload_n 0, 1) := by decide +kernel
theorem dX5_count_90 : decode cX5_count 90 = .ok (.getfield 169, 3) := by decide +kernel
theorem dX5_count_93 : decode cX5_count 93 = .ok (.goto 51, 3) := by decide +kernel
theorem dX5_count_96 : decode cX5_count 96 = .ok (.iload_n 1, 1) := by decide +kernel
theorem dX5_count_97 : decode cX5_count 97 = .ok (.bipush 14, 2) := by decide +kernel
theorem dX5_count_99 : decode cX5_count 99 = .ok (.if_icmp .ne 10, 3) := by decide +kernel
theorem dX5_count_102 : decode cX5_count 102 = .ok (.aload_n 0, 1) := by decide +kernel
theorem dX5_count_103 : decode cX5_count 103 = .ok (.getfield 135, 3) := by decide +kernel
theorem dX5_count_106 : decode cX5_count 106 = .ok (.goto 38, 3) := by decide +kernel
theorem dX5_count_109 : decode cX5_count 109 = .ok (.iload_n 1, 1) := by decide +kernel
theorem dX5_count_110 : decode cX5_count 110 = .ok (.bipush 15, 2) := by decide +kernel
theorem dX5_count_112 : decode cX5_count 112 = .ok (.if_icmp .ne 10, 3) := by decide +kernel
theorem dX5_count_115 : decode cX5_count 115 = .ok (.aload_n 0, 1) := by decide +kernel
theorem dX5_count_116 : decode cX5_count 116 = .ok (.getfield 217, 3) := by decide +kernel
theorem dX5_count_119 : decode cX5_count 119 = .ok (.goto 25, 3) := by decide +kernel
theorem dX5_count_122 : decode cX5_count 122 = .ok (.iload_n 1, 1) := by decide +kernel
theorem dX5_count_123 : decode cX5_count 123 = .ok (.bipush 16, 2) := by decide +kernel
theorem dX5_count_125 : decode cX5_count 125 = .ok (.if_icmp .ne 10, 3) := by decide +kernel
theorem dX5_count_128 : decode cX5_count 128 = .ok (.aload_n 0, 1) := by decide +kernel
theorem dX5_count_129 : decode cX5_count 129 = .ok (.getfield 206, 3) := by decide +kernel
theorem dX5_count_132 : decode cX5_count 132 = .ok (.goto 12, 3) := by decide +kernel
theorem dX5_count_135 : decode cX5_count 135 = .ok (.aload_n 0, 1) := by decide +kernel
theorem dX5_count_136 : decode cX5_count 136 = .ok (.getfield 58, 3) := by decide +kernel
theorem dX5_count_139 : decode cX5_count 139 = .ok (.iload_n 1, 1) := by decide +kernel
theorem dX5_count_140 : decode cX5_count 140 = .ok (.bipush 17, 2) := by decide +kernel
theorem dX5_count_142 : decode cX5_count 142 = .ok (.isub, 1) := by decide +kernel
theorem dX5_count_143 : decode cX5_count 143 = .ok (.iaload, 1) := by decide +kernel
theorem dX5_count_144 : decode cX5_count 144 = .ok (.ireturn, 1) := by decide +kernel
end
section
theorem dJ9_max_7cf53_0 : decode cJ9_max_7cf53 0 = .ok (.iload_n 0, 1) := by decide +kernel
theorem dJ9_max_7cf53_1 : decode cJ9_max_7cf53 1 = .ok (.iload_n 1, 1) := by decide +kernel
theorem dJ9_max_7cf53_2 : decode cJ9_max_7cf53 2 = .ok (.if_icmp .lt 7, 3) := by decide +kernel
theorem dJ9_max_7cf53_5 : decode cJ9_max_7cf53 5 = .ok (.iload_n 0, 1) := by decide +kernel
theorem dJ9_max_7cf53_6 : decode cJ9_max_7cf53 6 = .ok (.goto 4, 3) := by decide +kernel
theorem dJ9_max_7cf53_9 : decode cJ9_max_7cf53 9 = .ok (.iload_n 1, 1) := by decide +kernel
theorem dJ9_max_7cf53_10 : decode cJ9_max_7cf53 10 = .ok (.ireturn, 1) := by decide +kernel
theorem dJ9_min_7cf53_0 : decode cJ9_min_7cf53 0 = .ok (.iload_n 0, 1) := by decide +kernel
theorem dJ9_min_7cf53_1 : decode cJ9_min_7cf53 1 = .ok (.iload_n 1, 1) := by decide +kernel
theorem dJ9_min_7cf53_2 : decode cJ9_min_7cf53 2 = .ok (.if_icmp .gt 7, 3) := by decide +kernel
theorem dJ9_min_7cf53_5 : decode cJ9_min_7cf53 5 = .ok (.iload_n 0, 1) := by decide +kernel
theorem dJ9_min_7cf53_6 : decode cJ9_min_7cf53 6 = .ok (.goto 4, 3) := by decide +kernel
theorem dJ9_min_7cf53_9 : decode cJ9_min_7cf53 9 = .ok (.iload_n 1, 1) := by decide +kernel
theorem dJ9_min_7cf53_10 : decode cJ9_min_7cf53 10 = .ok (.ireturn, 1) := by decide +kernel
theorem dJ0_charAt_5068e_0 : decode cJ0_charAt_5068e 0 = .ok (.aload_n 0, 1) := by decide +kernel
theorem dJ0_charAt_5068e_1 : decode cJ0_charAt_5068e 1 = .ok (.invokevirtual 492, 3) := by decide +kernel
theorem dJ0_charAt_5068e_4 : decode cJ0_charAt_5068e 4 = .ok (.ifCond .eq 12, 3) := by decide +kernel
theorem dJ0_charAt_5068e_7 : decode cJ0_charAt_5068e 7 = .ok (.aload_n 0, 1) := by decide +kernel
theorem dJ0_charAt_5068e_8 : decode cJ0_charAt_5068e 8 = .ok (.getfield 9, 3) := by decide +kernel
theorem dJ0_charAt_5068e_11 : decode cJ0_charAt_5068e 11 = .ok (.iload_n 1, 1) := by decide +kernel
theorem dJ0_charAt_5068e_12 : decode cJ0_charAt_5068e 12 = .ok (.invokestatic 495, 3) := by decide +kernel
theorem dJ0_charAt_5068e_15 : decode cJ0_charAt_5068e 15 = .ok (.ireturn, 1) := by decide +kernel
theorem dJ0_charAt_5068e_16 : decode cJ0_charAt_5068e 16 = .ok (.aload_n 0, 1) := by decide +kernel
theorem dJ0_charAt_5068e_17 : decode cJ0_charAt_5068e 17 = .ok (.getfield 9, 3) := by decide +kernel
theorem dJ0_charAt_5068e_20 : decode cJ0_charAt_5068e 20 = .ok (.iload_n 1, 1) := by decide +kernel
theorem dJ0_charAt_5068e_21 : decode cJ0_charAt_5068e 21 = .ok (.invokestatic 498, 3) := by decide +kernel
theorem dJ0_charAt_5068e_24 : decode cJ0_charAt_5068e 24 = .ok (.ireturn, 1) := by decide +kernel
theorem dJ0_isLatin1_aae02_0 : decode cJ0_isLatin1_aae02 0 = .ok (.getstatic 38, 3) := by decide +kernel
theorem dJ0_isLatin1_aae02_3 : decode cJ0_isLatin1_aae02 3 = .ok (.ifCond .eq 14, 3) := by decide +kernel
theorem dJ0_isLatin1_aae02_6 : decode cJ0_isLatin1_aae02 6 = .ok (.aload_n 0, 1) := by decide +kernel
theorem dJ0_isLatin1_aae02_7 : decode cJ0_isLatin1_aae02 7 = .ok (.getfield 15, 3) := by decide +kernel
theorem dJ0_isLatin1_aae02_10 : decode cJ0_isLatin1_aae02 10 = .ok (.ifCond .ne 7, 3) := by decide +kernel
theorem dJ0_isLatin1_aae02_13 : decode cJ0_isLatin1_aae02 13 = .ok (.iconst 1, 1) := by decide +kernel
theorem dJ0_isLatin1_aae02_14 : decode cJ0_isLatin1_aae02 14 = .ok (.goto 4, 3) := by decide +kernel
theorem dJ0_isLatin1_aae02_17 : decode cJ0_isLatin1_aae02 17 = .ok (.iconst 0, 1) := by decide +kernel
theorem dJ0_isLatin1_aae02_18 : decode cJ0_isLatin1_aae02 18 = .ok (.ireturn, 1) := by decide +kernel
theorem dJ0_checkIndex_df160_0 : decode cJ0_checkIndex_df160 0 = .ok (.iload_n 0, 1) := by decide +kernel
theorem dJ0_checkIndex_df160_1 : decode cJ0_checkIndex_df160 1 = .ok (.iload_n 1, 1) := by decide +kernel
theorem dJ0_checkIndex_df160_2 : decode cJ0_checkIndex_df160 2 = .ok (.getstatic 1053, 3) := by decide +kernel
theorem dJ0_checkIndex_df160_5 : decode cJ0_checkIndex_df160 5 = .ok (.invokestatic 1059, 3) := by decide +kernel
theorem dJ0_checkIndex_df160_8 : decode cJ0_checkIndex_df160 8 = .ok (.pop, 1) := by decide +kernel
theorem dJ0_checkIndex_df160_9 : decode cJ0_checkIndex_df160 9 = .ok (.return_, 1) := by decide +kernel
theorem dJ1_charAt_3b067_0 : decode cJ1_charAt_3b067 0 = .ok (.iload_n 1, 1) := by decide +kernel
theorem dJ1_charAt_3b067_1 : decode cJ1_charAt_3b067 1 = .ok (.aload_n 0, 1) := by decide +kernel
theorem dJ1_charAt_3b067_2 : decode cJ1_charAt_3b067 2 = .ok (.arraylength, 1) := by decide +kernel
theorem dJ1_charAt_3b067_3 : decode cJ1_charAt_3b067 3 = .ok (.invokestatic 9, 3) := by decide +kernel
theorem dJ1_charAt_3b067_6 : decode cJ1_charAt_3b067 6 = .ok (.aload_n 0, 1) := by decide +kernel
theorem dJ1_charAt_3b067_7 : decode cJ1_charAt_3b067 7 = .ok (.iload_n 1, 1) := by decide +kernel
theorem dJ1_charAt_3b067_8 : decode cJ1_charAt_3b067 8 = .ok (.baload, 1) := by decide +kernel
theorem dJ1_charAt_3b067_9 : decode cJ1_charAt_3b067 9 = .ok (.sipush 255, 3) := by decide +kernel
theorem dJ1_charAt_3b067_12 : decode cJ1_charAt_3b067 12 = .ok (.iand, 1) := by decide +kernel
theorem dJ1_charAt_3b067_13 : decode cJ1_charAt_3b067 13 = .ok (.i2c, 1) := by decide +kernel
theorem dJ1_charAt_3b067_14 : decode cJ1_charAt_3b067 14 = .ok (.ireturn, 1) := by decide +kernel
theorem dJ2_getChar_3b067_0 : decode cJ2_getChar_3b067 0 = .ok (.getstatic 44, 3) := by decide +kernel
theorem dJ2_getChar_3b067_3 : decode cJ2_getChar_3b067 3 = .ok (.ifCond .ne 25, 3) := by decide +kernel
theorem dJ2_getChar_3b067_6 : decode cJ2_getChar_3b067 6 = .ok (.iload_n 1, 1) := by decide +kernel
theorem dJ2_getChar_3b067_7 : decode cJ2_getChar_3b067 7 = .ok (.ifCond .lt 11, 3) := by decide +kernel
theorem dJ2_getChar_3b067_10 : decode cJ2_getChar_3b067 10 = .ok (.iload_n 1, 1) := by decide +kernel
theorem dJ2_getChar_3b067_11 : decode cJ2_getChar_3b067 11 = .ok (.aload_n 0, 1) := by decide +kernel
theorem dJ2_getChar_3b067_12 : decode cJ2_getChar_3b067 12 = .ok (.invokestatic 48, 3) := by decide +kernel
theorem dJ2_getChar_3b067_15 : decode cJ2_getChar_3b067 15 = .ok (.if_icmp .lt 13, 3) := by decide +kernel
theorem dJ2_getChar_3b067_18 : decode cJ2_getChar_3b067 18 = .ok (.new 52, 3) := by decide +kernel
theorem dJ2_getChar_3b067_21 : decode cJ2_getChar_3b067 21 = .ok (.dup, 1) := by decide +kernel
theorem dJ2_getChar_3b067_22 : decode cJ2_getChar_3b067 22 = .ok (.ldc 54, 2) := by decide +kernel
theorem dJ2_getChar_3b067_24 : decode cJ2_getChar_3b067 24 = .ok (.invokespecial 56, 3) := by decide +kernel
theorem dJ2_getChar_3b067_27 : decode cJ2_getChar_3b067 27 = .ok (.athrow, 1) := by decide +kernel
theorem dJ2_getChar_3b067_28 : decode cJ2_getChar_3b067 28 = .ok (.iload_n 1, 1) := by decide +kernel
theorem dJ2_getChar_3b067_29 : decode cJ2_getChar_3b067 29 = .ok (.iconst 1, 1) := by decide +kernel
theorem dJ2_getChar_3b067_30 : decode cJ2_getChar_3b067 30 = .ok (.ishl, 1) := by decide +kernel
theorem dJ2_getChar_3b067_31 : decode cJ2_getChar_3b067 31 = .ok (.istore_n 1, 1) := by decide +kernel
theorem dJ2_getChar_3b067_32 : decode cJ2_getChar_3b067 32 = .ok (.aload_n 0, 1) := by decide +kernel
theorem dJ2_getChar_3b067_33 : decode cJ2_getChar_3b067 33 = .ok (.iload_n 1, 1) := by decide +kernel
theorem dJ2_getChar_3b067_34 : decode cJ2_getChar_3b067 34 = .ok (.iinc 1 1, 3) := by decide +kernel
theorem dJ2_getChar_3b067_37 : decode cJ2_getChar_3b067 37 = .ok (.baload, 1) := by decide +kernel
theorem dJ2_getChar_3b067_38 : decode cJ2_getChar_3b067 38 = .ok (.sipush 255, 3) := by decide +kernel
theorem dJ2_getChar_3b067_41 : decode cJ2_getChar_3b067 41 = .ok (.iand, 1) := by decide +kernel
theorem dJ2_getChar_3b067_42 : decode cJ2_getChar_3b067 42 = .ok (.getstatic 59, 3) := by decide +kernel
theorem dJ2_getChar_3b067_45 : decode cJ2_getChar_3b067 45 = .ok (.ishl, 1) := by decide +kernel
theorem dJ2_getChar_3b067_46 : decode cJ2_getChar_3b067 46 = .ok (.aload_n 0, 1) := by decide +kernel
theorem dJ2_getChar_3b067_47 : decode cJ2_getChar_3b067 47 = .ok (.iload_n 1, 1) := by decide +kernel
theorem dJ2_getChar_3b067_48 : decode cJ2_getChar_3b067 48 = .ok (.baload, 1) := by decide +kernel
theorem dJ2_getChar_3b067_49 : decode cJ2_getChar_3b067 49 = .ok (.sipush 255, 3) := by decide +kernel
theorem dJ2_getChar_3b067_52 : decode cJ2_getChar_3b067 52 = .ok (.iand, 1) := by decide +kernel
theorem dJ2_getChar_3b067_53 : decode cJ2_getChar_3b067 53 = .ok (.getstatic 63, 3) := by decide +kernel
theorem dJ2_getChar_3b067_56 : decode cJ2_getChar_3b067 56 = .ok (.ishl, 1) := by decide +kernel
theorem dJ2_getChar_3b067_57 : decode cJ2_getChar_3b067 57 = .ok (.ior, 1) := by decide +kernel
theorem dJ2_getChar_3b067_58 : decode cJ2_getChar_3b067 58 = .ok (.i2c, 1) := by decide +kernel
theorem dJ2_getChar_3b067_59 : decode cJ2_getChar_3b067 59 = .ok (.ireturn, 1) := by decide +kernel
theorem dJ2_length_9d52b_0 : decode cJ2_length_9d52b 0 = .ok (.aload_n 0, 1) := by decide +kernel
theorem dJ2_length_9d52b_1 : decode cJ2_length_9d52b 1 = .ok (.arraylength, 1) := by decide +kernel
theorem dJ2_length_9d52b_2 : decode cJ2_length_9d52b 2 = .ok (.iconst 1, 1) := by decide +kernel
theorem dJ2_length_9d52b_3 : decode cJ2_length_9d52b 3 = .ok (.ishr, 1) := by decide +kernel
theorem dJ2_length_9d52b_4 : decode cJ2_length_9d52b 4 = .ok (.ireturn, 1) := by decide +kernel
theorem dJ2_charAt_3b067_0 : decode cJ2_charAt_3b067 0 = .ok (.iload_n 1, 1) := by decide +kernel
theorem dJ2_charAt_3b067_1 : decode cJ2_charAt_3b067 1 = .ok (.aload_n 0, 1) := by decide +kernel
theorem dJ2_charAt_3b067_2 : decode cJ2_charAt_3b067 2 = .ok (.invokestatic 67, 3) := by decide +kernel
theorem dJ2_charAt_3b067_5 : decode cJ2_charAt_3b067 5 = .ok (.aload_n 0, 1) := by decide +kernel
theorem dJ2_charAt_3b067_6 : decode cJ2_charAt_3b067 6 = .ok (.iload_n 1, 1) := by decide +kernel
theorem dJ2_charAt_3b067_7 : decode cJ2_charAt_3b067 7 = .ok (.invokestatic 71, 3) := by decide +kernel
theorem dJ2_charAt_3b067_10 : decode cJ2_charAt_3b067 10 = .ok (.ireturn, 1) := by decide +kernel
theorem dJ2_checkIndex_2214a_0 : decode cJ2_checkIndex_2214a 0 = .ok (.iload_n 0, 1) := by decide +kernel
theorem dJ2_checkIndex_2214a_1 : decode cJ2_checkIndex_2214a 1 = .ok (.aload_n 1, 1) := by decide +kernel
theorem dJ2_checkIndex_2214a_2 : decode cJ2_checkIndex_2214a 2 = .ok (.invokestatic 48, 3) := by decide +kernel
theorem dJ2_checkIndex_2214a_5 : decode cJ2_checkIndex_2214a 5 = .ok (.invokestatic 414, 3) := by decide +kernel
theorem dJ2_checkIndex_2214a_8 : decode cJ2_checkIndex_2214a 8 = .ok (.return_, 1) := by decide +kernel
theorem dJ3_checkIndex_8e157_0 : decode cJ3_checkIndex_8e157 0 = .ok (.iload_n 0, 1) := by decide +kernel
theorem dJ3_checkIndex_8e157_1 : decode cJ3_checkIndex_8e157 1 = .ok (.ifCond .lt 8, 3) := by decide +kernel
theorem dJ3_checkIndex_8e157_4 : decode cJ3_checkIndex_8e157 4 = .ok (.iload_n 0, 1) := by decide +kernel
theorem dJ3_checkIndex_8e157_5 : decode cJ3_checkIndex_8e157 5 = .ok (.iload_n 1, 1) := by decide +kernel
theorem dJ3_checkIndex_8e157_6 : decode cJ3_checkIndex_8e157 6 = .ok (.if_icmp .lt 10, 3) := by decide +kernel
theorem dJ3_checkIndex_8e157_9 : decode cJ3_checkIndex_8e157 9 = .ok (.aload_n 2, 1) := by decide +kernel
theorem dJ3_checkIndex_8e157_10 : decode cJ3_checkIndex_8e157 10 = .ok (.iload_n 0, 1) := by decide +kernel
theorem dJ3_checkIndex_8e157_11 : decode cJ3_checkIndex_8e157 11 = .ok (.iload_n 1, 1) := by decide +kernel
theorem dJ3_checkIndex_8e157_12 : decode cJ3_checkIndex_8e157 12 = .ok (.invokestatic 95, 3) := by decide +kernel
theorem dJ3_checkIndex_8e157_15 : decode cJ3_checkIndex_8e157 15 = .ok (.athrow, 1) := by decide +kernel
theorem dJ3_checkIndex_8e157_16 : decode cJ3_checkIndex_8e157 16 = .ok (.iload_n 0, 1) := by decide +kernel
theorem dJ3_checkIndex_8e157_17 : decode cJ3_checkIndex_8e157 17 = .ok (.ireturn, 1) := by decide +kernel
theorem dL_cell_0 : decode cL_cell 0 = .ok (.iload_n 1, 1) := by decide +kernel
theorem dL_cell_1 : decode cL_cell 1 = .ok (.aload_n 0, 1) := by decide +kernel
theorem dL_cell_2 : decode cL_cell 2 = .ok (.arraylength, 1) := by decide +kernel
theorem dL_cell_3 : decode cL_cell 3 = .ok (.if_icmp .ge 9, 3) := by decide +kernel
theorem dL_cell_6 : decode cL_cell 6 = .ok (.aload_n 0, 1) := by decide +kernel
theorem dL_cell_7 : decode cL_cell 7 = .ok (.iload_n 1, 1) := by decide +kernel
theorem dL_cell_8 : decode cL_cell 8 = .ok (.iaload, 1) := by decide +kernel
theorem dL_cell_9 : decode cL_cell 9 = .ok (.goto 4, 3) := by decide +kernel
theorem dL_cell_12 : decode cL_cell 12 = .ok (.iconst 0, 1) := by decide +kernel
theorem dL_cell_13 : decode cL_cell 13 = .ok (.ireturn, 1) := by decide +kernel
theorem dL_make_0 : decode cL_make 0 = .ok (.aload 5, 2) := by decide +kernel
theorem dL_make_2 : decode cL_make 2 = .ok (.iconst 0, 1) := by decide +kernel
theorem dL_make_3 : decode cL_make 3 = .ok (.aload_n 0, 1) := by decide +kernel
theorem dL_make_4 : decode cL_make 4 = .ok (.iload_n 1, 1) := by decide +kernel
theorem dL_make_5 : decode cL_make 5 = .ok (.iload_n 2, 1) := by decide +kernel
theorem dL_make_6 : decode cL_make 6 = .ok (.iload_n 3, 1) := by decide +kernel
theorem dL_make_7 : decode cL_make 7 = .ok (.iload 4, 2) := by decide +kernel
theorem dL_make_9 : decode cL_make 9 = .ok (.invokevirtual 7, 3) := by decide +kernel
theorem dL_make_12 : decode cL_make 12 = .ok (.i2l, 1) := by decide +kernel
theorem dL_make_13 : decode cL_make 13 = .ok (.lastore, 1) := by decide +kernel
theorem dL_make_14 : decode cL_make 14 = .ok (.goto 11, 3) := by decide +kernel
theorem dL_make_17 : decode cL_make 17 = .ok (.astore 6, 2) := by decide +kernel
theorem dL_make_19 : decode cL_make 19 = .ok (.iconst 1, 1) := by decide +kernel
theorem dL_make_20 : decode cL_make 20 = .ok (.ireturn, 1) := by decide +kernel
theorem dL_make_21 : decode cL_make 21 = .ok (.astore 6, 2) := by decide +kernel
theorem dL_make_23 : decode cL_make 23 = .ok (.iconst 2, 1) := by decide +kernel
theorem dL_make_24 : decode cL_make 24 = .ok (.ireturn, 1) := by decide +kernel
theorem dL_make_25 : decode cL_make 25 = .ok (.iconst 0, 1) := by decide +kernel
theorem dL_make_26 : decode cL_make 26 = .ok (.ireturn, 1) := by decide +kernel
theorem dL_push_0 : decode cL_push 0 = .ok (.aload 4, 2) := by decide +kernel
theorem dL_push_2 : decode cL_push 2 = .ok (.iconst 0, 1) := by decide +kernel
theorem dL_push_3 : decode cL_push 3 = .ok (.aload_n 0, 1) := by decide +kernel
theorem dL_push_4 : decode cL_push 4 = .ok (.iload_n 1, 1) := by decide +kernel
theorem dL_push_5 : decode cL_push 5 = .ok (.iload_n 2, 1) := by decide +kernel
theorem dL_push_6 : decode cL_push 6 = .ok (.iload_n 3, 1) := by decide +kernel
theorem dL_push_7 : decode cL_push 7 = .ok (.invokevirtual 17, 3) := by decide +kernel
theorem dL_push_10 : decode cL_push 10 = .ok (.i2l, 1) := by decide +kernel
theorem dL_push_11 : decode cL_push 11 = .ok (.lastore, 1) := by decide +kernel
theorem dL_push_12 : decode cL_push 12 = .ok (.goto 11, 3) := by decide +kernel
theorem dL_push_15 : decode cL_push 15 = .ok (.astore 5, 2) := by decide +kernel
theorem dL_push_17 : decode cL_push 17 = .ok (.iconst 1, 1) := by decide +kernel
theorem dL_push_18 : decode cL_push 18 = .ok (.ireturn, 1) := by decide +kernel
theorem dL_push_19 : decode cL_push 19 = .ok (.astore 5, 2) := by decide +kernel
theorem dL_push_21 : decode cL_push 21 = .ok (.iconst 2, 1) := by decide +kernel
theorem dL_push_22 : decode cL_push 22 = .ok (.ireturn, 1) := by decide +kernel
theorem dL_push_23 : decode cL_push 23 = .ok (.iconst 0, 1) := by decide +kernel
theorem dL_push_24 : decode cL_push 24 = .ok (.ireturn, 1) := by decide +kernel
theorem dL_put_0 : decode cL_put 0 = .ok (.aload 4, 2) := by decide +kernel
theorem dL_put_2 : decode cL_put 2 = .ok (.iconst 0, 1) := by decide +kernel
theorem dL_put_3 : decode cL_put 3 = .ok (.aload_n 0, 1) := by decide +kernel
theorem dL_put_4 : decode cL_put 4 = .ok (.iload_n 1, 1) := by decide +kernel
theorem dL_put_5 : decode cL_put 5 = .ok (.iload_n 2, 1) := by decide +kernel
theorem dL_put_6 : decode cL_put 6 = .ok (.iload_n 3, 1) := by decide +kernel
theorem dL_put_7 : decode cL_put 7 = .ok (.invokevirtual 21, 3) := by decide +kernel
theorem dL_put_10 : decode cL_put 10 = .ok (.i2l, 1) := by decide +kernel
theorem dL_put_11 : decode cL_put 11 = .ok (.lastore, 1) := by decide +kernel
theorem dL_put_12 : decode cL_put 12 = .ok (.goto 11, 3) := by decide +kernel
theorem dL_put_15 : decode cL_put 15 = .ok (.astore 5, 2) := by decide +kernel
theorem dL_put_17 : decode cL_put 17 = .ok (.iconst 1, 1) := by decide +kernel
theorem dL_put_18 : decode cL_put 18 = .ok (.ireturn, 1) := by decide +kernel
theorem dL_put_19 : decode cL_put 19 = .ok (.astore 5, 2) := by decide +kernel
theorem dL_put_21 : decode cL_put 21 = .ok (.iconst 2, 1) := by decide +kernel
theorem dL_put_22 : decode cL_put 22 = .ok (.ireturn, 1) := by decide +kernel
theorem dL_put_23 : decode cL_put 23 = .ok (.iconst 0, 1) := by decide +kernel
theorem dL_put_24 : decode cL_put 24 = .ok (.ireturn, 1) := by decide +kernel
theorem dL_get_0 : decode cL_get 0 = .ok (.aload 4, 2) := by decide +kernel
theorem dL_get_2 : decode cL_get 2 = .ok (.iconst 0, 1) := by decide +kernel
theorem dL_get_3 : decode cL_get 3 = .ok (.aload_n 0, 1) := by decide +kernel
theorem dL_get_4 : decode cL_get 4 = .ok (.iload_n 1, 1) := by decide +kernel
theorem dL_get_5 : decode cL_get 5 = .ok (.iload_n 2, 1) := by decide +kernel
theorem dL_get_6 : decode cL_get 6 = .ok (.iload_n 3, 1) := by decide +kernel
theorem dL_get_7 : decode cL_get 7 = .ok (.invokevirtual 26, 3) := by decide +kernel
theorem dL_get_10 : decode cL_get 10 = .ok (.i2l, 1) := by decide +kernel
theorem dL_get_11 : decode cL_get 11 = .ok (.lastore, 1) := by decide +kernel
theorem dL_get_12 : decode cL_get 12 = .ok (.goto 11, 3) := by decide +kernel
theorem dL_get_15 : decode cL_get 15 = .ok (.astore 5, 2) := by decide +kernel
theorem dL_get_17 : decode cL_get 17 = .ok (.iconst 1, 1) := by decide +kernel
theorem dL_get_18 : decode cL_get 18 = .ok (.ireturn, 1) := by decide +kernel
theorem dL_get_19 : decode cL_get 19 = .ok (.astore 5, 2) := by decide +kernel
theorem dL_get_21 : decode cL_get 21 = .ok (.iconst 2, 1) := by decide +kernel
theorem dL_get_22 : decode cL_get 22 = .ok (.ireturn, 1) := by decide +kernel
theorem dL_get_23 : decode cL_get 23 = .ok (.iconst 0, 1) := by decide +kernel
theorem dL_get_24 : decode cL_get 24 = .ok (.ireturn, 1) := by decide +kernel
theorem dL_move_0 : decode cL_move 0 = .ok (.aload_n 3, 1) := by decide +kernel
theorem dL_move_1 : decode cL_move 1 = .ok (.iconst 0, 1) := by decide +kernel
theorem dL_move_2 : decode cL_move 2 = .ok (.aload_n 0, 1) := by decide +kernel
theorem dL_move_3 : decode cL_move 3 = .ok (.iload_n 1, 1) := by decide +kernel
theorem dL_move_4 : decode cL_move 4 = .ok (.iload_n 2, 1) := by decide +kernel
theorem dL_move_5 : decode cL_move 5 = .ok (.invokevirtual 29, 3) := by decide +kernel
theorem dL_move_8 : decode cL_move 8 = .ok (.i2l, 1) := by decide +kernel
theorem dL_move_9 : decode cL_move 9 = .ok (.lastore, 1) := by decide +kernel
theorem dL_move_10 : decode cL_move 10 = .ok (.goto 7, 3) := by decide +kernel
theorem dL_move_13 : decode cL_move 13 = .ok (.astore 4, 2) := by decide +kernel
theorem dL_move_15 : decode cL_move 15 = .ok (.iconst 1, 1) := by decide +kernel
theorem dL_move_16 : decode cL_move 16 = .ok (.ireturn, 1) := by decide +kernel
theorem dL_move_17 : decode cL_move 17 = .ok (.iconst 0, 1) := by decide +kernel
theorem dL_move_18 : decode cL_move 18 = .ok (.ireturn, 1) := by decide +kernel
theorem dL_keep_0 : decode cL_keep 0 = .ok (.aload_n 2, 1) := by decide +kernel
theorem dL_keep_1 : decode cL_keep 1 = .ok (.iconst 0, 1) := by decide +kernel
theorem dL_keep_2 : decode cL_keep 2 = .ok (.aload_n 0, 1) := by decide +kernel
theorem dL_keep_3 : decode cL_keep 3 = .ok (.iload_n 1, 1) := by decide +kernel
theorem dL_keep_4 : decode cL_keep 4 = .ok (.invokevirtual 33, 3) := by decide +kernel
theorem dL_keep_7 : decode cL_keep 7 = .ok (.i2l, 1) := by decide +kernel
theorem dL_keep_8 : decode cL_keep 8 = .ok (.lastore, 1) := by decide +kernel
theorem dL_keep_9 : decode cL_keep 9 = .ok (.goto 9, 3) := by decide +kernel
theorem dL_keep_12 : decode cL_keep 12 = .ok (.astore_n 3, 1) := by decide +kernel
theorem dL_keep_13 : decode cL_keep 13 = .ok (.iconst 1, 1) := by decide +kernel
theorem dL_keep_14 : decode cL_keep 14 = .ok (.ireturn, 1) := by decide +kernel
theorem dL_keep_15 : decode cL_keep 15 = .ok (.astore_n 3, 1) := by decide +kernel
theorem dL_keep_16 : decode cL_keep 16 = .ok (.iconst 2, 1) := by decide +kernel
theorem dL_keep_17 : decode cL_keep 17 = .ok (.ireturn, 1) := by decide +kernel
theorem dL_keep_18 : decode cL_keep 18 = .ok (.iconst 0, 1) := by decide +kernel
theorem dL_keep_19 : decode cL_keep 19 = .ok (.ireturn, 1) := by decide +kernel
theorem dL_back_0 : decode cL_back 0 = .ok (.aload_n 2, 1) := by decide +kernel
theorem dL_back_1 : decode cL_back 1 = .ok (.iconst 0, 1) := by decide +kernel
theorem dL_back_2 : decode cL_back 2 = .ok (.aload_n 0, 1) := by decide +kernel
theorem dL_back_3 : decode cL_back 3 = .ok (.iload_n 1, 1) := by decide +kernel
theorem dL_back_4 : decode cL_back 4 = .ok (.invokevirtual 37, 3) := by decide +kernel
theorem dL_back_7 : decode cL_back 7 = .ok (.i2l, 1) := by decide +kernel
theorem dL_back_8 : decode cL_back 8 = .ok (.lastore, 1) := by decide +kernel
theorem dL_back_9 : decode cL_back 9 = .ok (.goto 9, 3) := by decide +kernel
theorem dL_back_12 : decode cL_back 12 = .ok (.astore_n 3, 1) := by decide +kernel
theorem dL_back_13 : decode cL_back 13 = .ok (.iconst 1, 1) := by decide +kernel
theorem dL_back_14 : decode cL_back 14 = .ok (.ireturn, 1) := by decide +kernel
theorem dL_back_15 : decode cL_back 15 = .ok (.astore_n 3, 1) := by decide +kernel
theorem dL_back_16 : decode cL_back 16 = .ok (.iconst 2, 1) := by decide +kernel
theorem dL_back_17 : decode cL_back 17 = .ok (.ireturn, 1) := by decide +kernel
theorem dL_back_18 : decode cL_back 18 = .ok (.iconst 0, 1) := by decide +kernel
theorem dL_back_19 : decode cL_back 19 = .ok (.ireturn, 1) := by decide +kernel
theorem dL_weak_0 : decode cL_weak 0 = .ok (.aload_n 3, 1) := by decide +kernel
theorem dL_weak_1 : decode cL_weak 1 = .ok (.iconst 0, 1) := by decide +kernel
theorem dL_weak_2 : decode cL_weak 2 = .ok (.aload_n 0, 1) := by decide +kernel
theorem dL_weak_3 : decode cL_weak 3 = .ok (.iload_n 1, 1) := by decide +kernel
theorem dL_weak_4 : decode cL_weak 4 = .ok (.iload_n 2, 1) := by decide +kernel
theorem dL_weak_5 : decode cL_weak 5 = .ok (.invokevirtual 40, 3) := by decide +kernel
theorem dL_weak_8 : decode cL_weak 8 = .ok (.i2l, 1) := by decide +kernel
theorem dL_weak_9 : decode cL_weak 9 = .ok (.lastore, 1) := by decide +kernel
theorem dL_weak_10 : decode cL_weak 10 = .ok (.goto 7, 3) := by decide +kernel
theorem dL_weak_13 : decode cL_weak 13 = .ok (.astore 4, 2) := by decide +kernel
theorem dL_weak_15 : decode cL_weak 15 = .ok (.iconst 1, 1) := by decide +kernel
theorem dL_weak_16 : decode cL_weak 16 = .ok (.ireturn, 1) := by decide +kernel
theorem dL_weak_17 : decode cL_weak 17 = .ok (.iconst 0, 1) := by decide +kernel
theorem dL_weak_18 : decode cL_weak 18 = .ok (.ireturn, 1) := by decide +kernel
theorem dL_strong_0 : decode cL_strong 0 = .ok (.aload_n 3, 1) := by decide +kernel
theorem dL_strong_1 : decode cL_strong 1 = .ok (.iconst 0, 1) := by decide +kernel
theorem dL_strong_2 : decode cL_strong 2 = .ok (.aload_n 0, 1) := by decide +kernel
theorem dL_strong_3 : decode cL_strong 3 = .ok (.iload_n 1, 1) := by decide +kernel
theorem dL_strong_4 : decode cL_strong 4 = .ok (.iload_n 2, 1) := by decide +kernel
theorem dL_strong_5 : decode cL_strong 5 = .ok (.invokevirtual 43, 3) := by decide +kernel
theorem dL_strong_8 : decode cL_strong 8 = .ok (.i2l, 1) := by decide +kernel
theorem dL_strong_9 : decode cL_strong 9 = .ok (.lastore, 1) := by decide +kernel
theorem dL_strong_10 : decode cL_strong 10 = .ok (.goto 7, 3) := by decide +kernel
theorem dL_strong_13 : decode cL_strong 13 = .ok (.astore 4, 2) := by decide +kernel
theorem dL_strong_15 : decode cL_strong 15 = .ok (.iconst 1, 1) := by decide +kernel
theorem dL_strong_16 : decode cL_strong 16 = .ok (.ireturn, 1) := by decide +kernel
theorem dL_strong_17 : decode cL_strong 17 = .ok (.iconst 0, 1) := by decide +kernel
theorem dL_strong_18 : decode cL_strong 18 = .ok (.ireturn, 1) := by decide +kernel
theorem dL_wish_0 : decode cL_wish 0 = .ok (.aload_n 2, 1) := by decide +kernel
theorem dL_wish_1 : decode cL_wish 1 = .ok (.iconst 0, 1) := by decide +kernel
theorem dL_wish_2 : decode cL_wish 2 = .ok (.aload_n 0, 1) := by decide +kernel
theorem dL_wish_3 : decode cL_wish 3 = .ok (.iload_n 1, 1) := by decide +kernel
theorem dL_wish_4 : decode cL_wish 4 = .ok (.invokevirtual 46, 3) := by decide +kernel
theorem dL_wish_7 : decode cL_wish 7 = .ok (.i2l, 1) := by decide +kernel
theorem dL_wish_8 : decode cL_wish 8 = .ok (.lastore, 1) := by decide +kernel
theorem dL_wish_9 : decode cL_wish 9 = .ok (.goto 6, 3) := by decide +kernel
theorem dL_wish_12 : decode cL_wish 12 = .ok (.astore_n 3, 1) := by decide +kernel
theorem dL_wish_13 : decode cL_wish 13 = .ok (.iconst 1, 1) := by decide +kernel
theorem dL_wish_14 : decode cL_wish 14 = .ok (.ireturn, 1) := by decide +kernel
theorem dL_wish_15 : decode cL_wish 15 = .ok (.iconst 0, 1) := by decide +kernel
theorem dL_wish_16 : decode cL_wish 16 = .ok (.ireturn, 1) := by decide +kernel
theorem dL_collect_0 : decode cL_collect 0 = .ok (.aload_n 2, 1) := by decide +kernel
theorem dL_collect_1 : decode cL_collect 1 = .ok (.iconst 0, 1) := by decide +kernel
theorem dL_collect_2 : decode cL_collect 2 = .ok (.aload_n 0, 1) := by decide +kernel
theorem dL_collect_3 : decode cL_collect 3 = .ok (.iload_n 1, 1) := by decide +kernel
theorem dL_collect_4 : decode cL_collect 4 = .ok (.invokevirtual 49, 3) := by decide +kernel
theorem dL_collect_7 : decode cL_collect 7 = .ok (.i2l, 1) := by decide +kernel
theorem dL_collect_8 : decode cL_collect 8 = .ok (.lastore, 1) := by decide +kernel
theorem dL_collect_9 : decode cL_collect 9 = .ok (.goto 6, 3) := by decide +kernel
theorem dL_collect_12 : decode cL_collect 12 = .ok (.astore_n 3, 1) := by decide +kernel
theorem dL_collect_13 : decode cL_collect 13 = .ok (.iconst 1, 1) := by decide +kernel
theorem dL_collect_14 : decode cL_collect 14 = .ok (.ireturn, 1) := by decide +kernel
theorem dL_collect_15 : decode cL_collect 15 = .ok (.iconst 0, 1) := by decide +kernel
theorem dL_collect_16 : decode cL_collect 16 = .ok (.ireturn, 1) := by decide +kernel
theorem dL_root_0 : decode cL_root 0 = .ok (.aload_n 2, 1) := by decide +kernel
theorem dL_root_1 : decode cL_root 1 = .ok (.iconst 0, 1) := by decide +kernel
theorem dL_root_2 : decode cL_root 2 = .ok (.aload_n 0, 1) := by decide +kernel
theorem dL_root_3 : decode cL_root 3 = .ok (.iload_n 1, 1) := by decide +kernel
theorem dL_root_4 : decode cL_root 4 = .ok (.invokevirtual 52, 3) := by decide +kernel
theorem dL_root_7 : decode cL_root 7 = .ok (.i2l, 1) := by decide +kernel
theorem dL_root_8 : decode cL_root 8 = .ok (.lastore, 1) := by decide +kernel
theorem dL_root_9 : decode cL_root 9 = .ok (.goto 6, 3) := by decide +kernel
theorem dL_root_12 : decode cL_root 12 = .ok (.astore_n 3, 1) := by decide +kernel
theorem dL_root_13 : decode cL_root 13 = .ok (.iconst 1, 1) := by decide +kernel
theorem dL_root_14 : decode cL_root 14 = .ok (.ireturn, 1) := by decide +kernel
theorem dL_root_15 : decode cL_root 15 = .ok (.iconst 0, 1) := by decide +kernel
theorem dL_root_16 : decode cL_root 16 = .ok (.ireturn, 1) := by decide +kernel
theorem dL_about_0 : decode cL_about 0 = .ok (.aload_n 3, 1) := by decide +kernel
theorem dL_about_1 : decode cL_about 1 = .ok (.iconst 0, 1) := by decide +kernel
theorem dL_about_2 : decode cL_about 2 = .ok (.aload_n 0, 1) := by decide +kernel
theorem dL_about_3 : decode cL_about 3 = .ok (.iload_n 1, 1) := by decide +kernel
theorem dL_about_4 : decode cL_about 4 = .ok (.iload_n 2, 1) := by decide +kernel
theorem dL_about_5 : decode cL_about 5 = .ok (.invokevirtual 55, 3) := by decide +kernel
theorem dL_about_8 : decode cL_about 8 = .ok (.i2l, 1) := by decide +kernel
theorem dL_about_9 : decode cL_about 9 = .ok (.lastore, 1) := by decide +kernel
theorem dL_about_10 : decode cL_about 10 = .ok (.goto 11, 3) := by decide +kernel
theorem dL_about_13 : decode cL_about 13 = .ok (.astore 4, 2) := by decide +kernel
theorem dL_about_15 : decode cL_about 15 = .ok (.iconst 1, 1) := by decide +kernel
theorem dL_about_16 : decode cL_about 16 = .ok (.ireturn, 1) := by decide +kernel
theorem dL_about_17 : decode cL_about 17 = .ok (.astore 4, 2) := by decide +kernel
theorem dL_about_19 : decode cL_about 19 = .ok (.iconst 2, 1) := by decide +kernel
theorem dL_about_20 : decode cL_about 20 = .ok (.ireturn, 1) := by decide +kernel
theorem dL_about_21 : decode cL_about 21 = .ok (.iconst 0, 1) := by decide +kernel
theorem dL_about_22 : decode cL_about 22 = .ok (.ireturn, 1) := by decide +kernel
theorem dL_word_0 : decode cL_word 0 = .ok (.aload_n 2, 1) := by decide +kernel
theorem dL_word_1 : decode cL_word 1 = .ok (.iconst 0, 1) := by decide +kernel
theorem dL_word_2 : decode cL_word 2 = .ok (.aload_n 0, 1) := by decide +kernel
theorem dL_word_3 : decode cL_word 3 = .ok (.iload_n 1, 1) := by decide +kernel
theorem dL_word_4 : decode cL_word 4 = .ok (.invokevirtual 58, 3) := by decide +kernel
theorem dL_word_7 : decode cL_word 7 = .ok (.i2l, 1) := by decide +kernel
theorem dL_word_8 : decode cL_word 8 = .ok (.lastore, 1) := by decide +kernel
theorem dL_word_9 : decode cL_word 9 = .ok (.goto 6, 3) := by decide +kernel
theorem dL_word_12 : decode cL_word 12 = .ok (.astore_n 3, 1) := by decide +kernel
theorem dL_word_13 : decode cL_word 13 = .ok (.iconst 1, 1) := by decide +kernel
theorem dL_word_14 : decode cL_word 14 = .ok (.ireturn, 1) := by decide +kernel
theorem dL_word_15 : decode cL_word 15 = .ok (.iconst 0, 1) := by decide +kernel
theorem dL_word_16 : decode cL_word 16 = .ok (.ireturn, 1) := by decide +kernel
theorem dL_row_0 : decode cL_row 0 = .ok (.aload_n 3, 1) := by decide +kernel
theorem dL_row_1 : decode cL_row 1 = .ok (.iconst 0, 1) := by decide +kernel
theorem dL_row_2 : decode cL_row 2 = .ok (.aload_n 0, 1) := by decide +kernel
theorem dL_row_3 : decode cL_row 3 = .ok (.iload_n 1, 1) := by decide +kernel
theorem dL_row_4 : decode cL_row 4 = .ok (.iload_n 2, 1) := by decide +kernel
theorem dL_row_5 : decode cL_row 5 = .ok (.invokevirtual 61, 3) := by decide +kernel
theorem dL_row_8 : decode cL_row 8 = .ok (.i2l, 1) := by decide +kernel
theorem dL_row_9 : decode cL_row 9 = .ok (.lastore, 1) := by decide +kernel
theorem dL_row_10 : decode cL_row 10 = .ok (.goto 7, 3) := by decide +kernel
theorem dL_row_13 : decode cL_row 13 = .ok (.astore 4, 2) := by decide +kernel
theorem dL_row_15 : decode cL_row 15 = .ok (.iconst 1, 1) := by decide +kernel
theorem dL_row_16 : decode cL_row 16 = .ok (.ireturn, 1) := by decide +kernel
theorem dL_row_17 : decode cL_row 17 = .ok (.iconst 0, 1) := by decide +kernel
theorem dL_row_18 : decode cL_row 18 = .ok (.ireturn, 1) := by decide +kernel
theorem dL_code_0 : decode cL_code 0 = .ok (.aload 5, 2) := by decide +kernel
theorem dL_code_2 : decode cL_code 2 = .ok (.iconst 0, 1) := by decide +kernel
theorem dL_code_3 : decode cL_code 3 = .ok (.aload_n 0, 1) := by decide +kernel
theorem dL_code_4 : decode cL_code 4 = .ok (.iload_n 1, 1) := by decide +kernel
theorem dL_code_5 : decode cL_code 5 = .ok (.iload_n 2, 1) := by decide +kernel
theorem dL_code_6 : decode cL_code 6 = .ok (.iload_n 3, 1) := by decide +kernel
theorem dL_code_7 : decode cL_code 7 = .ok (.iload 4, 2) := by decide +kernel
theorem dL_code_9 : decode cL_code 9 = .ok (.invokevirtual 64, 3) := by decide +kernel
theorem dL_code_12 : decode cL_code 12 = .ok (.i2l, 1) := by decide +kernel
theorem dL_code_13 : decode cL_code 13 = .ok (.lastore, 1) := by decide +kernel
theorem dL_code_14 : decode cL_code 14 = .ok (.goto 7, 3) := by decide +kernel
theorem dL_code_17 : decode cL_code 17 = .ok (.astore 6, 2) := by decide +kernel
theorem dL_code_19 : decode cL_code 19 = .ok (.iconst 1, 1) := by decide +kernel
theorem dL_code_20 : decode cL_code 20 = .ok (.ireturn, 1) := by decide +kernel
theorem dL_code_21 : decode cL_code 21 = .ok (.iconst 0, 1) := by decide +kernel
theorem dL_code_22 : decode cL_code 22 = .ok (.ireturn, 1) := by decide +kernel
theorem dL_run_0 : decode cL_run 0 = .ok (.aload_n 3, 1) := by decide +kernel
theorem dL_run_1 : decode cL_run 1 = .ok (.iconst 0, 1) := by decide +kernel
theorem dL_run_2 : decode cL_run 2 = .ok (.aload_n 0, 1) := by decide +kernel
theorem dL_run_3 : decode cL_run 3 = .ok (.iload_n 1, 1) := by decide +kernel
theorem dL_run_4 : decode cL_run 4 = .ok (.iload_n 2, 1) := by decide +kernel
theorem dL_run_5 : decode cL_run 5 = .ok (.invokevirtual 68, 3) := by decide +kernel
theorem dL_run_8 : decode cL_run 8 = .ok (.i2l, 1) := by decide +kernel
theorem dL_run_9 : decode cL_run 9 = .ok (.lastore, 1) := by decide +kernel
theorem dL_run_10 : decode cL_run 10 = .ok (.goto 11, 3) := by decide +kernel
theorem dL_run_13 : decode cL_run 13 = .ok (.astore 4, 2) := by decide +kernel
theorem dL_run_15 : decode cL_run 15 = .ok (.iconst 1, 1) := by decide +kernel
theorem dL_run_16 : decode cL_run 16 = .ok (.ireturn, 1) := by decide +kernel
theorem dL_run_17 : decode cL_run 17 = .ok (.astore 4, 2) := by decide +kernel
theorem dL_run_19 : decode cL_run 19 = .ok (.iconst 2, 1) := by decide +kernel
theorem dL_run_20 : decode cL_run 20 = .ok (.ireturn, 1) := by decide +kernel
theorem dL_run_21 : decode cL_run 21 = .ok (.iconst 0, 1) := by decide +kernel
theorem dL_run_22 : decode cL_run 22 = .ok (.ireturn, 1) := by decide +kernel
theorem dL_count_0 : decode cL_count 0 = .ok (.aload_n 2, 1) := by decide +kernel
theorem dL_count_1 : decode cL_count 1 = .ok (.iconst 0, 1) := by decide +kernel
theorem dL_count_2 : decode cL_count 2 = .ok (.aload_n 0, 1) := by decide +kernel
theorem dL_count_3 : decode cL_count 3 = .ok (.iload_n 1, 1) := by decide +kernel
theorem dL_count_4 : decode cL_count 4 = .ok (.invokevirtual 71, 3) := by decide +kernel
theorem dL_count_7 : decode cL_count 7 = .ok (.i2l, 1) := by decide +kernel
theorem dL_count_8 : decode cL_count 8 = .ok (.lastore, 1) := by decide +kernel
theorem dL_count_9 : decode cL_count 9 = .ok (.goto 6, 3) := by decide +kernel
theorem dL_count_12 : decode cL_count 12 = .ok (.astore_n 3, 1) := by decide +kernel
theorem dL_count_13 : decode cL_count 13 = .ok (.iconst 1, 1) := by decide +kernel
theorem dL_count_14 : decode cL_count 14 = .ok (.ireturn, 1) := by decide +kernel
theorem dL_count_15 : decode cL_count 15 = .ok (.iconst 0, 1) := by decide +kernel
theorem dL_count_16 : decode cL_count 16 = .ok (.ireturn, 1) := by decide +kernel
theorem dL_law_0 : decode cL_law 0 = .ok (.new 8, 3) := by decide +kernel
theorem dL_law_3 : decode cL_law 3 = .ok (.dup, 1) := by decide +kernel
theorem dL_law_4 : decode cL_law 4 = .ok (.aload_n 0, 1) := by decide +kernel
theorem dL_law_5 : decode cL_law 5 = .ok (.iconst 0, 1) := by decide +kernel
theorem dL_law_6 : decode cL_law 6 = .ok (.invokestatic 74, 3) := by decide +kernel
theorem dL_law_9 : decode cL_law 9 = .ok (.aload_n 0, 1) := by decide +kernel
theorem dL_law_10 : decode cL_law 10 = .ok (.iconst 1, 1) := by decide +kernel
theorem dL_law_11 : decode cL_law 11 = .ok (.invokestatic 74, 3) := by decide +kernel
theorem dL_law_14 : decode cL_law 14 = .ok (.aload_n 0, 1) := by decide +kernel
theorem dL_law_15 : decode cL_law 15 = .ok (.iconst 2, 1) := by decide +kernel
theorem dL_law_16 : decode cL_law 16 = .ok (.invokestatic 74, 3) := by decide +kernel
theorem dL_law_19 : decode cL_law 19 = .ok (.aload_n 0, 1) := by decide +kernel
theorem dL_law_20 : decode cL_law 20 = .ok (.iconst 3, 1) := by decide +kernel
theorem dL_law_21 : decode cL_law 21 = .ok (.invokestatic 74, 3) := by decide +kernel
theorem dL_law_24 : decode cL_law 24 = .ok (.invokespecial 80, 3) := by decide +kernel
theorem dL_law_27 : decode cL_law 27 = .ok (.astore_n 1, 1) := by decide +kernel
theorem dL_law_28 : decode cL_law 28 = .ok (.new 83, 3) := by decide +kernel
theorem dL_law_31 : decode cL_law 31 = .ok (.dup, 1) := by decide +kernel
theorem dL_law_32 : decode cL_law 32 = .ok (.aload_n 0, 1) := by decide +kernel
theorem dL_law_33 : decode cL_law 33 = .ok (.iconst 0, 1) := by decide +kernel
theorem dL_law_34 : decode cL_law 34 = .ok (.invokestatic 74, 3) := by decide +kernel
theorem dL_law_37 : decode cL_law 37 = .ok (.aload_n 0, 1) := by decide +kernel
theorem dL_law_38 : decode cL_law 38 = .ok (.iconst 1, 1) := by decide +kernel
theorem dL_law_39 : decode cL_law 39 = .ok (.invokestatic 74, 3) := by decide +kernel
theorem dL_law_42 : decode cL_law 42 = .ok (.aload_n 0, 1) := by decide +kernel
theorem dL_law_43 : decode cL_law 43 = .ok (.iconst 2, 1) := by decide +kernel
theorem dL_law_44 : decode cL_law 44 = .ok (.invokestatic 74, 3) := by decide +kernel
theorem dL_law_47 : decode cL_law 47 = .ok (.aload_n 0, 1) := by decide +kernel
theorem dL_law_48 : decode cL_law 48 = .ok (.iconst 3, 1) := by decide +kernel
theorem dL_law_49 : decode cL_law 49 = .ok (.invokestatic 74, 3) := by decide +kernel
theorem dL_law_52 : decode cL_law 52 = .ok (.invokespecial 85, 3) := by decide +kernel
theorem dL_law_55 : decode cL_law 55 = .ok (.astore_n 2, 1) := by decide +kernel
theorem dL_law_56 : decode cL_law 56 = .ok (.iconst 1, 1) := by decide +kernel
theorem dL_law_57 : decode cL_law 57 = .ok (.newarray .long, 2) := by decide +kernel
theorem dL_law_59 : decode cL_law 59 = .ok (.astore_n 3, 1) := by decide +kernel
theorem dL_law_60 : decode cL_law 60 = .ok (.iconst 4, 1) := by decide +kernel
theorem dL_law_61 : decode cL_law 61 = .ok (.istore 4, 2) := by decide +kernel
theorem dL_law_63 : decode cL_law 63 = .ok (.iload 4, 2) := by decide +kernel
theorem dL_law_65 : decode cL_law 65 = .ok (.aload_n 0, 1) := by decide +kernel
theorem dL_law_66 : decode cL_law 66 = .ok (.arraylength, 1) := by decide +kernel
theorem dL_law_67 : decode cL_law 67 = .ok (.iconst 5, 1) := by decide +kernel
theorem dL_law_68 : decode cL_law 68 = .ok (.isub, 1) := by decide +kernel
theorem dL_law_69 : decode cL_law 69 = .ok (.if_icmp .gt 1358, 3) := by decide +kernel
theorem dL_law_72 : decode cL_law 72 = .ok (.aload_n 0, 1) := by decide +kernel
theorem dL_law_73 : decode cL_law 73 = .ok (.iload 4, 2) := by decide +kernel
theorem dL_law_75 : decode cL_law 75 = .ok (.iaload, 1) := by decide +kernel
theorem dL_law_76 : decode cL_law 76 = .ok (.bipush 31, 2) := by decide +kernel
theorem dL_law_78 : decode cL_law 78 = .ok (.iand, 1) := by decide +kernel
theorem dL_law_79 : decode cL_law 79 = .ok (.tableswitch 1342 0 18 #[89, 197, 277, 357, 437, 505, 561, 617, 685, 753, 809, 865, 921, 989, 1045, 1113, 1205, 1218, 1286], 89) := by decide +kernel
theorem dL_law_168 : decode cL_law 168 = .ok (.aload_n 1, 1) := by decide +kernel
theorem dL_law_169 : decode cL_law 169 = .ok (.aload_n 0, 1) := by decide +kernel
theorem dL_law_170 : decode cL_law 170 = .ok (.iload 4, 2) := by decide +kernel
theorem dL_law_172 : decode cL_law 172 = .ok (.iconst 1, 1) := by decide +kernel
theorem dL_law_173 : decode cL_law 173 = .ok (.iadd, 1) := by decide +kernel
theorem dL_law_174 : decode cL_law 174 = .ok (.iaload, 1) := by decide +kernel
theorem dL_law_175 : decode cL_law 175 = .ok (.aload_n 0, 1) := by decide +kernel
theorem dL_law_176 : decode cL_law 176 = .ok (.iload 4, 2) := by decide +kernel
theorem dL_law_178 : decode cL_law 178 = .ok (.iconst 2, 1) := by decide +kernel
theorem dL_law_179 : decode cL_law 179 = .ok (.iadd, 1) := by decide +kernel
theorem dL_law_180 : decode cL_law 180 = .ok (.iaload, 1) := by decide +kernel
theorem dL_law_181 : decode cL_law 181 = .ok (.aload_n 0, 1) := by decide +kernel
theorem dL_law_182 : decode cL_law 182 = .ok (.iload 4, 2) := by decide +kernel
theorem dL_law_184 : decode cL_law 184 = .ok (.iconst 3, 1) := by decide +kernel
theorem dL_law_185 : decode cL_law 185 = .ok (.iadd, 1) := by decide +kernel
theorem dL_law_186 : decode cL_law 186 = .ok (.iaload, 1) := by decide +kernel
theorem dL_law_187 : decode cL_law 187 = .ok (.aload_n 0, 1) := by decide +kernel
theorem dL_law_188 : decode cL_law 188 = .ok (.iload 4, 2) := by decide +kernel
theorem dL_law_190 : decode cL_law 190 = .ok (.iconst 4, 1) := by decide +kernel
theorem dL_law_191 : decode cL_law 191 = .ok (.iadd, 1) := by decide +kernel
theorem dL_law_192 : decode cL_law 192 = .ok (.iaload, 1) := by decide +kernel
theorem dL_law_193 : decode cL_law 193 = .ok (.ifCond .eq 7, 3) := by decide +kernel
theorem dL_law_196 : decode cL_law 196 = .ok (.iconst 1, 1) := by decide +kernel
theorem dL_law_197 : decode cL_law 197 = .ok (.goto 4, 3) := by decide +kernel
theorem dL_law_200 : decode cL_law 200 = .ok (.iconst 0, 1) := by decide +kernel
theorem dL_law_201 : decode cL_law 201 = .ok (.aload_n 3, 1) := by decide +kernel
theorem dL_law_202 : decode cL_law 202 = .ok (.invokestatic 86, 3) := by decide +kernel
theorem dL_law_205 : decode cL_law 205 = .ok (.istore 5, 2) := by decide +kernel
theorem dL_law_207 : decode cL_law 207 = .ok (.aload_n 2, 1) := by decide +kernel
theorem dL_law_208 : decode cL_law 208 = .ok (.aload_n 0, 1) := by decide +kernel
theorem dL_law_209 : decode cL_law 209 = .ok (.iload 4, 2) := by decide +kernel
theorem dL_law_211 : decode cL_law 211 = .ok (.iconst 1, 1) := by decide +kernel
theorem dL_law_212 : decode cL_law 212 = .ok (.iadd, 1) := by decide +kernel
theorem dL_law_213 : decode cL_law 213 = .ok (.iaload, 1) := by decide +kernel
theorem dL_law_214 : decode cL_law 214 = .ok (.aload_n 0, 1) := by decide +kernel
theorem dL_law_215 : decode cL_law 215 = .ok (.iload 4, 2) := by decide +kernel
theorem dL_law_217 : decode cL_law 217 = .ok (.iconst 2, 1) := by decide +kernel
theorem dL_law_218 : decode cL_law 218 = .ok (.iadd, 1) := by decide +kernel
theorem dL_law_219 : decode cL_law 219 = .ok (.iaload, 1) := by decide +kernel
theorem dL_law_220 : decode cL_law 220 = .ok (.aload_n 0, 1) := by decide +kernel
theorem dL_law_221 : decode cL_law 221 = .ok (.iload 4, 2) := by decide +kernel
theorem dL_law_223 : decode cL_law 223 = .ok (.iconst 3, 1) := by decide +kernel
theorem dL_law_224 : decode cL_law 224 = .ok (.iadd, 1) := by decide +kernel
theorem dL_law_225 : decode cL_law 225 = .ok (.iaload, 1) := by decide +kernel
theorem dL_law_226 : decode cL_law 226 = .ok (.aload_n 0, 1) := by decide +kernel
theorem dL_law_227 : decode cL_law 227 = .ok (.iload 4, 2) := by decide +kernel
theorem dL_law_229 : decode cL_law 229 = .ok (.iconst 4, 1) := by decide +kernel
theorem dL_law_230 : decode cL_law 230 = .ok (.iadd, 1) := by decide +kernel
theorem dL_law_231 : decode cL_law 231 = .ok (.iaload, 1) := by decide +kernel
theorem dL_law_232 : decode cL_law 232 = .ok (.ifCond .eq 7, 3) := by decide +kernel
theorem dL_law_235 : decode cL_law 235 = .ok (.iconst 1, 1) := by decide +kernel
theorem dL_law_236 : decode cL_law 236 = .ok (.goto 4, 3) := by decide +kernel
theorem dL_law_239 : decode cL_law 239 = .ok (.iconst 0, 1) := by decide +kernel
theorem dL_law_240 : decode cL_law 240 = .ok (.invokevirtual 89, 3) := by decide +kernel
theorem dL_law_243 : decode cL_law 243 = .ok (.istore 6, 2) := by decide +kernel
theorem dL_law_245 : decode cL_law 245 = .ok (.aload_n 2, 1) := by decide +kernel
theorem dL_law_246 : decode cL_law 246 = .ok (.invokevirtual 90, 3) := by decide +kernel
theorem dL_law_249 : decode cL_law 249 = .ok (.iload 5, 2) := by decide +kernel
theorem dL_law_251 : decode cL_law 251 = .ok (.if_icmp .eq 5, 3) := by decide +kernel
theorem dL_law_254 : decode cL_law 254 = .ok (.iconst 0, 1) := by decide +kernel
theorem dL_law_255 : decode cL_law 255 = .ok (.ireturn, 1) := by decide +kernel
theorem dL_law_256 : decode cL_law 256 = .ok (.iload 5, 2) := by decide +kernel
theorem dL_law_258 : decode cL_law 258 = .ok (.ifCond .ne 15, 3) := by decide +kernel
theorem dL_law_261 : decode cL_law 261 = .ok (.aload_n 3, 1) := by decide +kernel
theorem dL_law_262 : decode cL_law 262 = .ok (.iconst 0, 1) := by decide +kernel
theorem dL_law_263 : decode cL_law 263 = .ok (.laload, 1) := by decide +kernel
theorem dL_law_264 : decode cL_law 264 = .ok (.iload 6, 2) := by decide +kernel
theorem dL_law_266 : decode cL_law 266 = .ok (.i2l, 1) := by decide +kernel
theorem dL_law_267 : decode cL_law 267 = .ok (.lcmp, 1) := by decide +kernel
theorem dL_law_268 : decode cL_law 268 = .ok (.ifCond .eq 5, 3) := by decide +kernel
theorem dL_law_271 : decode cL_law 271 = .ok (.iconst 0, 1) := by decide +kernel
theorem dL_law_272 : decode cL_law 272 = .ok (.ireturn, 1) := by decide +kernel
theorem dL_law_273 : decode cL_law 273 = .ok (.goto 1148, 3) := by decide +kernel
theorem dL_law_276 : decode cL_law 276 = .ok (.aload_n 1, 1) := by decide +kernel
theorem dL_law_277 : decode cL_law 277 = .ok (.aload_n 0, 1) := by decide +kernel
theorem dL_law_278 : decode cL_law 278 = .ok (.iload 4, 2) := by decide +kernel
theorem dL_law_280 : decode cL_law 280 = .ok (.iconst 1, 1) := by decide +kernel
theorem dL_law_281 : decode cL_law 281 = .ok (.iadd, 1) := by decide +kernel
theorem dL_law_282 : decode cL_law 282 = .ok (.iaload, 1) := by decide +kernel
theorem dL_law_283 : decode cL_law 283 = .ok (.aload_n 0, 1) := by decide +kernel
theorem dL_law_284 : decode cL_law 284 = .ok (.iload 4, 2) := by decide +kernel
theorem dL_law_286 : decode cL_law 286 = .ok (.iconst 2, 1) := by decide +kernel
theorem dL_law_287 : decode cL_law 287 = .ok (.iadd, 1) := by decide +kernel
theorem dL_law_288 : decode cL_law 288 = .ok (.iaload, 1) := by decide +kernel
theorem dL_law_289 : decode cL_law 289 = .ok (.aload_n 0, 1) := by decide +kernel
theorem dL_law_290 : decode cL_law 290 = .ok (.iload 4, 2) := by decide +kernel
theorem dL_law_292 : decode cL_law 292 = .ok (.iconst 3, 1) := by decide +kernel
theorem dL_law_293 : decode cL_law 293 = .ok (.iadd, 1) := by decide +kernel
theorem dL_law_294 : decode cL_law 294 = .ok (.iaload, 1) := by decide +kernel
theorem dL_law_295 : decode cL_law 295 = .ok (.aload_n 3, 1) := by decide +kernel
theorem dL_law_296 : decode cL_law 296 = .ok (.invokestatic 94, 3) := by decide +kernel
theorem dL_law_299 : decode cL_law 299 = .ok (.istore 5, 2) := by decide +kernel
theorem dL_law_301 : decode cL_law 301 = .ok (.aload_n 2, 1) := by decide +kernel
theorem dL_law_302 : decode cL_law 302 = .ok (.aload_n 0, 1) := by decide +kernel
theorem dL_law_303 : decode cL_law 303 = .ok (.iload 4, 2) := by decide +kernel
theorem dL_law_305 : decode cL_law 305 = .ok (.iconst 1, 1) := by decide +kernel
theorem dL_law_306 : decode cL_law 306 = .ok (.iadd, 1) := by decide +kernel
theorem dL_law_307 : decode cL_law 307 = .ok (.iaload, 1) := by decide +kernel
theorem dL_law_308 : decode cL_law 308 = .ok (.aload_n 0, 1) := by decide +kernel
theorem dL_law_309 : decode cL_law 309 = .ok (.iload 4, 2) := by decide +kernel
theorem dL_law_311 : decode cL_law 311 = .ok (.iconst 2, 1) := by decide +kernel
theorem dL_law_312 : decode cL_law 312 = .ok (.iadd, 1) := by decide +kernel
theorem dL_law_313 : decode cL_law 313 = .ok (.iaload, 1) := by decide +kernel
theorem dL_law_314 : decode cL_law 314 = .ok (.aload_n 0, 1) := by decide +kernel
theorem dL_law_315 : decode cL_law 315 = .ok (.iload 4, 2) := by decide +kernel
theorem dL_law_317 : decode cL_law 317 = .ok (.iconst 3, 1) := by decide +kernel
theorem dL_law_318 : decode cL_law 318 = .ok (.iadd, 1) := by decide +kernel
theorem dL_law_319 : decode cL_law 319 = .ok (.iaload, 1) := by decide +kernel
theorem dL_law_320 : decode cL_law 320 = .ok (.invokevirtual 97, 3) := by decide +kernel
theorem dL_law_323 : decode cL_law 323 = .ok (.istore 6, 2) := by decide +kernel
theorem dL_law_325 : decode cL_law 325 = .ok (.aload_n 2, 1) := by decide +kernel
theorem dL_law_326 : decode cL_law 326 = .ok (.invokevirtual 90, 3) := by decide +kernel
theorem dL_law_329 : decode cL_law 329 = .ok (.iload 5, 2) := by decide +kernel
theorem dL_law_331 : decode cL_law 331 = .ok (.if_icmp .eq 5, 3) := by decide +kernel
theorem dL_law_334 : decode cL_law 334 = .ok (.iconst 0, 1) := by decide +kernel
theorem dL_law_335 : decode cL_law 335 = .ok (.ireturn, 1) := by decide +kernel
theorem dL_law_336 : decode cL_law 336 = .ok (.iload 5, 2) := by decide +kernel
theorem dL_law_338 : decode cL_law 338 = .ok (.ifCond .ne 15, 3) := by decide +kernel
theorem dL_law_341 : decode cL_law 341 = .ok (.aload_n 3, 1) := by decide +kernel
theorem dL_law_342 : decode cL_law 342 = .ok (.iconst 0, 1) := by decide +kernel
theorem dL_law_343 : decode cL_law 343 = .ok (.laload, 1) := by decide +kernel
theorem dL_law_344 : decode cL_law 344 = .ok (.iload 6, 2) := by decide +kernel
theorem dL_law_346 : decode cL_law 346 = .ok (.i2l, 1) := by decide +kernel
theorem dL_law_347 : decode cL_law 347 = .ok (.lcmp, 1) := by decide +kernel
theorem dL_law_348 : decode cL_law 348 = .ok (.ifCond .eq 5, 3) := by decide +kernel
theorem dL_law_351 : decode cL_law 351 = .ok (.iconst 0, 1) := by decide +kernel
theorem dL_law_352 : decode cL_law 352 = .ok (.ireturn, 1) := by decide +kernel
theorem dL_law_353 : decode cL_law 353 = .ok (.goto 1068, 3) := by decide +kernel
theorem dL_law_356 : decode cL_law 356 = .ok (.aload_n 1, 1) := by decide +kernel
theorem dL_law_357 : decode cL_law 357 = .ok (.aload_n 0, 1) := by decide +kernel
theorem dL_law_358 : decode cL_law 358 = .ok (.iload 4, 2) := by decide +kernel
theorem dL_law_360 : decode cL_law 360 = .ok (.iconst 1, 1) := by decide +kernel
theorem dL_law_361 : decode cL_law 361 = .ok (.iadd, 1) := by decide +kernel
theorem dL_law_362 : decode cL_law 362 = .ok (.iaload, 1) := by decide +kernel
theorem dL_law_363 : decode cL_law 363 = .ok (.aload_n 0, 1) := by decide +kernel
theorem dL_law_364 : decode cL_law 364 = .ok (.iload 4, 2) := by decide +kernel
theorem dL_law_366 : decode cL_law 366 = .ok (.iconst 2, 1) := by decide +kernel
theorem dL_law_367 : decode cL_law 367 = .ok (.iadd, 1) := by decide +kernel
theorem dL_law_368 : decode cL_law 368 = .ok (.iaload, 1) := by decide +kernel
theorem dL_law_369 : decode cL_law 369 = .ok (.aload_n 0, 1) := by decide +kernel
theorem dL_law_370 : decode cL_law 370 = .ok (.iload 4, 2) := by decide +kernel
theorem dL_law_372 : decode cL_law 372 = .ok (.iconst 3, 1) := by decide +kernel
theorem dL_law_373 : decode cL_law 373 = .ok (.iadd, 1) := by decide +kernel
theorem dL_law_374 : decode cL_law 374 = .ok (.iaload, 1) := by decide +kernel
theorem dL_law_375 : decode cL_law 375 = .ok (.aload_n 3, 1) := by decide +kernel
theorem dL_law_376 : decode cL_law 376 = .ok (.invokestatic 98, 3) := by decide +kernel
theorem dL_law_379 : decode cL_law 379 = .ok (.istore 5, 2) := by decide +kernel
theorem dL_law_381 : decode cL_law 381 = .ok (.aload_n 2, 1) := by decide +kernel
theorem dL_law_382 : decode cL_law 382 = .ok (.aload_n 0, 1) := by decide +kernel
theorem dL_law_383 : decode cL_law 383 = .ok (.iload 4, 2) := by decide +kernel
theorem dL_law_385 : decode cL_law 385 = .ok (.iconst 1, 1) := by decide +kernel
theorem dL_law_386 : decode cL_law 386 = .ok (.iadd, 1) := by decide +kernel
theorem dL_law_387 : decode cL_law 387 = .ok (.iaload, 1) := by decide +kernel
theorem dL_law_388 : decode cL_law 388 = .ok (.aload_n 0, 1) := by decide +kernel
theorem dL_law_389 : decode cL_law 389 = .ok (.iload 4, 2) := by decide +kernel
theorem dL_law_391 : decode cL_law 391 = .ok (.iconst 2, 1) := by decide +kernel
theorem dL_law_392 : decode cL_law 392 = .ok (.iadd, 1) := by decide +kernel
theorem dL_law_393 : decode cL_law 393 = .ok (.iaload, 1) := by decide +kernel
theorem dL_law_394 : decode cL_law 394 = .ok (.aload_n 0, 1) := by decide +kernel
theorem dL_law_395 : decode cL_law 395 = .ok (.iload 4, 2) := by decide +kernel
theorem dL_law_397 : decode cL_law 397 = .ok (.iconst 3, 1) := by decide +kernel
theorem dL_law_398 : decode cL_law 398 = .ok (.iadd, 1) := by decide +kernel
theorem dL_law_399 : decode cL_law 399 = .ok (.iaload, 1) := by decide +kernel
theorem dL_law_400 : decode cL_law 400 = .ok (.invokevirtual 100, 3) := by decide +kernel
theorem dL_law_403 : decode cL_law 403 = .ok (.istore 6, 2) := by decide +kernel
theorem dL_law_405 : decode cL_law 405 = .ok (.aload_n 2, 1) := by decide +kernel
theorem dL_law_406 : decode cL_law 406 = .ok (.invokevirtual 90, 3) := by decide +kernel
theorem dL_law_409 : decode cL_law 409 = .ok (.iload 5, 2) := by decide +kernel
theorem dL_law_411 : decode cL_law 411 = .ok (.if_icmp .eq 5, 3) := by decide +kernel
theorem dL_law_414 : decode cL_law 414 = .ok (.iconst 0, 1) := by decide +kernel
theorem dL_law_415 : decode cL_law 415 = .ok (.ireturn, 1) := by decide +kernel
theorem dL_law_416 : decode cL_law 416 = .ok (.iload 5, 2) := by decide +kernel
theorem dL_law_418 : decode cL_law 418 = .ok (.ifCond .ne 15, 3) := by decide +kernel
theorem dL_law_421 : decode cL_law 421 = .ok (.aload_n 3, 1) := by decide +kernel
theorem dL_law_422 : decode cL_law 422 = .ok (.iconst 0, 1) := by decide +kernel
theorem dL_law_423 : decode cL_law 423 = .ok (.laload, 1) := by decide +kernel
theorem dL_law_424 : decode cL_law 424 = .ok (.iload 6, 2) := by decide +kernel
theorem dL_law_426 : decode cL_law 426 = .ok (.i2l, 1) := by decide +kernel
theorem dL_law_427 : decode cL_law 427 = .ok (.lcmp, 1) := by decide +kernel
theorem dL_law_428 : decode cL_law 428 = .ok (.ifCond .eq 5, 3) := by decide +kernel
theorem dL_law_431 : decode cL_law 431 = .ok (.iconst 0, 1) := by decide +kernel
theorem dL_law_432 : decode cL_law 432 = .ok (.ireturn, 1) := by decide +kernel
theorem dL_law_433 : decode cL_law 433 = .ok (.goto 988, 3) := by decide +kernel
theorem dL_law_436 : decode cL_law 436 = .ok (.aload_n 1, 1) := by decide +kernel
theorem dL_law_437 : decode cL_law 437 = .ok (.aload_n 0, 1) := by decide +kernel
theorem dL_law_438 : decode cL_law 438 = .ok (.iload 4, 2) := by decide +kernel
theorem dL_law_440 : decode cL_law 440 = .ok (.iconst 1, 1) := by decide +kernel
theorem dL_law_441 : decode cL_law 441 = .ok (.iadd, 1) := by decide +kernel
theorem dL_law_442 : decode cL_law 442 = .ok (.iaload, 1) := by decide +kernel
theorem dL_law_443 : decode cL_law 443 = .ok (.aload_n 0, 1) := by decide +kernel
theorem dL_law_444 : decode cL_law 444 = .ok (.iload 4, 2) := by decide +kernel
theorem dL_law_446 : decode cL_law 446 = .ok (.iconst 2, 1) := by decide +kernel
theorem dL_law_447 : decode cL_law 447 = .ok (.iadd, 1) := by decide +kernel
theorem dL_law_448 : decode cL_law 448 = .ok (.iaload, 1) := by decide +kernel
theorem dL_law_449 : decode cL_law 449 = .ok (.aload_n 0, 1) := by decide +kernel
theorem dL_law_450 : decode cL_law 450 = .ok (.iload 4, 2) := by decide +kernel
theorem dL_law_452 : decode cL_law 452 = .ok (.iconst 3, 1) := by decide +kernel
theorem dL_law_453 : decode cL_law 453 = .ok (.iadd, 1) := by decide +kernel
theorem dL_law_454 : decode cL_law 454 = .ok (.iaload, 1) := by decide +kernel
theorem dL_law_455 : decode cL_law 455 = .ok (.aload_n 3, 1) := by decide +kernel
theorem dL_law_456 : decode cL_law 456 = .ok (.invokestatic 101, 3) := by decide +kernel
theorem dL_law_459 : decode cL_law 459 = .ok (.istore 5, 2) := by decide +kernel
theorem dL_law_461 : decode cL_law 461 = .ok (.aload_n 2, 1) := by decide +kernel
theorem dL_law_462 : decode cL_law 462 = .ok (.aload_n 0, 1) := by decide +kernel
theorem dL_law_463 : decode cL_law 463 = .ok (.iload 4, 2) := by decide +kernel
theorem dL_law_465 : decode cL_law 465 = .ok (.iconst 1, 1) := by decide +kernel
theorem dL_law_466 : decode cL_law 466 = .ok (.iadd, 1) := by decide +kernel
theorem dL_law_467 : decode cL_law 467 = .ok (.iaload, 1) := by decide +kernel
theorem dL_law_468 : decode cL_law 468 = .ok (.aload_n 0, 1) := by decide +kernel
theorem dL_law_469 : decode cL_law 469 = .ok (.iload 4, 2) := by decide +kernel
theorem dL_law_471 : decode cL_law 471 = .ok (.iconst 2, 1) := by decide +kernel
theorem dL_law_472 : decode cL_law 472 = .ok (.iadd, 1) := by decide +kernel
theorem dL_law_473 : decode cL_law 473 = .ok (.iaload, 1) := by decide +kernel
theorem dL_law_474 : decode cL_law 474 = .ok (.aload_n 0, 1) := by decide +kernel
theorem dL_law_475 : decode cL_law 475 = .ok (.iload 4, 2) := by decide +kernel
theorem dL_law_477 : decode cL_law 477 = .ok (.iconst 3, 1) := by decide +kernel
theorem dL_law_478 : decode cL_law 478 = .ok (.iadd, 1) := by decide +kernel
theorem dL_law_479 : decode cL_law 479 = .ok (.iaload, 1) := by decide +kernel
theorem dL_law_480 : decode cL_law 480 = .ok (.invokevirtual 103, 3) := by decide +kernel
theorem dL_law_483 : decode cL_law 483 = .ok (.istore 6, 2) := by decide +kernel
theorem dL_law_485 : decode cL_law 485 = .ok (.aload_n 2, 1) := by decide +kernel
theorem dL_law_486 : decode cL_law 486 = .ok (.invokevirtual 90, 3) := by decide +kernel
theorem dL_law_489 : decode cL_law 489 = .ok (.iload 5, 2) := by decide +kernel
theorem dL_law_491 : decode cL_law 491 = .ok (.if_icmp .eq 5, 3) := by decide +kernel
theorem dL_law_494 : decode cL_law 494 = .ok (.iconst 0, 1) := by decide +kernel
theorem dL_law_495 : decode cL_law 495 = .ok (.ireturn, 1) := by decide +kernel
theorem dL_law_496 : decode cL_law 496 = .ok (.iload 5, 2) := by decide +kernel
theorem dL_law_498 : decode cL_law 498 = .ok (.ifCond .ne 15, 3) := by decide +kernel
theorem dL_law_501 : decode cL_law 501 = .ok (.aload_n 3, 1) := by decide +kernel
theorem dL_law_502 : decode cL_law 502 = .ok (.iconst 0, 1) := by decide +kernel
theorem dL_law_503 : decode cL_law 503 = .ok (.laload, 1) := by decide +kernel
theorem dL_law_504 : decode cL_law 504 = .ok (.iload 6, 2) := by decide +kernel
theorem dL_law_506 : decode cL_law 506 = .ok (.i2l, 1) := by decide +kernel
theorem dL_law_507 : decode cL_law 507 = .ok (.lcmp, 1) := by decide +kernel
theorem dL_law_508 : decode cL_law 508 = .ok (.ifCond .eq 5, 3) := by decide +kernel
theorem dL_law_511 : decode cL_law 511 = .ok (.iconst 0, 1) := by decide +kernel
theorem dL_law_512 : decode cL_law 512 = .ok (.ireturn, 1) := by decide +kernel
theorem dL_law_513 : decode cL_law 513 = .ok (.goto 908, 3) := by decide +kernel
theorem dL_law_516 : decode cL_law 516 = .ok (.aload_n 1, 1) := by decide +kernel
theorem dL_law_517 : decode cL_law 517 = .ok (.aload_n 0, 1) := by decide +kernel
theorem dL_law_518 : decode cL_law 518 = .ok (.iload 4, 2) := by decide +kernel
theorem dL_law_520 : decode cL_law 520 = .ok (.iconst 1, 1) := by decide +kernel
theorem dL_law_521 : decode cL_law 521 = .ok (.iadd, 1) := by decide +kernel
theorem dL_law_522 : decode cL_law 522 = .ok (.iaload, 1) := by decide +kernel
theorem dL_law_523 : decode cL_law 523 = .ok (.aload_n 0, 1) := by decide +kernel
theorem dL_law_524 : decode cL_law 524 = .ok (.iload 4, 2) := by decide +kernel
theorem dL_law_526 : decode cL_law 526 = .ok (.iconst 2, 1) := by decide +kernel
theorem dL_law_527 : decode cL_law 527 = .ok (.iadd, 1) := by decide +kernel
theorem dL_law_528 : decode cL_law 528 = .ok (.iaload, 1) := by decide +kernel
theorem dL_law_529 : decode cL_law 529 = .ok (.aload_n 3, 1) := by decide +kernel
theorem dL_law_530 : decode cL_law 530 = .ok (.invokestatic 104, 3) := by decide +kernel
theorem dL_law_533 : decode cL_law 533 = .ok (.istore 5, 2) := by decide +kernel
theorem dL_law_535 : decode cL_law 535 = .ok (.aload_n 2, 1) := by decide +kernel
theorem dL_law_536 : decode cL_law 536 = .ok (.aload_n 0, 1) := by decide +kernel
theorem dL_law_537 : decode cL_law 537 = .ok (.iload 4, 2) := by decide +kernel
theorem dL_law_539 : decode cL_law 539 = .ok (.iconst 1, 1) := by decide +kernel
theorem dL_law_540 : decode cL_law 540 = .ok (.iadd, 1) := by decide +kernel
theorem dL_law_541 : decode cL_law 541 = .ok (.iaload, 1) := by decide +kernel
theorem dL_law_542 : decode cL_law 542 = .ok (.aload_n 0, 1) := by decide +kernel
theorem dL_law_543 : decode cL_law 543 = .ok (.iload 4, 2) := by decide +kernel
theorem dL_law_545 : decode cL_law 545 = .ok (.iconst 2, 1) := by decide +kernel
theorem dL_law_546 : decode cL_law 546 = .ok (.iadd, 1) := by decide +kernel
theorem dL_law_547 : decode cL_law 547 = .ok (.iaload, 1) := by decide +kernel
theorem dL_law_548 : decode cL_law 548 = .ok (.invokevirtual 107, 3) := by decide +kernel
theorem dL_law_551 : decode cL_law 551 = .ok (.istore 6, 2) := by decide +kernel
theorem dL_law_553 : decode cL_law 553 = .ok (.aload_n 2, 1) := by decide +kernel
theorem dL_law_554 : decode cL_law 554 = .ok (.invokevirtual 90, 3) := by decide +kernel
theorem dL_law_557 : decode cL_law 557 = .ok (.iload 5, 2) := by decide +kernel
theorem dL_law_559 : decode cL_law 559 = .ok (.if_icmp .eq 5, 3) := by decide +kernel
theorem dL_law_562 : decode cL_law 562 = .ok (.iconst 0, 1) := by decide +kernel
theorem dL_law_563 : decode cL_law 563 = .ok (.ireturn, 1) := by decide +kernel
theorem dL_law_564 : decode cL_law 564 = .ok (.iload 5, 2) := by decide +kernel
theorem dL_law_566 : decode cL_law 566 = .ok (.ifCond .ne 15, 3) := by decide +kernel
theorem dL_law_569 : decode cL_law 569 = .ok (.aload_n 3, 1) := by decide +kernel
theorem dL_law_570 : decode cL_law 570 = .ok (.iconst 0, 1) := by decide +kernel
theorem dL_law_571 : decode cL_law 571 = .ok (.laload, 1) := by decide +kernel
theorem dL_law_572 : decode cL_law 572 = .ok (.iload 6, 2) := by decide +kernel
theorem dL_law_574 : decode cL_law 574 = .ok (.i2l, 1) := by decide +kernel
theorem dL_law_575 : decode cL_law 575 = .ok (.lcmp, 1) := by decide +kernel
theorem dL_law_576 : decode cL_law 576 = .ok (.ifCond .eq 5, 3) := by decide +kernel
theorem dL_law_579 : decode cL_law 579 = .ok (.iconst 0, 1) := by decide +kernel
theorem dL_law_580 : decode cL_law 580 = .ok (.ireturn, 1) := by decide +kernel
theorem dL_law_581 : decode cL_law 581 = .ok (.goto 840, 3) := by decide +kernel
theorem dL_law_584 : decode cL_law 584 = .ok (.aload_n 1, 1) := by decide +kernel
theorem dL_law_585 : decode cL_law 585 = .ok (.aload_n 0, 1) := by decide +kernel
theorem dL_law_586 : decode cL_law 586 = .ok (.iload 4, 2) := by decide +kernel
theorem dL_law_588 : decode cL_law 588 = .ok (.iconst 1, 1) := by decide +kernel
theorem dL_law_589 : decode cL_law 589 = .ok (.iadd, 1) := by decide +kernel
theorem dL_law_590 : decode cL_law 590 = .ok (.iaload, 1) := by decide +kernel
theorem dL_law_591 : decode cL_law 591 = .ok (.aload_n 3, 1) := by decide +kernel
theorem dL_law_592 : decode cL_law 592 = .ok (.invokestatic 108, 3) := by decide +kernel
theorem dL_law_595 : decode cL_law 595 = .ok (.istore 5, 2) := by decide +kernel
theorem dL_law_597 : decode cL_law 597 = .ok (.aload_n 2, 1) := by decide +kernel
theorem dL_law_598 : decode cL_law 598 = .ok (.aload_n 0, 1) := by decide +kernel
theorem dL_law_599 : decode cL_law 599 = .ok (.iload 4, 2) := by decide +kernel
theorem dL_law_601 : decode cL_law 601 = .ok (.iconst 1, 1) := by decide +kernel
theorem dL_law_602 : decode cL_law 602 = .ok (.iadd, 1) := by decide +kernel
theorem dL_law_603 : decode cL_law 603 = .ok (.iaload, 1) := by decide +kernel
theorem dL_law_604 : decode cL_law 604 = .ok (.invokevirtual 111, 3) := by decide +kernel
theorem dL_law_607 : decode cL_law 607 = .ok (.istore 6, 2) := by decide +kernel
theorem dL_law_609 : decode cL_law 609 = .ok (.aload_n 2, 1) := by decide +kernel
theorem dL_law_610 : decode cL_law 610 = .ok (.invokevirtual 90, 3) := by decide +kernel
theorem dL_law_613 : decode cL_law 613 = .ok (.iload 5, 2) := by decide +kernel
theorem dL_law_615 : decode cL_law 615 = .ok (.if_icmp .eq 5, 3) := by decide +kernel
theorem dL_law_618 : decode cL_law 618 = .ok (.iconst 0, 1) := by decide +kernel
theorem dL_law_619 : decode cL_law 619 = .ok (.ireturn, 1) := by decide +kernel
theorem dL_law_620 : decode cL_law 620 = .ok (.iload 5, 2) := by decide +kernel
theorem dL_law_622 : decode cL_law 622 = .ok (.ifCond .ne 15, 3) := by decide +kernel
theorem dL_law_625 : decode cL_law 625 = .ok (.aload_n 3, 1) := by decide +kernel
theorem dL_law_626 : decode cL_law 626 = .ok (.iconst 0, 1) := by decide +kernel
theorem dL_law_627 : decode cL_law 627 = .ok (.laload, 1) := by decide +kernel
theorem dL_law_628 : decode cL_law 628 = .ok (.iload 6, 2) := by decide +kernel
theorem dL_law_630 : decode cL_law 630 = .ok (.i2l, 1) := by decide +kernel
theorem dL_law_631 : decode cL_law 631 = .ok (.lcmp, 1) := by decide +kernel
theorem dL_law_632 : decode cL_law 632 = .ok (.ifCond .eq 5, 3) := by decide +kernel
theorem dL_law_635 : decode cL_law 635 = .ok (.iconst 0, 1) := by decide +kernel
theorem dL_law_636 : decode cL_law 636 = .ok (.ireturn, 1) := by decide +kernel
theorem dL_law_637 : decode cL_law 637 = .ok (.goto 784, 3) := by decide +kernel
theorem dL_law_640 : decode cL_law 640 = .ok (.aload_n 1, 1) := by decide +kernel
theorem dL_law_641 : decode cL_law 641 = .ok (.aload_n 0, 1) := by decide +kernel
theorem dL_law_642 : decode cL_law 642 = .ok (.iload 4, 2) := by decide +kernel
theorem dL_law_644 : decode cL_law 644 = .ok (.iconst 1, 1) := by decide +kernel
theorem dL_law_645 : decode cL_law 645 = .ok (.iadd, 1) := by decide +kernel
theorem dL_law_646 : decode cL_law 646 = .ok (.iaload, 1) := by decide +kernel
theorem dL_law_647 : decode cL_law 647 = .ok (.aload_n 3, 1) := by decide +kernel
theorem dL_law_648 : decode cL_law 648 = .ok (.invokestatic 112, 3) := by decide +kernel
theorem dL_law_651 : decode cL_law 651 = .ok (.istore 5, 2) := by decide +kernel
theorem dL_law_653 : decode cL_law 653 = .ok (.aload_n 2, 1) := by decide +kernel
theorem dL_law_654 : decode cL_law 654 = .ok (.aload_n 0, 1) := by decide +kernel
theorem dL_law_655 : decode cL_law 655 = .ok (.iload 4, 2) := by decide +kernel
theorem dL_law_657 : decode cL_law 657 = .ok (.iconst 1, 1) := by decide +kernel
theorem dL_law_658 : decode cL_law 658 = .ok (.iadd, 1) := by decide +kernel
theorem dL_law_659 : decode cL_law 659 = .ok (.iaload, 1) := by decide +kernel
theorem dL_law_660 : decode cL_law 660 = .ok (.invokevirtual 114, 3) := by decide +kernel
theorem dL_law_663 : decode cL_law 663 = .ok (.istore 6, 2) := by decide +kernel
theorem dL_law_665 : decode cL_law 665 = .ok (.aload_n 2, 1) := by decide +kernel
theorem dL_law_666 : decode cL_law 666 = .ok (.invokevirtual 90, 3) := by decide +kernel
theorem dL_law_669 : decode cL_law 669 = .ok (.iload 5, 2) := by decide +kernel
theorem dL_law_671 : decode cL_law 671 = .ok (.if_icmp .eq 5, 3) := by decide +kernel
theorem dL_law_674 : decode cL_law 674 = .ok (.iconst 0, 1) := by decide +kernel
theorem dL_law_675 : decode cL_law 675 = .ok (.ireturn, 1) := by decide +kernel
theorem dL_law_676 : decode cL_law 676 = .ok (.iload 5, 2) := by decide +kernel
theorem dL_law_678 : decode cL_law 678 = .ok (.ifCond .ne 15, 3) := by decide +kernel
theorem dL_law_681 : decode cL_law 681 = .ok (.aload_n 3, 1) := by decide +kernel
theorem dL_law_682 : decode cL_law 682 = .ok (.iconst 0, 1) := by decide +kernel
theorem dL_law_683 : decode cL_law 683 = .ok (.laload, 1) := by decide +kernel
theorem dL_law_684 : decode cL_law 684 = .ok (.iload 6, 2) := by decide +kernel
theorem dL_law_686 : decode cL_law 686 = .ok (.i2l, 1) := by decide +kernel
theorem dL_law_687 : decode cL_law 687 = .ok (.lcmp, 1) := by decide +kernel
theorem dL_law_688 : decode cL_law 688 = .ok (.ifCond .eq 5, 3) := by decide +kernel
theorem dL_law_691 : decode cL_law 691 = .ok (.iconst 0, 1) := by decide +kernel
theorem dL_law_692 : decode cL_law 692 = .ok (.ireturn, 1) := by decide +kernel
theorem dL_law_693 : decode cL_law 693 = .ok (.goto 728, 3) := by decide +kernel
theorem dL_law_696 : decode cL_law 696 = .ok (.aload_n 1, 1) := by decide +kernel
theorem dL_law_697 : decode cL_law 697 = .ok (.aload_n 0, 1) := by decide +kernel
theorem dL_law_698 : decode cL_law 698 = .ok (.iload 4, 2) := by decide +kernel
theorem dL_law_700 : decode cL_law 700 = .ok (.iconst 1, 1) := by decide +kernel
theorem dL_law_701 : decode cL_law 701 = .ok (.iadd, 1) := by decide +kernel
theorem dL_law_702 : decode cL_law 702 = .ok (.iaload, 1) := by decide +kernel
theorem dL_law_703 : decode cL_law 703 = .ok (.aload_n 0, 1) := by decide +kernel
theorem dL_law_704 : decode cL_law 704 = .ok (.iload 4, 2) := by decide +kernel
theorem dL_law_706 : decode cL_law 706 = .ok (.iconst 2, 1) := by decide +kernel
theorem dL_law_707 : decode cL_law 707 = .ok (.iadd, 1) := by decide +kernel
theorem dL_law_708 : decode cL_law 708 = .ok (.iaload, 1) := by decide +kernel
theorem dL_law_709 : decode cL_law 709 = .ok (.aload_n 3, 1) := by decide +kernel
theorem dL_law_710 : decode cL_law 710 = .ok (.invokestatic 115, 3) := by decide +kernel
theorem dL_law_713 : decode cL_law 713 = .ok (.istore 5, 2) := by decide +kernel
theorem dL_law_715 : decode cL_law 715 = .ok (.aload_n 2, 1) := by decide +kernel
theorem dL_law_716 : decode cL_law 716 = .ok (.aload_n 0, 1) := by decide +kernel
theorem dL_law_717 : decode cL_law 717 = .ok (.iload 4, 2) := by decide +kernel
theorem dL_law_719 : decode cL_law 719 = .ok (.iconst 1, 1) := by decide +kernel
theorem dL_law_720 : decode cL_law 720 = .ok (.iadd, 1) := by decide +kernel
theorem dL_law_721 : decode cL_law 721 = .ok (.iaload, 1) := by decide +kernel
theorem dL_law_722 : decode cL_law 722 = .ok (.aload_n 0, 1) := by decide +kernel
theorem dL_law_723 : decode cL_law 723 = .ok (.iload 4, 2) := by decide +kernel
theorem dL_law_725 : decode cL_law 725 = .ok (.iconst 2, 1) := by decide +kernel
theorem dL_law_726 : decode cL_law 726 = .ok (.iadd, 1) := by decide +kernel
theorem dL_law_727 : decode cL_law 727 = .ok (.iaload, 1) := by decide +kernel
theorem dL_law_728 : decode cL_law 728 = .ok (.invokevirtual 117, 3) := by decide +kernel
theorem dL_law_731 : decode cL_law 731 = .ok (.istore 6, 2) := by decide +kernel
theorem dL_law_733 : decode cL_law 733 = .ok (.aload_n 2, 1) := by decide +kernel
theorem dL_law_734 : decode cL_law 734 = .ok (.invokevirtual 90, 3) := by decide +kernel
theorem dL_law_737 : decode cL_law 737 = .ok (.iload 5, 2) := by decide +kernel
theorem dL_law_739 : decode cL_law 739 = .ok (.if_icmp .eq 5, 3) := by decide +kernel
theorem dL_law_742 : decode cL_law 742 = .ok (.iconst 0, 1) := by decide +kernel
theorem dL_law_743 : decode cL_law 743 = .ok (.ireturn, 1) := by decide +kernel
theorem dL_law_744 : decode cL_law 744 = .ok (.iload 5, 2) := by decide +kernel
theorem dL_law_746 : decode cL_law 746 = .ok (.ifCond .ne 15, 3) := by decide +kernel
theorem dL_law_749 : decode cL_law 749 = .ok (.aload_n 3, 1) := by decide +kernel
theorem dL_law_750 : decode cL_law 750 = .ok (.iconst 0, 1) := by decide +kernel
theorem dL_law_751 : decode cL_law 751 = .ok (.laload, 1) := by decide +kernel
theorem dL_law_752 : decode cL_law 752 = .ok (.iload 6, 2) := by decide +kernel
theorem dL_law_754 : decode cL_law 754 = .ok (.i2l, 1) := by decide +kernel
theorem dL_law_755 : decode cL_law 755 = .ok (.lcmp, 1) := by decide +kernel
theorem dL_law_756 : decode cL_law 756 = .ok (.ifCond .eq 5, 3) := by decide +kernel
theorem dL_law_759 : decode cL_law 759 = .ok (.iconst 0, 1) := by decide +kernel
theorem dL_law_760 : decode cL_law 760 = .ok (.ireturn, 1) := by decide +kernel
theorem dL_law_761 : decode cL_law 761 = .ok (.goto 660, 3) := by decide +kernel
theorem dL_law_764 : decode cL_law 764 = .ok (.aload_n 1, 1) := by decide +kernel
theorem dL_law_765 : decode cL_law 765 = .ok (.aload_n 0, 1) := by decide +kernel
theorem dL_law_766 : decode cL_law 766 = .ok (.iload 4, 2) := by decide +kernel
theorem dL_law_768 : decode cL_law 768 = .ok (.iconst 1, 1) := by decide +kernel
theorem dL_law_769 : decode cL_law 769 = .ok (.iadd, 1) := by decide +kernel
theorem dL_law_770 : decode cL_law 770 = .ok (.iaload, 1) := by decide +kernel
theorem dL_law_771 : decode cL_law 771 = .ok (.aload_n 0, 1) := by decide +kernel
theorem dL_law_772 : decode cL_law 772 = .ok (.iload 4, 2) := by decide +kernel
theorem dL_law_774 : decode cL_law 774 = .ok (.iconst 2, 1) := by decide +kernel
theorem dL_law_775 : decode cL_law 775 = .ok (.iadd, 1) := by decide +kernel
theorem dL_law_776 : decode cL_law 776 = .ok (.iaload, 1) := by decide +kernel
theorem dL_law_777 : decode cL_law 777 = .ok (.aload_n 3, 1) := by decide +kernel
theorem dL_law_778 : decode cL_law 778 = .ok (.invokestatic 118, 3) := by decide +kernel
theorem dL_law_781 : decode cL_law 781 = .ok (.istore 5, 2) := by decide +kernel
theorem dL_law_783 : decode cL_law 783 = .ok (.aload_n 2, 1) := by decide +kernel
theorem dL_law_784 : decode cL_law 784 = .ok (.aload_n 0, 1) := by decide +kernel
theorem dL_law_785 : decode cL_law 785 = .ok (.iload 4, 2) := by decide +kernel
theorem dL_law_787 : decode cL_law 787 = .ok (.iconst 1, 1) := by decide +kernel
theorem dL_law_788 : decode cL_law 788 = .ok (.iadd, 1) := by decide +kernel
theorem dL_law_789 : decode cL_law 789 = .ok (.iaload, 1) := by decide +kernel
theorem dL_law_790 : decode cL_law 790 = .ok (.aload_n 0, 1) := by decide +kernel
theorem dL_law_791 : decode cL_law 791 = .ok (.iload 4, 2) := by decide +kernel
theorem dL_law_793 : decode cL_law 793 = .ok (.iconst 2, 1) := by decide +kernel
theorem dL_law_794 : decode cL_law 794 = .ok (.iadd, 1) := by decide +kernel
theorem dL_law_795 : decode cL_law 795 = .ok (.iaload, 1) := by decide +kernel
theorem dL_law_796 : decode cL_law 796 = .ok (.invokevirtual 120, 3) := by decide +kernel
theorem dL_law_799 : decode cL_law 799 = .ok (.istore 6, 2) := by decide +kernel
theorem dL_law_801 : decode cL_law 801 = .ok (.aload_n 2, 1) := by decide +kernel
theorem dL_law_802 : decode cL_law 802 = .ok (.invokevirtual 90, 3) := by decide +kernel
theorem dL_law_805 : decode cL_law 805 = .ok (.iload 5, 2) := by decide +kernel
theorem dL_law_807 : decode cL_law 807 = .ok (.if_icmp .eq 5, 3) := by decide +kernel
theorem dL_law_810 : decode cL_law 810 = .ok (.iconst 0, 1) := by decide +kernel
theorem dL_law_811 : decode cL_law 811 = .ok (.ireturn, 1) := by decide +kernel
theorem dL_law_812 : decode cL_law 812 = .ok (.iload 5, 2) := by decide +kernel
theorem dL_law_814 : decode cL_law 814 = .ok (.ifCond .ne 15, 3) := by decide +kernel
theorem dL_law_817 : decode cL_law 817 = .ok (.aload_n 3, 1) := by decide +kernel
theorem dL_law_818 : decode cL_law 818 = .ok (.iconst 0, 1) := by decide +kernel
theorem dL_law_819 : decode cL_law 819 = .ok (.laload, 1) := by decide +kernel
theorem dL_law_820 : decode cL_law 820 = .ok (.iload 6, 2) := by decide +kernel
theorem dL_law_822 : decode cL_law 822 = .ok (.i2l, 1) := by decide +kernel
theorem dL_law_823 : decode cL_law 823 = .ok (.lcmp, 1) := by decide +kernel
theorem dL_law_824 : decode cL_law 824 = .ok (.ifCond .eq 5, 3) := by decide +kernel
theorem dL_law_827 : decode cL_law 827 = .ok (.iconst 0, 1) := by decide +kernel
theorem dL_law_828 : decode cL_law 828 = .ok (.ireturn, 1) := by decide +kernel
theorem dL_law_829 : decode cL_law 829 = .ok (.goto 592, 3) := by decide +kernel
theorem dL_law_832 : decode cL_law 832 = .ok (.aload_n 1, 1) := by decide +kernel
theorem dL_law_833 : decode cL_law 833 = .ok (.aload_n 0, 1) := by decide +kernel
theorem dL_law_834 : decode cL_law 834 = .ok (.iload 4, 2) := by decide +kernel
theorem dL_law_836 : decode cL_law 836 = .ok (.iconst 1, 1) := by decide +kernel
theorem dL_law_837 : decode cL_law 837 = .ok (.iadd, 1) := by decide +kernel
theorem dL_law_838 : decode cL_law 838 = .ok (.iaload, 1) := by decide +kernel
theorem dL_law_839 : decode cL_law 839 = .ok (.aload_n 3, 1) := by decide +kernel
theorem dL_law_840 : decode cL_law 840 = .ok (.invokestatic 121, 3) := by decide +kernel
theorem dL_law_843 : decode cL_law 843 = .ok (.istore 5, 2) := by decide +kernel
theorem dL_law_845 : decode cL_law 845 = .ok (.aload_n 2, 1) := by decide +kernel
theorem dL_law_846 : decode cL_law 846 = .ok (.aload_n 0, 1) := by decide +kernel
theorem dL_law_847 : decode cL_law 847 = .ok (.iload 4, 2) := by decide +kernel
theorem dL_law_849 : decode cL_law 849 = .ok (.iconst 1, 1) := by decide +kernel
theorem dL_law_850 : decode cL_law 850 = .ok (.iadd, 1) := by decide +kernel
theorem dL_law_851 : decode cL_law 851 = .ok (.iaload, 1) := by decide +kernel
theorem dL_law_852 : decode cL_law 852 = .ok (.invokevirtual 123, 3) := by decide +kernel
theorem dL_law_855 : decode cL_law 855 = .ok (.istore 6, 2) := by decide +kernel
theorem dL_law_857 : decode cL_law 857 = .ok (.aload_n 2, 1) := by decide +kernel
theorem dL_law_858 : decode cL_law 858 = .ok (.invokevirtual 90, 3) := by decide +kernel
theorem dL_law_861 : decode cL_law 861 = .ok (.iload 5, 2) := by decide +kernel
theorem dL_law_863 : decode cL_law 863 = .ok (.if_icmp .eq 5, 3) := by decide +kernel
theorem dL_law_866 : decode cL_law 866 = .ok (.iconst 0, 1) := by decide +kernel
theorem dL_law_867 : decode cL_law 867 = .ok (.ireturn, 1) := by decide +kernel
theorem dL_law_868 : decode cL_law 868 = .ok (.iload 5, 2) := by decide +kernel
theorem dL_law_870 : decode cL_law 870 = .ok (.ifCond .ne 15, 3) := by decide +kernel
theorem dL_law_873 : decode cL_law 873 = .ok (.aload_n 3, 1) := by decide +kernel
theorem dL_law_874 : decode cL_law 874 = .ok (.iconst 0, 1) := by decide +kernel
theorem dL_law_875 : decode cL_law 875 = .ok (.laload, 1) := by decide +kernel
theorem dL_law_876 : decode cL_law 876 = .ok (.iload 6, 2) := by decide +kernel
theorem dL_law_878 : decode cL_law 878 = .ok (.i2l, 1) := by decide +kernel
theorem dL_law_879 : decode cL_law 879 = .ok (.lcmp, 1) := by decide +kernel
theorem dL_law_880 : decode cL_law 880 = .ok (.ifCond .eq 5, 3) := by decide +kernel
theorem dL_law_883 : decode cL_law 883 = .ok (.iconst 0, 1) := by decide +kernel
theorem dL_law_884 : decode cL_law 884 = .ok (.ireturn, 1) := by decide +kernel
theorem dL_law_885 : decode cL_law 885 = .ok (.goto 536, 3) := by decide +kernel
theorem dL_law_888 : decode cL_law 888 = .ok (.aload_n 1, 1) := by decide +kernel
theorem dL_law_889 : decode cL_law 889 = .ok (.aload_n 0, 1) := by decide +kernel
theorem dL_law_890 : decode cL_law 890 = .ok (.iload 4, 2) := by decide +kernel
theorem dL_law_892 : decode cL_law 892 = .ok (.iconst 1, 1) := by decide +kernel
theorem dL_law_893 : decode cL_law 893 = .ok (.iadd, 1) := by decide +kernel
theorem dL_law_894 : decode cL_law 894 = .ok (.iaload, 1) := by decide +kernel
theorem dL_law_895 : decode cL_law 895 = .ok (.aload_n 3, 1) := by decide +kernel
theorem dL_law_896 : decode cL_law 896 = .ok (.invokestatic 124, 3) := by decide +kernel
theorem dL_law_899 : decode cL_law 899 = .ok (.istore 5, 2) := by decide +kernel
theorem dL_law_901 : decode cL_law 901 = .ok (.aload_n 2, 1) := by decide +kernel
theorem dL_law_902 : decode cL_law 902 = .ok (.aload_n 0, 1) := by decide +kernel
theorem dL_law_903 : decode cL_law 903 = .ok (.iload 4, 2) := by decide +kernel
theorem dL_law_905 : decode cL_law 905 = .ok (.iconst 1, 1) := by decide +kernel
theorem dL_law_906 : decode cL_law 906 = .ok (.iadd, 1) := by decide +kernel
theorem dL_law_907 : decode cL_law 907 = .ok (.iaload, 1) := by decide +kernel
theorem dL_law_908 : decode cL_law 908 = .ok (.invokevirtual 126, 3) := by decide +kernel
theorem dL_law_911 : decode cL_law 911 = .ok (.istore 6, 2) := by decide +kernel
theorem dL_law_913 : decode cL_law 913 = .ok (.aload_n 2, 1) := by decide +kernel
theorem dL_law_914 : decode cL_law 914 = .ok (.invokevirtual 90, 3) := by decide +kernel
theorem dL_law_917 : decode cL_law 917 = .ok (.iload 5, 2) := by decide +kernel
theorem dL_law_919 : decode cL_law 919 = .ok (.if_icmp .eq 5, 3) := by decide +kernel
theorem dL_law_922 : decode cL_law 922 = .ok (.iconst 0, 1) := by decide +kernel
theorem dL_law_923 : decode cL_law 923 = .ok (.ireturn, 1) := by decide +kernel
theorem dL_law_924 : decode cL_law 924 = .ok (.iload 5, 2) := by decide +kernel
theorem dL_law_926 : decode cL_law 926 = .ok (.ifCond .ne 15, 3) := by decide +kernel
theorem dL_law_929 : decode cL_law 929 = .ok (.aload_n 3, 1) := by decide +kernel
theorem dL_law_930 : decode cL_law 930 = .ok (.iconst 0, 1) := by decide +kernel
theorem dL_law_931 : decode cL_law 931 = .ok (.laload, 1) := by decide +kernel
theorem dL_law_932 : decode cL_law 932 = .ok (.iload 6, 2) := by decide +kernel
theorem dL_law_934 : decode cL_law 934 = .ok (.i2l, 1) := by decide +kernel
theorem dL_law_935 : decode cL_law 935 = .ok (.lcmp, 1) := by decide +kernel
theorem dL_law_936 : decode cL_law 936 = .ok (.ifCond .eq 5, 3) := by decide +kernel
theorem dL_law_939 : decode cL_law 939 = .ok (.iconst 0, 1) := by decide +kernel
theorem dL_law_940 : decode cL_law 940 = .ok (.ireturn, 1) := by decide +kernel
theorem dL_law_941 : decode cL_law 941 = .ok (.goto 480, 3) := by decide +kernel
theorem dL_law_944 : decode cL_law 944 = .ok (.aload_n 1, 1) := by decide +kernel
theorem dL_law_945 : decode cL_law 945 = .ok (.aload_n 0, 1) := by decide +kernel
theorem dL_law_946 : decode cL_law 946 = .ok (.iload 4, 2) := by decide +kernel
theorem dL_law_948 : decode cL_law 948 = .ok (.iconst 1, 1) := by decide +kernel
theorem dL_law_949 : decode cL_law 949 = .ok (.iadd, 1) := by decide +kernel
theorem dL_law_950 : decode cL_law 950 = .ok (.iaload, 1) := by decide +kernel
theorem dL_law_951 : decode cL_law 951 = .ok (.aload_n 3, 1) := by decide +kernel
theorem dL_law_952 : decode cL_law 952 = .ok (.invokestatic 127, 3) := by decide +kernel
theorem dL_law_955 : decode cL_law 955 = .ok (.istore 5, 2) := by decide +kernel
theorem dL_law_957 : decode cL_law 957 = .ok (.aload_n 2, 1) := by decide +kernel
theorem dL_law_958 : decode cL_law 958 = .ok (.aload_n 0, 1) := by decide +kernel
theorem dL_law_959 : decode cL_law 959 = .ok (.iload 4, 2) := by decide +kernel
theorem dL_law_961 : decode cL_law 961 = .ok (.iconst 1, 1) := by decide +kernel
theorem dL_law_962 : decode cL_law 962 = .ok (.iadd, 1) := by decide +kernel
theorem dL_law_963 : decode cL_law 963 = .ok (.iaload, 1) := by decide +kernel
theorem dL_law_964 : decode cL_law 964 = .ok (.invokevirtual 129, 3) := by decide +kernel
theorem dL_law_967 : decode cL_law 967 = .ok (.istore 6, 2) := by decide +kernel
theorem dL_law_969 : decode cL_law 969 = .ok (.aload_n 2, 1) := by decide +kernel
theorem dL_law_970 : decode cL_law 970 = .ok (.invokevirtual 90, 3) := by decide +kernel
theorem dL_law_973 : decode cL_law 973 = .ok (.iload 5, 2) := by decide +kernel
theorem dL_law_975 : decode cL_law 975 = .ok (.if_icmp .eq 5, 3) := by decide +kernel
theorem dL_law_978 : decode cL_law 978 = .ok (.iconst 0, 1) := by decide +kernel
theorem dL_law_979 : decode cL_law 979 = .ok (.ireturn, 1) := by decide +kernel
theorem dL_law_980 : decode cL_law 980 = .ok (.iload 5, 2) := by decide +kernel
theorem dL_law_982 : decode cL_law 982 = .ok (.ifCond .ne 15, 3) := by decide +kernel
theorem dL_law_985 : decode cL_law 985 = .ok (.aload_n 3, 1) := by decide +kernel
theorem dL_law_986 : decode cL_law 986 = .ok (.iconst 0, 1) := by decide +kernel
theorem dL_law_987 : decode cL_law 987 = .ok (.laload, 1) := by decide +kernel
theorem dL_law_988 : decode cL_law 988 = .ok (.iload 6, 2) := by decide +kernel
theorem dL_law_990 : decode cL_law 990 = .ok (.i2l, 1) := by decide +kernel
theorem dL_law_991 : decode cL_law 991 = .ok (.lcmp, 1) := by decide +kernel
theorem dL_law_992 : decode cL_law 992 = .ok (.ifCond .eq 5, 3) := by decide +kernel
theorem dL_law_995 : decode cL_law 995 = .ok (.iconst 0, 1) := by decide +kernel
theorem dL_law_996 : decode cL_law 996 = .ok (.ireturn, 1) := by decide +kernel
theorem dL_law_997 : decode cL_law 997 = .ok (.goto 424, 3) := by decide +kernel
theorem dL_law_1000 : decode cL_law 1000 = .ok (.aload_n 1, 1) := by decide +kernel
theorem dL_law_1001 : decode cL_law 1001 = .ok (.aload_n 0, 1) := by decide +kernel
theorem dL_law_1002 : decode cL_law 1002 = .ok (.iload 4, 2) := by decide +kernel
theorem dL_law_1004 : decode cL_law 1004 = .ok (.iconst 1, 1) := by decide +kernel
theorem dL_law_1005 : decode cL_law 1005 = .ok (.iadd, 1) := by decide +kernel
theorem dL_law_1006 : decode cL_law 1006 = .ok (.iaload, 1) := by decide +kernel
theorem dL_law_1007 : decode cL_law 1007 = .ok (.aload_n 0, 1) := by decide +kernel
theorem dL_law_1008 : decode cL_law 1008 = .ok (.iload 4, 2) := by decide +kernel
theorem dL_law_1010 : decode cL_law 1010 = .ok (.iconst 2, 1) := by decide +kernel
theorem dL_law_1011 : decode cL_law 1011 = .ok (.iadd, 1) := by decide +kernel
theorem dL_law_1012 : decode cL_law 1012 = .ok (.iaload, 1) := by decide +kernel
theorem dL_law_1013 : decode cL_law 1013 = .ok (.aload_n 3, 1) := by decide +kernel
theorem dL_law_1014 : decode cL_law 1014 = .ok (.invokestatic 130, 3) := by decide +kernel
theorem dL_law_1017 : decode cL_law 1017 = .ok (.istore 5, 2) := by decide +kernel
theorem dL_law_1019 : decode cL_law 1019 = .ok (.aload_n 2, 1) := by decide +kernel
theorem dL_law_1020 : decode cL_law 1020 = .ok (.aload_n 0, 1) := by decide +kernel
theorem dL_law_1021 : decode cL_law 1021 = .ok (.iload 4, 2) := by decide +kernel
theorem dL_law_1023 : decode cL_law 1023 = .ok (.iconst 1, 1) := by decide +kernel
theorem dL_law_1024 : decode cL_law 1024 = .ok (.iadd, 1) := by decide +kernel
theorem dL_law_1025 : decode cL_law 1025 = .ok (.iaload, 1) := by decide +kernel
theorem dL_law_1026 : decode cL_law 1026 = .ok (.aload_n 0, 1) := by decide +kernel
theorem dL_law_1027 : decode cL_law 1027 = .ok (.iload 4, 2) := by decide +kernel
theorem dL_law_1029 : decode cL_law 1029 = .ok (.iconst 2, 1) := by decide +kernel
theorem dL_law_1030 : decode cL_law 1030 = .ok (.iadd, 1) := by decide +kernel
theorem dL_law_1031 : decode cL_law 1031 = .ok (.iaload, 1) := by decide +kernel
theorem dL_law_1032 : decode cL_law 1032 = .ok (.invokevirtual 132, 3) := by decide +kernel
theorem dL_law_1035 : decode cL_law 1035 = .ok (.istore 6, 2) := by decide +kernel
theorem dL_law_1037 : decode cL_law 1037 = .ok (.aload_n 2, 1) := by decide +kernel
theorem dL_law_1038 : decode cL_law 1038 = .ok (.invokevirtual 90, 3) := by decide +kernel
theorem dL_law_1041 : decode cL_law 1041 = .ok (.iload 5, 2) := by decide +kernel
theorem dL_law_1043 : decode cL_law 1043 = .ok (.if_icmp .eq 5, 3) := by decide +kernel
theorem dL_law_1046 : decode cL_law 1046 = .ok (.iconst 0, 1) := by decide +kernel
theorem dL_law_1047 : decode cL_law 1047 = .ok (.ireturn, 1) := by decide +kernel
theorem dL_law_1048 : decode cL_law 1048 = .ok (.iload 5, 2) := by decide +kernel
theorem dL_law_1050 : decode cL_law 1050 = .ok (.ifCond .ne 15, 3) := by decide +kernel
theorem dL_law_1053 : decode cL_law 1053 = .ok (.aload_n 3, 1) := by decide +kernel
theorem dL_law_1054 : decode cL_law 1054 = .ok (.iconst 0, 1) := by decide +kernel
theorem dL_law_1055 : decode cL_law 1055 = .ok (.laload, 1) := by decide +kernel
theorem dL_law_1056 : decode cL_law 1056 = .ok (.iload 6, 2) := by decide +kernel
theorem dL_law_1058 : decode cL_law 1058 = .ok (.i2l, 1) := by decide +kernel
theorem dL_law_1059 : decode cL_law 1059 = .ok (.lcmp, 1) := by decide +kernel
theorem dL_law_1060 : decode cL_law 1060 = .ok (.ifCond .eq 5, 3) := by decide +kernel
theorem dL_law_1063 : decode cL_law 1063 = .ok (.iconst 0, 1) := by decide +kernel
theorem dL_law_1064 : decode cL_law 1064 = .ok (.ireturn, 1) := by decide +kernel
theorem dL_law_1065 : decode cL_law 1065 = .ok (.goto 356, 3) := by decide +kernel
theorem dL_law_1068 : decode cL_law 1068 = .ok (.aload_n 1, 1) := by decide +kernel
theorem dL_law_1069 : decode cL_law 1069 = .ok (.aload_n 0, 1) := by decide +kernel
theorem dL_law_1070 : decode cL_law 1070 = .ok (.iload 4, 2) := by decide +kernel
theorem dL_law_1072 : decode cL_law 1072 = .ok (.iconst 1, 1) := by decide +kernel
theorem dL_law_1073 : decode cL_law 1073 = .ok (.iadd, 1) := by decide +kernel
theorem dL_law_1074 : decode cL_law 1074 = .ok (.iaload, 1) := by decide +kernel
theorem dL_law_1075 : decode cL_law 1075 = .ok (.aload_n 3, 1) := by decide +kernel
theorem dL_law_1076 : decode cL_law 1076 = .ok (.invokestatic 133, 3) := by decide +kernel
theorem dL_law_1079 : decode cL_law 1079 = .ok (.istore 5, 2) := by decide +kernel
theorem dL_law_1081 : decode cL_law 1081 = .ok (.aload_n 2, 1) := by decide +kernel
theorem dL_law_1082 : decode cL_law 1082 = .ok (.aload_n 0, 1) := by decide +kernel
theorem dL_law_1083 : decode cL_law 1083 = .ok (.iload 4, 2) := by decide +kernel
theorem dL_law_1085 : decode cL_law 1085 = .ok (.iconst 1, 1) := by decide +kernel
theorem dL_law_1086 : decode cL_law 1086 = .ok (.iadd, 1) := by decide +kernel
theorem dL_law_1087 : decode cL_law 1087 = .ok (.iaload, 1) := by decide +kernel
theorem dL_law_1088 : decode cL_law 1088 = .ok (.invokevirtual 135, 3) := by decide +kernel
theorem dL_law_1091 : decode cL_law 1091 = .ok (.istore 6, 2) := by decide +kernel
theorem dL_law_1093 : decode cL_law 1093 = .ok (.aload_n 2, 1) := by decide +kernel
theorem dL_law_1094 : decode cL_law 1094 = .ok (.invokevirtual 90, 3) := by decide +kernel
theorem dL_law_1097 : decode cL_law 1097 = .ok (.iload 5, 2) := by decide +kernel
theorem dL_law_1099 : decode cL_law 1099 = .ok (.if_icmp .eq 5, 3) := by decide +kernel
theorem dL_law_1102 : decode cL_law 1102 = .ok (.iconst 0, 1) := by decide +kernel
theorem dL_law_1103 : decode cL_law 1103 = .ok (.ireturn, 1) := by decide +kernel
theorem dL_law_1104 : decode cL_law 1104 = .ok (.iload 5, 2) := by decide +kernel
theorem dL_law_1106 : decode cL_law 1106 = .ok (.ifCond .ne 15, 3) := by decide +kernel
theorem dL_law_1109 : decode cL_law 1109 = .ok (.aload_n 3, 1) := by decide +kernel
theorem dL_law_1110 : decode cL_law 1110 = .ok (.iconst 0, 1) := by decide +kernel
theorem dL_law_1111 : decode cL_law 1111 = .ok (.laload, 1) := by decide +kernel
theorem dL_law_1112 : decode cL_law 1112 = .ok (.iload 6, 2) := by decide +kernel
theorem dL_law_1114 : decode cL_law 1114 = .ok (.i2l, 1) := by decide +kernel
theorem dL_law_1115 : decode cL_law 1115 = .ok (.lcmp, 1) := by decide +kernel
theorem dL_law_1116 : decode cL_law 1116 = .ok (.ifCond .eq 5, 3) := by decide +kernel
theorem dL_law_1119 : decode cL_law 1119 = .ok (.iconst 0, 1) := by decide +kernel
theorem dL_law_1120 : decode cL_law 1120 = .ok (.ireturn, 1) := by decide +kernel
theorem dL_law_1121 : decode cL_law 1121 = .ok (.goto 300, 3) := by decide +kernel
theorem dL_law_1124 : decode cL_law 1124 = .ok (.aload_n 1, 1) := by decide +kernel
theorem dL_law_1125 : decode cL_law 1125 = .ok (.aload_n 0, 1) := by decide +kernel
theorem dL_law_1126 : decode cL_law 1126 = .ok (.iload 4, 2) := by decide +kernel
theorem dL_law_1128 : decode cL_law 1128 = .ok (.iconst 1, 1) := by decide +kernel
theorem dL_law_1129 : decode cL_law 1129 = .ok (.iadd, 1) := by decide +kernel
theorem dL_law_1130 : decode cL_law 1130 = .ok (.iaload, 1) := by decide +kernel
theorem dL_law_1131 : decode cL_law 1131 = .ok (.aload_n 0, 1) := by decide +kernel
theorem dL_law_1132 : decode cL_law 1132 = .ok (.iload 4, 2) := by decide +kernel
theorem dL_law_1134 : decode cL_law 1134 = .ok (.iconst 2, 1) := by decide +kernel
theorem dL_law_1135 : decode cL_law 1135 = .ok (.iadd, 1) := by decide +kernel
theorem dL_law_1136 : decode cL_law 1136 = .ok (.iaload, 1) := by decide +kernel
theorem dL_law_1137 : decode cL_law 1137 = .ok (.aload_n 3, 1) := by decide +kernel
theorem dL_law_1138 : decode cL_law 1138 = .ok (.invokestatic 136, 3) := by decide +kernel
theorem dL_law_1141 : decode cL_law 1141 = .ok (.istore 5, 2) := by decide +kernel
theorem dL_law_1143 : decode cL_law 1143 = .ok (.aload_n 2, 1) := by decide +kernel
theorem dL_law_1144 : decode cL_law 1144 = .ok (.aload_n 0, 1) := by decide +kernel
theorem dL_law_1145 : decode cL_law 1145 = .ok (.iload 4, 2) := by decide +kernel
theorem dL_law_1147 : decode cL_law 1147 = .ok (.iconst 1, 1) := by decide +kernel
theorem dL_law_1148 : decode cL_law 1148 = .ok (.iadd, 1) := by decide +kernel
theorem dL_law_1149 : decode cL_law 1149 = .ok (.iaload, 1) := by decide +kernel
theorem dL_law_1150 : decode cL_law 1150 = .ok (.aload_n 0, 1) := by decide +kernel
theorem dL_law_1151 : decode cL_law 1151 = .ok (.iload 4, 2) := by decide +kernel
theorem dL_law_1153 : decode cL_law 1153 = .ok (.iconst 2, 1) := by decide +kernel
theorem dL_law_1154 : decode cL_law 1154 = .ok (.iadd, 1) := by decide +kernel
theorem dL_law_1155 : decode cL_law 1155 = .ok (.iaload, 1) := by decide +kernel
theorem dL_law_1156 : decode cL_law 1156 = .ok (.invokevirtual 138, 3) := by decide +kernel
theorem dL_law_1159 : decode cL_law 1159 = .ok (.istore 6, 2) := by decide +kernel
theorem dL_law_1161 : decode cL_law 1161 = .ok (.aload_n 2, 1) := by decide +kernel
theorem dL_law_1162 : decode cL_law 1162 = .ok (.invokevirtual 90, 3) := by decide +kernel
theorem dL_law_1165 : decode cL_law 1165 = .ok (.iload 5, 2) := by decide +kernel
theorem dL_law_1167 : decode cL_law 1167 = .ok (.if_icmp .eq 5, 3) := by decide +kernel
theorem dL_law_1170 : decode cL_law 1170 = .ok (.iconst 0, 1) := by decide +kernel
theorem dL_law_1171 : decode cL_law 1171 = .ok (.ireturn, 1) := by decide +kernel
theorem dL_law_1172 : decode cL_law 1172 = .ok (.iload 5, 2) := by decide +kernel
theorem dL_law_1174 : decode cL_law 1174 = .ok (.ifCond .ne 15, 3) := by decide +kernel
theorem dL_law_1177 : decode cL_law 1177 = .ok (.aload_n 3, 1) := by decide +kernel
theorem dL_law_1178 : decode cL_law 1178 = .ok (.iconst 0, 1) := by decide +kernel
theorem dL_law_1179 : decode cL_law 1179 = .ok (.laload, 1) := by decide +kernel
theorem dL_law_1180 : decode cL_law 1180 = .ok (.iload 6, 2) := by decide +kernel
theorem dL_law_1182 : decode cL_law 1182 = .ok (.i2l, 1) := by decide +kernel
theorem dL_law_1183 : decode cL_law 1183 = .ok (.lcmp, 1) := by decide +kernel
theorem dL_law_1184 : decode cL_law 1184 = .ok (.ifCond .eq 5, 3) := by decide +kernel
theorem dL_law_1187 : decode cL_law 1187 = .ok (.iconst 0, 1) := by decide +kernel
theorem dL_law_1188 : decode cL_law 1188 = .ok (.ireturn, 1) := by decide +kernel
theorem dL_law_1189 : decode cL_law 1189 = .ok (.goto 232, 3) := by decide +kernel
theorem dL_law_1192 : decode cL_law 1192 = .ok (.aload_n 1, 1) := by decide +kernel
theorem dL_law_1193 : decode cL_law 1193 = .ok (.aload_n 0, 1) := by decide +kernel
theorem dL_law_1194 : decode cL_law 1194 = .ok (.iload 4, 2) := by decide +kernel
theorem dL_law_1196 : decode cL_law 1196 = .ok (.iconst 1, 1) := by decide +kernel
theorem dL_law_1197 : decode cL_law 1197 = .ok (.iadd, 1) := by decide +kernel
theorem dL_law_1198 : decode cL_law 1198 = .ok (.iaload, 1) := by decide +kernel
theorem dL_law_1199 : decode cL_law 1199 = .ok (.aload_n 0, 1) := by decide +kernel
theorem dL_law_1200 : decode cL_law 1200 = .ok (.iload 4, 2) := by decide +kernel
theorem dL_law_1202 : decode cL_law 1202 = .ok (.iconst 2, 1) := by decide +kernel
theorem dL_law_1203 : decode cL_law 1203 = .ok (.iadd, 1) := by decide +kernel
theorem dL_law_1204 : decode cL_law 1204 = .ok (.iaload, 1) := by decide +kernel
theorem dL_law_1205 : decode cL_law 1205 = .ok (.aload_n 0, 1) := by decide +kernel
theorem dL_law_1206 : decode cL_law 1206 = .ok (.iload 4, 2) := by decide +kernel
theorem dL_law_1208 : decode cL_law 1208 = .ok (.iconst 3, 1) := by decide +kernel
theorem dL_law_1209 : decode cL_law 1209 = .ok (.iadd, 1) := by decide +kernel
theorem dL_law_1210 : decode cL_law 1210 = .ok (.iaload, 1) := by decide +kernel
theorem dL_law_1211 : decode cL_law 1211 = .ok (.aload_n 0, 1) := by decide +kernel
theorem dL_law_1212 : decode cL_law 1212 = .ok (.iload 4, 2) := by decide +kernel
theorem dL_law_1214 : decode cL_law 1214 = .ok (.iconst 4, 1) := by decide +kernel
theorem dL_law_1215 : decode cL_law 1215 = .ok (.iadd, 1) := by decide +kernel
theorem dL_law_1216 : decode cL_law 1216 = .ok (.iaload, 1) := by decide +kernel
theorem dL_law_1217 : decode cL_law 1217 = .ok (.aload_n 3, 1) := by decide +kernel
theorem dL_law_1218 : decode cL_law 1218 = .ok (.invokestatic 139, 3) := by decide +kernel
theorem dL_law_1221 : decode cL_law 1221 = .ok (.istore 5, 2) := by decide +kernel
theorem dL_law_1223 : decode cL_law 1223 = .ok (.aload_n 2, 1) := by decide +kernel
theorem dL_law_1224 : decode cL_law 1224 = .ok (.aload_n 0, 1) := by decide +kernel
theorem dL_law_1225 : decode cL_law 1225 = .ok (.iload 4, 2) := by decide +kernel
theorem dL_law_1227 : decode cL_law 1227 = .ok (.iconst 1, 1) := by decide +kernel
theorem dL_law_1228 : decode cL_law 1228 = .ok (.iadd, 1) := by decide +kernel
theorem dL_law_1229 : decode cL_law 1229 = .ok (.iaload, 1) := by decide +kernel
theorem dL_law_1230 : decode cL_law 1230 = .ok (.aload_n 0, 1) := by decide +kernel
theorem dL_law_1231 : decode cL_law 1231 = .ok (.iload 4, 2) := by decide +kernel
theorem dL_law_1233 : decode cL_law 1233 = .ok (.iconst 2, 1) := by decide +kernel
theorem dL_law_1234 : decode cL_law 1234 = .ok (.iadd, 1) := by decide +kernel
theorem dL_law_1235 : decode cL_law 1235 = .ok (.iaload, 1) := by decide +kernel
theorem dL_law_1236 : decode cL_law 1236 = .ok (.aload_n 0, 1) := by decide +kernel
theorem dL_law_1237 : decode cL_law 1237 = .ok (.iload 4, 2) := by decide +kernel
theorem dL_law_1239 : decode cL_law 1239 = .ok (.iconst 3, 1) := by decide +kernel
theorem dL_law_1240 : decode cL_law 1240 = .ok (.iadd, 1) := by decide +kernel
theorem dL_law_1241 : decode cL_law 1241 = .ok (.iaload, 1) := by decide +kernel
theorem dL_law_1242 : decode cL_law 1242 = .ok (.aload_n 0, 1) := by decide +kernel
theorem dL_law_1243 : decode cL_law 1243 = .ok (.iload 4, 2) := by decide +kernel
theorem dL_law_1245 : decode cL_law 1245 = .ok (.iconst 4, 1) := by decide +kernel
theorem dL_law_1246 : decode cL_law 1246 = .ok (.iadd, 1) := by decide +kernel
theorem dL_law_1247 : decode cL_law 1247 = .ok (.iaload, 1) := by decide +kernel
theorem dL_law_1248 : decode cL_law 1248 = .ok (.invokevirtual 142, 3) := by decide +kernel
theorem dL_law_1251 : decode cL_law 1251 = .ok (.istore 6, 2) := by decide +kernel
theorem dL_law_1253 : decode cL_law 1253 = .ok (.aload_n 2, 1) := by decide +kernel
theorem dL_law_1254 : decode cL_law 1254 = .ok (.invokevirtual 90, 3) := by decide +kernel
theorem dL_law_1257 : decode cL_law 1257 = .ok (.iload 5, 2) := by decide +kernel
theorem dL_law_1259 : decode cL_law 1259 = .ok (.if_icmp .eq 5, 3) := by decide +kernel
theorem dL_law_1262 : decode cL_law 1262 = .ok (.iconst 0, 1) := by decide +kernel
theorem dL_law_1263 : decode cL_law 1263 = .ok (.ireturn, 1) := by decide +kernel
theorem dL_law_1264 : decode cL_law 1264 = .ok (.iload 5, 2) := by decide +kernel
theorem dL_law_1266 : decode cL_law 1266 = .ok (.ifCond .ne 15, 3) := by decide +kernel
theorem dL_law_1269 : decode cL_law 1269 = .ok (.aload_n 3, 1) := by decide +kernel
theorem dL_law_1270 : decode cL_law 1270 = .ok (.iconst 0, 1) := by decide +kernel
theorem dL_law_1271 : decode cL_law 1271 = .ok (.laload, 1) := by decide +kernel
theorem dL_law_1272 : decode cL_law 1272 = .ok (.iload 6, 2) := by decide +kernel
theorem dL_law_1274 : decode cL_law 1274 = .ok (.i2l, 1) := by decide +kernel
theorem dL_law_1275 : decode cL_law 1275 = .ok (.lcmp, 1) := by decide +kernel
theorem dL_law_1276 : decode cL_law 1276 = .ok (.ifCond .eq 5, 3) := by decide +kernel
theorem dL_law_1279 : decode cL_law 1279 = .ok (.iconst 0, 1) := by decide +kernel
theorem dL_law_1280 : decode cL_law 1280 = .ok (.ireturn, 1) := by decide +kernel
theorem dL_law_1281 : decode cL_law 1281 = .ok (.goto 140, 3) := by decide +kernel
theorem dL_law_1284 : decode cL_law 1284 = .ok (.aload_n 1, 1) := by decide +kernel
theorem dL_law_1285 : decode cL_law 1285 = .ok (.invokevirtual 143, 3) := by decide +kernel
theorem dL_law_1288 : decode cL_law 1288 = .ok (.aload_n 2, 1) := by decide +kernel
theorem dL_law_1289 : decode cL_law 1289 = .ok (.invokevirtual 146, 3) := by decide +kernel
theorem dL_law_1292 : decode cL_law 1292 = .ok (.if_icmp .eq 129, 3) := by decide +kernel
theorem dL_law_1295 : decode cL_law 1295 = .ok (.iconst 0, 1) := by decide +kernel
theorem dL_law_1296 : decode cL_law 1296 = .ok (.ireturn, 1) := by decide +kernel
theorem dL_law_1297 : decode cL_law 1297 = .ok (.aload_n 1, 1) := by decide +kernel
theorem dL_law_1298 : decode cL_law 1298 = .ok (.aload_n 0, 1) := by decide +kernel
theorem dL_law_1299 : decode cL_law 1299 = .ok (.iload 4, 2) := by decide +kernel
theorem dL_law_1301 : decode cL_law 1301 = .ok (.iconst 1, 1) := by decide +kernel
theorem dL_law_1302 : decode cL_law 1302 = .ok (.iadd, 1) := by decide +kernel
theorem dL_law_1303 : decode cL_law 1303 = .ok (.iaload, 1) := by decide +kernel
theorem dL_law_1304 : decode cL_law 1304 = .ok (.aload_n 0, 1) := by decide +kernel
theorem dL_law_1305 : decode cL_law 1305 = .ok (.iload 4, 2) := by decide +kernel
theorem dL_law_1307 : decode cL_law 1307 = .ok (.iconst 2, 1) := by decide +kernel
theorem dL_law_1308 : decode cL_law 1308 = .ok (.iadd, 1) := by decide +kernel
theorem dL_law_1309 : decode cL_law 1309 = .ok (.iaload, 1) := by decide +kernel
theorem dL_law_1310 : decode cL_law 1310 = .ok (.aload_n 3, 1) := by decide +kernel
theorem dL_law_1311 : decode cL_law 1311 = .ok (.invokestatic 147, 3) := by decide +kernel
theorem dL_law_1314 : decode cL_law 1314 = .ok (.istore 5, 2) := by decide +kernel
theorem dL_law_1316 : decode cL_law 1316 = .ok (.aload_n 2, 1) := by decide +kernel
theorem dL_law_1317 : decode cL_law 1317 = .ok (.aload_n 0, 1) := by decide +kernel
theorem dL_law_1318 : decode cL_law 1318 = .ok (.iload 4, 2) := by decide +kernel
theorem dL_law_1320 : decode cL_law 1320 = .ok (.iconst 1, 1) := by decide +kernel
theorem dL_law_1321 : decode cL_law 1321 = .ok (.iadd, 1) := by decide +kernel
theorem dL_law_1322 : decode cL_law 1322 = .ok (.iaload, 1) := by decide +kernel
theorem dL_law_1323 : decode cL_law 1323 = .ok (.aload_n 0, 1) := by decide +kernel
theorem dL_law_1324 : decode cL_law 1324 = .ok (.iload 4, 2) := by decide +kernel
theorem dL_law_1326 : decode cL_law 1326 = .ok (.iconst 2, 1) := by decide +kernel
theorem dL_law_1327 : decode cL_law 1327 = .ok (.iadd, 1) := by decide +kernel
theorem dL_law_1328 : decode cL_law 1328 = .ok (.iaload, 1) := by decide +kernel
theorem dL_law_1329 : decode cL_law 1329 = .ok (.invokevirtual 149, 3) := by decide +kernel
theorem dL_law_1332 : decode cL_law 1332 = .ok (.istore 6, 2) := by decide +kernel
theorem dL_law_1334 : decode cL_law 1334 = .ok (.aload_n 2, 1) := by decide +kernel
theorem dL_law_1335 : decode cL_law 1335 = .ok (.invokevirtual 90, 3) := by decide +kernel
theorem dL_law_1338 : decode cL_law 1338 = .ok (.iload 5, 2) := by decide +kernel
theorem dL_law_1340 : decode cL_law 1340 = .ok (.if_icmp .eq 5, 3) := by decide +kernel
theorem dL_law_1343 : decode cL_law 1343 = .ok (.iconst 0, 1) := by decide +kernel
theorem dL_law_1344 : decode cL_law 1344 = .ok (.ireturn, 1) := by decide +kernel
theorem dL_law_1345 : decode cL_law 1345 = .ok (.iload 5, 2) := by decide +kernel
theorem dL_law_1347 : decode cL_law 1347 = .ok (.ifCond .ne 15, 3) := by decide +kernel
theorem dL_law_1350 : decode cL_law 1350 = .ok (.aload_n 3, 1) := by decide +kernel
theorem dL_law_1351 : decode cL_law 1351 = .ok (.iconst 0, 1) := by decide +kernel
theorem dL_law_1352 : decode cL_law 1352 = .ok (.laload, 1) := by decide +kernel
theorem dL_law_1353 : decode cL_law 1353 = .ok (.iload 6, 2) := by decide +kernel
theorem dL_law_1355 : decode cL_law 1355 = .ok (.i2l, 1) := by decide +kernel
theorem dL_law_1356 : decode cL_law 1356 = .ok (.lcmp, 1) := by decide +kernel
theorem dL_law_1357 : decode cL_law 1357 = .ok (.ifCond .eq 5, 3) := by decide +kernel
theorem dL_law_1360 : decode cL_law 1360 = .ok (.iconst 0, 1) := by decide +kernel
theorem dL_law_1361 : decode cL_law 1361 = .ok (.ireturn, 1) := by decide +kernel
theorem dL_law_1362 : decode cL_law 1362 = .ok (.goto 59, 3) := by decide +kernel
theorem dL_law_1365 : decode cL_law 1365 = .ok (.aload_n 1, 1) := by decide +kernel
theorem dL_law_1366 : decode cL_law 1366 = .ok (.aload_n 0, 1) := by decide +kernel
theorem dL_law_1367 : decode cL_law 1367 = .ok (.iload 4, 2) := by decide +kernel
theorem dL_law_1369 : decode cL_law 1369 = .ok (.iconst 1, 1) := by decide +kernel
theorem dL_law_1370 : decode cL_law 1370 = .ok (.iadd, 1) := by decide +kernel
theorem dL_law_1371 : decode cL_law 1371 = .ok (.iaload, 1) := by decide +kernel
theorem dL_law_1372 : decode cL_law 1372 = .ok (.aload_n 3, 1) := by decide +kernel
theorem dL_law_1373 : decode cL_law 1373 = .ok (.invokestatic 150, 3) := by decide +kernel
theorem dL_law_1376 : decode cL_law 1376 = .ok (.istore 5, 2) := by decide +kernel
theorem dL_law_1378 : decode cL_law 1378 = .ok (.aload_n 2, 1) := by decide +kernel
theorem dL_law_1379 : decode cL_law 1379 = .ok (.aload_n 0, 1) := by decide +kernel
theorem dL_law_1380 : decode cL_law 1380 = .ok (.iload 4, 2) := by decide +kernel
theorem dL_law_1382 : decode cL_law 1382 = .ok (.iconst 1, 1) := by decide +kernel
theorem dL_law_1383 : decode cL_law 1383 = .ok (.iadd, 1) := by decide +kernel
theorem dL_law_1384 : decode cL_law 1384 = .ok (.iaload, 1) := by decide +kernel
theorem dL_law_1385 : decode cL_law 1385 = .ok (.invokevirtual 152, 3) := by decide +kernel
theorem dL_law_1388 : decode cL_law 1388 = .ok (.istore 6, 2) := by decide +kernel
theorem dL_law_1390 : decode cL_law 1390 = .ok (.aload_n 2, 1) := by decide +kernel
theorem dL_law_1391 : decode cL_law 1391 = .ok (.invokevirtual 90, 3) := by decide +kernel
theorem dL_law_1394 : decode cL_law 1394 = .ok (.iload 5, 2) := by decide +kernel
theorem dL_law_1396 : decode cL_law 1396 = .ok (.if_icmp .eq 5, 3) := by decide +kernel
theorem dL_law_1399 : decode cL_law 1399 = .ok (.iconst 0, 1) := by decide +kernel
theorem dL_law_1400 : decode cL_law 1400 = .ok (.ireturn, 1) := by decide +kernel
theorem dL_law_1401 : decode cL_law 1401 = .ok (.iload 5, 2) := by decide +kernel
theorem dL_law_1403 : decode cL_law 1403 = .ok (.ifCond .ne 15, 3) := by decide +kernel
theorem dL_law_1406 : decode cL_law 1406 = .ok (.aload_n 3, 1) := by decide +kernel
theorem dL_law_1407 : decode cL_law 1407 = .ok (.iconst 0, 1) := by decide +kernel
theorem dL_law_1408 : decode cL_law 1408 = .ok (.laload, 1) := by decide +kernel
theorem dL_law_1409 : decode cL_law 1409 = .ok (.iload 6, 2) := by decide +kernel
theorem dL_law_1411 : decode cL_law 1411 = .ok (.i2l, 1) := by decide +kernel
theorem dL_law_1412 : decode cL_law 1412 = .ok (.lcmp, 1) := by decide +kernel
theorem dL_law_1413 : decode cL_law 1413 = .ok (.ifCond .eq 5, 3) := by decide +kernel
theorem dL_law_1416 : decode cL_law 1416 = .ok (.iconst 0, 1) := by decide +kernel
theorem dL_law_1417 : decode cL_law 1417 = .ok (.ireturn, 1) := by decide +kernel
theorem dL_law_1418 : decode cL_law 1418 = .ok (.goto 3, 3) := by decide +kernel
theorem dL_law_1421 : decode cL_law 1421 = .ok (.iinc 4 5, 3) := by decide +kernel
theorem dL_law_1424 : decode cL_law 1424 = .ok (.goto (-1361), 3) := by decide +kernel
theorem dL_law_1427 : decode cL_law 1427 = .ok (.iconst 1, 1) := by decide +kernel
theorem dL_law_1428 : decode cL_law 1428 = .ok (.ireturn, 1) := by decide +kernel
end
section
/-! THE FRAME: a world of N cells at fixed addresses, their contents by rows of numbers S; J: the machine stands at pc over that world; a row an instruction. -/
def BIG : List Cond := lw_tbl.filter goodWord
theorem BIG_good : ∀ w ∈ BIG, (w.onTables && w.keeps) = true ∨ ∃ ty, w = .arrayClass ty := fun _ h => good_of_word (List.mem_filter.mp h).2
theorem BIG_in : ∀ w ∈ BIG, w ∈ lw_tbl := fun _ h => (List.mem_filter.mp h).1
/-- a method's words: its code, and all of the tables -/
def wsq (y : MethodName) (cc : ByteArray) (n : Nat) (ret : Option FieldType) : List Cond := .code y cc n ret :: BIG
abbrev Rows : Type := Nat → Nat → Int32
def up2 (S : Nat → Nat → Int32) (k f : Nat) (x : Int32) : Nat → Nat → Int32 := fun j => if j = k then upd (S k) f x else S j
/-- a whole row anew -/
def upR (S : Nat → Nat → Int32) (k : Nat) (f : Nat → Int32) : Nat → Nat → Int32 := fun j => if j = k then f else S j
theorem up2_R (S : Nat → Nat → Int32) (k f : Nat) (x : Int32) : up2 S k f x = upR S k (upd (S k) f x) := rfl
theorem upR_at (S : Nat → Nat → Int32) (k : Nat) (f : Nat → Int32) : upR S k f k = f := if_pos rfl
theorem upR_ne (S : Nat → Nat → Int32) {k j : Nat} (f : Nat → Int32) (h : j ≠ k) : upR S k f j = S j := if_neg h
def wd (N : Nat) (A : Nat → Nat) (ce : Nat → (Nat → Int32) → va_E) (S : Nat → Nat → Int32) : va_W := (List.range N).map (fun k => (A k, ce k (S k)))
theorem wd_at {N : Nat} {A : Nat → Nat} {ce : Nat → (Nat → Int32) → va_E} {S : Nat → Nat → Int32} {k : Nat} (hk : k < N) : (wd N A ce S)[k]? = some (A k, ce k (S k)) := by
  unfold wd
  rw [List.getElem?_map, List.getElem?_range hk]
  rfl
theorem wd_len {N : Nat} {A : Nat → Nat} {ce : Nat → (Nat → Int32) → va_E} {S : Nat → Nat → Int32} : (wd N A ce S).length = N := by
  unfold wd
  rw [List.length_map, List.length_range]
theorem wd_of {N : Nat} {A : Nat → Nat} {ce : Nat → (Nat → Int32) → va_E} {S : Nat → Nat → Int32} {k : Nat} {q : Nat × va_E} (h : (wd N A ce S)[k]? = some q) : k < N ∧ q = (A k, ce k (S k)) := by
  have hk : k < N := by
    have := (List.getElem?_eq_some_iff.mp h).1
    rwa [wd_len] at this
  rw [wd_at hk] at h
  exact ⟨hk, (Option.some.inj h).symm⟩
theorem wd_set {N : Nat} {A : Nat → Nat} {ce : Nat → (Nat → Int32) → va_E} {S : Nat → Nat → Int32} {k : Nat} {f : Nat → Int32} {e : va_E} (he : ce k f = e) : (wd N A ce S).set k (A k, e) = wd N A ce (upR S k f) := by
  subst he
  apply List.ext_getElem?
  intro j
  by_cases hj : j < N
  · by_cases hjk : j = k
    · subst hjk
      rw [List.getElem?_set_self (by rw [wd_len]; exact hj), wd_at hj, upR_at]
    · rw [List.getElem?_set_ne (Ne.symm hjk), wd_at hj, wd_at hj, upR_ne _ _ hjk]
  · rw [List.getElem?_eq_none (by rw [List.length_set, wd_len]; omega), List.getElem?_eq_none (by rw [wd_len]; omega)]
def acc (N : Nat) (A : Nat → Nat) (sz : Nat) : Nat → Prop := fun q => (∃ k, k < N ∧ q = A k) ∨ sz ≤ q
def Apart (N : Nat) (A : Nat → Nat) : Prop := ∀ i j, i < N → j < N → A i = A j → i = j
theorem wd_D {N : Nat} {A : Nat → Nat} {ce : Nat → (Nat → Int32) → va_E} {S : Nat → Nat → Int32} {Acc : Nat → Prop} (hi : Apart N A) (ha : ∀ k, k < N → Acc (A k)) : va_D Acc (wd N A ce S) := by
  refine ⟨fun i j x y hx hy e => ?_, fun k q h => ?_⟩
  · obtain ⟨h1, rfl⟩ := wd_of hx
    obtain ⟨h2, rfl⟩ := wd_of hy
    exact hi i j h1 h2 e
  · obtain ⟨h1, rfl⟩ := wd_of h
    exact ha k h1
/-- facts of the state and the heap that a method only reads: they bear what the frame rule asks -/
def StX (X : (Nat → Prop) → State → Heap → Prop) : Prop := (∀ B (u U : State) H, u.WarmedH U.vm → X B u H → X B U H) ∧ (∀ B U (H H1 : Heap), X B U H → (∀ a : Nat, a < H.size → ¬ B a → H1[a]? = H[a]?) → X B U H1) ∧ (∀ (B C : Nat → Prop) U H, X B U H → (∀ q, C q → B q) → X C U H)
/-- what stands fast while a method's body runs -/
def Cx (p : Program) (s : State) (m : MethodId) (args : Array Value) (c : Code) (cc : ByteArray) (nL : Nat) (own : String) (D : va_G) (tys : List (ClassId × FieldType)) (N : Nat) (A : Nat → Nat) (X : (Nat → Prop) → State → Heap → Prop) (Acc : Nat → Prop) : Prop :=
  p.tables.exec = Jvm.exec ∧ c.code = cc ∧ c.maxLocals = nL ∧ s.vm.findClass own = some m.cls ∧ (∀ w ∈ BIG, w.before args s = true) ∧ va_K D vwCl tys s ∧ Apart N A ∧ (∀ k, k < N → Acc (A k)) ∧ (∀ q, s.heap.size ≤ q → Acc q) ∧ StX X ∧ X Acc s s.heap
def J (p : Program) (l : Launch) (e : Env) (R : Room) (s : State) (m : MethodId) (args : Array Value) (below : List Frame) (meth : Method) (c : Code) (cells slots : Nat) (Qf : State → Prop) (D : va_G) (N : Nat) (A : Nat → Nat) (ce : Nat → (Nat → Int32) → va_E) (Acc : Nat → Prop) (nL : Nat) (S : Nat → Nat → Int32) (pc : Nat) (L : List (Nat × Value)) (st : List Value) : Prop :=
  ∀ (H : Heap) (locs : List Loc) (ls : Array Slot), va_P D vwCl (wd N A ce S) H → va_S Acc s.heap H locs → lv_has ls nL L → W p l e R s m args below meth c H locs cells slots Qf (F0 m pc ls st)
/-- an end: the answer r with a world S', told by ret -/
def QQ {ρ : Type} (ret : ρ → Option Value) (Q : ρ → (Nat → Nat → Int32) → Prop) (D : va_G) (tys : List (ClassId × FieldType)) (N : Nat) (A : Nat → Nat) (ce : Nat → (Nat → Int32) → va_E) (B : Nat → Prop) : Array Value → State → Outcome → State → Prop := fun _ st oc t =>
  (∃ (r : ρ) (S : Nat → Nat → Int32), oc = .returned (ret r) ∧ Q r S ∧ va_P D vwCl (wd N A ce S) t.heap ∧ va_K D vwCl tys t) ∧ va_F B st t
abbrev rI : Int32 → Option Value := fun x => some (.int x)
def bI (b : Bool) : Int32 := if b then 1 else 0
abbrev rZ : Bool → Option Value := fun b => some (.int (bI b))
abbrev rU : Unit → Option Value := fun _ => none
abbrev rA (A : Nat → Nat) (b : Nat) : Nat → Option Value := fun k => some (.ref (A (b + k)))
def rO' (A : Nat → Nat) (b : Nat) : Option Nat → Value | none => .null | some k => .ref (A (b + k))
abbrev rO (A : Nat → Nat) (b : Nat) : Option Nat → Option Value := fun o => some (rO' A b o)
/-- the start of a contract: the world S0 lies in the heap -/
def PP (argsL : List Value) (S : Nat → Nat → Int32) (D : va_G) (tys : List (ClassId × FieldType)) (N : Nat) (A : Nat → Nat) (ce : Nat → (Nat → Int32) → va_E) (X : (Nat → Prop) → State → Heap → Prop) (sz : Nat) : Array Value → State → Prop :=
  va_Pc argsL (fun U => U.heap.size = sz ∧ va_P D vwCl (wd N A ce S) U.heap ∧ va_K D vwCl tys U ∧ X (acc N A sz) U U.heap)
/-- a method's contract, from one world to another -/
def Ct {ρ : Type} (l : Launch) (D : va_G) (tys : List (ClassId × FieldType)) (N : Nat) (A : Nat → Nat) (ce : Nat → (Nat → Int32) → va_E) (X : (Nat → Prop) → State → Heap → Prop) (y : MethodName) (cc : ByteArray) (nL : Nat) (rt : Option FieldType) (fr lo : Nat) (argsL : List Value) (S : Nat → Nat → Int32) (ret : ρ → Option Value) (Q : ρ → (Nat → Nat → Int32) → Prop) : Prop :=
  ∀ sz, Met l y (wsq y cc nL rt) ({ frames := fr, cells := 0, slots := 0, locals := lo }) (PP argsL S D tys N A ce X sz) (QQ ret Q D tys N A ce (acc N A sz)) 0 0 (acc N A sz)
theorem PP_blind {argsL : List Value} {S : Nat → Nat → Int32} {D : va_G} {tys : List (ClassId × FieldType)} {N : Nat} {A : Nat → Nat} {ce : Nat → (Nat → Int32) → va_E} {X : (Nat → Prop) → State → Heap → Prop} {sz : Nat} (hX : StX X) : FrameBlind (PP argsL S D tys N A ce X sz) := by
  intro a U g mk q
  obtain ⟨q0, q1, qP, qK, qX⟩ := q
  exact ⟨q0, q1, qP, va_K.moved (u := U) (U := U.calling g mk a) (Vm.Alike.refl U.vm) qK, hX.1 _ U _ _ (State.WarmedH.refl U) qX⟩
theorem Ct.of {ρ : Type} {l : Launch} {D : va_G} {tys : List (ClassId × FieldType)} {N : Nat} {A : Nat → Nat} {ce : Nat → (Nat → Int32) → va_E} {X : (Nat → Prop) → State → Heap → Prop} {y : MethodName} {cc : ByteArray} {nL : Nat} {rt : Option FieldType} {fr lo : Nat} {argsL : List Value} {S : Nat → Nat → Int32} {ret : ρ → Option Value} {Q : ρ → (Nat → Nat → Int32) → Prop}
    (hy : plainName y.cls = true) (hX : StX X) (hi : Apart N A) (L : List (Nat × Value)) (hL : lv_args 0 argsL = L) (hn : (lg_sl argsL).length ≤ nL)
    (body : ∀ (p : Program) (e : Env) (s : State) (m : MethodId) (args : Array Value) (below : List Frame) (meth : Method) (c : Code) (Acc : Nat → Prop), Cx p s m args c cc nL y.cls D tys N A X Acc → meth.sig.returnType = rt → meth.locks = false →
      ∀ Qf, Qf = MQ below (QQ ret Q D tys N A ce Acc) args s 0 0 Acc → J p l e ({ frames := fr, cells := 0, slots := 0, locals := lo }) s m args below meth c 0 0 Qf D N A ce Acc nL S 0 L []) : Ct l D tys N A ce X y cc nL rt fr lo argsL S ret Q := by
  intro sz
  refine Met.ofW (cc := cc) (maxL := nL) (ret := rt) hy rfl ?_
  intro p e s m args below meth c s₁ B hml hv
  obtain ⟨rfl, hsz, hP, hK, hXs⟩ := hv
  subst hsz
  have hts := atoms_spec (ws := wsq y cc nL rt) B.pre
  have hl := lv_entry argsL (n := nL) hn
  rw [lg_entry_eq]
  rw [hL] at hl
  exact body p e s m _ below meth c (acc N A s.heap.size) ⟨B.exec, B.bytes, hml, findClass_of_methodNamed B.named, fun w hw => hts w (List.mem_cons_of_mem _ hw), hK, hi, fun k hk => Or.inl ⟨k, hk, rfl⟩, fun q hq => Or.inr hq, hX, hXs⟩ B.returns B.notSynchronized _ rfl s.heap [] _ hP va_S.rf hl

section ROWS
variable {p : Program} {l : Launch} {e : Env} {R : Room} {s : State} {m : MethodId} {args : Array Value} {below : List Frame} {meth : Method} {c : Code} {cells slots : Nat} {Qf : State → Prop} {D : va_G} {N : Nat} {A : Nat → Nat} {ce : Nat → (Nat → Int32) → va_E} {Acc : Nat → Prop} {nL : Nat} {S : Nat → Nat → Int32} {pc : Nat} {L : List (Nat × Value)} {st : List Value} {cc : ByteArray} {own : String} {tys : List (ClassId × FieldType)} {X : (Nat → Prop) → State → Heap → Prop}
theorem r_iconst (C : Cx p s m args c cc nL own D tys N A X Acc) {n : Int} (v : Int32) (hv : Int32.ofInt n = v) (d : decode cc pc = .ok (.iconst n, 1)) (q : Nat) (hq : pc + 1 = q) (K : J p l e R s m args below meth c cells slots Qf D N A ce Acc nL S q L (.int v :: st)) : J p l e R s m args below meth c cells slots Qf D N A ce Acc nL S pc L st := by
  subst hq
  exact fun H locs ls hP hS hl => lv_iconst C.1 C.2.1 d hv (K H locs ls hP hS hl)
theorem r_bipush (C : Cx p s m args c cc nL own D tys N A X Acc) {n : Int} (v : Int32) (hv : (Int8.ofInt n).toInt32 = v) (d : decode cc pc = .ok (.bipush n, 2)) (q : Nat) (hq : pc + 2 = q) (K : J p l e R s m args below meth c cells slots Qf D N A ce Acc nL S q L (.int v :: st)) : J p l e R s m args below meth c cells slots Qf D N A ce Acc nL S pc L st := by
  subst hq
  exact fun H locs ls hP hS hl => lv_bipush C.1 C.2.1 d hv (K H locs ls hP hS hl)
theorem r_sipush (C : Cx p s m args c cc nL own D tys N A X Acc) {n : Int} (v : Int32) (hv : (Int16.ofInt n).toInt32 = v) (d : decode cc pc = .ok (.sipush n, 3)) (q : Nat) (hq : pc + 3 = q) (K : J p l e R s m args below meth c cells slots Qf D N A ce Acc nL S q L (.int v :: st)) : J p l e R s m args below meth c cells slots Qf D N A ce Acc nL S pc L st := by
  subst hq
  exact fun H locs ls hP hS hl => lv_sipush C.1 C.2.1 d hv (K H locs ls hP hS hl)
theorem r_null (C : Cx p s m args c cc nL own D tys N A X Acc)  (d : decode cc pc = .ok (.aconst_null, 1)) (q : Nat) (hq : pc + 1 = q) (K : J p l e R s m args below meth c cells slots Qf D N A ce Acc nL S q L (.null :: st)) : J p l e R s m args below meth c cells slots Qf D N A ce Acc nL S pc L st := by
  subst hq
  exact fun H locs ls hP hS hl => lv_null C.1 C.2.1 d (K H locs ls hP hS hl)
theorem r_iload_n (C : Cx p s m args c cc nL own D tys N A X Acc) {k : Fin 4} {x : Int32} (j : Nat) (hj : L[j]? = some ((k : Nat), .int x)) (d : decode cc pc = .ok (.iload_n k, 1)) (q : Nat) (hq : pc + 1 = q) (K : J p l e R s m args below meth c cells slots Qf D N A ce Acc nL S q L (.int x :: st)) : J p l e R s m args below meth c cells slots Qf D N A ce Acc nL S pc L st := by
  subst hq
  exact fun H locs ls hP hS hl => lv_iload_n C.1 C.2.1 d rfl (lv_at hl j hj) (K H locs ls hP hS hl)
theorem r_iload (C : Cx p s m args c cc nL own D tys N A X Acc) {k : Nat} {x : Int32} (j : Nat) (hj : L[j]? = some (k, .int x)) (d : decode cc pc = .ok (.iload k, 2)) (q : Nat) (hq : pc + 2 = q) (K : J p l e R s m args below meth c cells slots Qf D N A ce Acc nL S q L (.int x :: st)) : J p l e R s m args below meth c cells slots Qf D N A ce Acc nL S pc L st := by
  subst hq
  exact fun H locs ls hP hS hl => lv_iload C.1 C.2.1 d (lv_at hl j hj) (K H locs ls hP hS hl)
theorem r_istore_n (C : Cx p s m args c cc nL own D tys N A X Acc) {k : Fin 4} {x : Int32} (L1 : List (Nat × Value)) (hn : (k : Nat) < nL) (hL : ((k : Nat), Value.int x) :: L.filter (fun q => !(q.1 == (k : Nat)) && !(q.1 + 1 == (k : Nat) && q.2.category == 2)) = L1) (d : decode cc pc = .ok (.istore_n k, 1)) (q : Nat) (hq : pc + 1 = q) (K : J p l e R s m args below meth c cells slots Qf D N A ce Acc nL S q L1 st) : J p l e R s m args below meth c cells slots Qf D N A ce Acc nL S pc L (.int x :: st) := by
  subst hq
  exact fun H locs ls hP hS hl => lv_istore_n C.1 C.2.1 d rfl hl hn hL (fun ls1 hl1 => K H locs ls1 hP hS hl1)
theorem r_istore (C : Cx p s m args c cc nL own D tys N A X Acc) {k : Nat} {x : Int32} (L1 : List (Nat × Value)) (hn : k < nL) (hL : (k, Value.int x) :: L.filter (fun q => !(q.1 == k) && !(q.1 + 1 == k && q.2.category == 2)) = L1) (d : decode cc pc = .ok (.istore k, 2)) (q : Nat) (hq : pc + 2 = q) (K : J p l e R s m args below meth c cells slots Qf D N A ce Acc nL S q L1 st) : J p l e R s m args below meth c cells slots Qf D N A ce Acc nL S pc L (.int x :: st) := by
  subst hq
  exact fun H locs ls hP hS hl => lv_istore C.1 C.2.1 d hl hn hL (fun ls1 hl1 => K H locs ls1 hP hS hl1)
theorem r_aload_n (C : Cx p s m args c cc nL own D tys N A X Acc) {k : Fin 4} {x : Nat} (j : Nat) (hj : L[j]? = some ((k : Nat), .ref x)) (d : decode cc pc = .ok (.aload_n k, 1)) (q : Nat) (hq : pc + 1 = q) (K : J p l e R s m args below meth c cells slots Qf D N A ce Acc nL S q L (.ref x :: st)) : J p l e R s m args below meth c cells slots Qf D N A ce Acc nL S pc L st := by
  subst hq
  exact fun H locs ls hP hS hl => lv_aload_n C.1 C.2.1 d rfl (lv_at hl j hj) (K H locs ls hP hS hl)
theorem r_aload (C : Cx p s m args c cc nL own D tys N A X Acc) {k : Nat} {x : Nat} (j : Nat) (hj : L[j]? = some (k, .ref x)) (d : decode cc pc = .ok (.aload k, 2)) (q : Nat) (hq : pc + 2 = q) (K : J p l e R s m args below meth c cells slots Qf D N A ce Acc nL S q L (.ref x :: st)) : J p l e R s m args below meth c cells slots Qf D N A ce Acc nL S pc L st := by
  subst hq
  exact fun H locs ls hP hS hl => lv_aload C.1 C.2.1 d (lv_at hl j hj) (K H locs ls hP hS hl)
theorem r_astore_n (C : Cx p s m args c cc nL own D tys N A X Acc) {k : Fin 4} {x : Nat} (L1 : List (Nat × Value)) (hn : (k : Nat) < nL) (hL : ((k : Nat), Value.ref x) :: L.filter (fun q => !(q.1 == (k : Nat)) && !(q.1 + 1 == (k : Nat) && q.2.category == 2)) = L1) (d : decode cc pc = .ok (.astore_n k, 1)) (q : Nat) (hq : pc + 1 = q) (K : J p l e R s m args below meth c cells slots Qf D N A ce Acc nL S q L1 st) : J p l e R s m args below meth c cells slots Qf D N A ce Acc nL S pc L (.ref x :: st) := by
  subst hq
  exact fun H locs ls hP hS hl => lv_astore_n C.1 C.2.1 d rfl hl hn hL (fun ls1 hl1 => K H locs ls1 hP hS hl1)
theorem r_astore (C : Cx p s m args c cc nL own D tys N A X Acc) {k : Nat} {x : Nat} (L1 : List (Nat × Value)) (hn : k < nL) (hL : (k, Value.ref x) :: L.filter (fun q => !(q.1 == k) && !(q.1 + 1 == k && q.2.category == 2)) = L1) (d : decode cc pc = .ok (.astore k, 2)) (q : Nat) (hq : pc + 2 = q) (K : J p l e R s m args below meth c cells slots Qf D N A ce Acc nL S q L1 st) : J p l e R s m args below meth c cells slots Qf D N A ce Acc nL S pc L (.ref x :: st) := by
  subst hq
  exact fun H locs ls hP hS hl => lv_astore C.1 C.2.1 d hl hn hL (fun ls1 hl1 => K H locs ls1 hP hS hl1)
theorem r_iinc (C : Cx p s m args c cc nL own D tys N A X Acc) {i : Nat} {n : Int} {x : Int32} (j : Nat) (hj : L[j]? = some (i, .int x)) (v : Int32) (hv : x + Int32.ofInt n = v) (L1 : List (Nat × Value)) (hn : i < nL) (hL : (i, Value.int v) :: L.filter (fun q => !(q.1 == i) && !(q.1 + 1 == i && q.2.category == 2)) = L1) (d : decode cc pc = .ok (.iinc i n, 3)) (q : Nat) (hq : pc + 3 = q) (K : J p l e R s m args below meth c cells slots Qf D N A ce Acc nL S q L1 st) : J p l e R s m args below meth c cells slots Qf D N A ce Acc nL S pc L st := by
  subst hq
  exact fun H locs ls hP hS hl => lv_iinc C.1 C.2.1 d hl hj hv hn hL (fun ls1 hl1 => K H locs ls1 hP hS hl1)
theorem r_iadd (C : Cx p s m args c cc nL own D tys N A X Acc) {x y : Int32} (d : decode cc pc = .ok (.iadd, 1)) (q : Nat) (hq : pc + 1 = q) (K : J p l e R s m args below meth c cells slots Qf D N A ce Acc nL S q L (.int (x + y) :: st)) : J p l e R s m args below meth c cells slots Qf D N A ce Acc nL S pc L (.int y :: .int x :: st) := by
  subst hq
  exact fun H locs ls hP hS hl => lv_iadd C.1 C.2.1 d (K H locs ls hP hS hl)
theorem r_isub (C : Cx p s m args c cc nL own D tys N A X Acc) {x y : Int32} (d : decode cc pc = .ok (.isub, 1)) (q : Nat) (hq : pc + 1 = q) (K : J p l e R s m args below meth c cells slots Qf D N A ce Acc nL S q L (.int (x - y) :: st)) : J p l e R s m args below meth c cells slots Qf D N A ce Acc nL S pc L (.int y :: .int x :: st) := by
  subst hq
  exact fun H locs ls hP hS hl => lv_isub C.1 C.2.1 d (K H locs ls hP hS hl)
theorem r_imul (C : Cx p s m args c cc nL own D tys N A X Acc) {x y : Int32} (d : decode cc pc = .ok (.imul, 1)) (q : Nat) (hq : pc + 1 = q) (K : J p l e R s m args below meth c cells slots Qf D N A ce Acc nL S q L (.int (x * y) :: st)) : J p l e R s m args below meth c cells slots Qf D N A ce Acc nL S pc L (.int y :: .int x :: st) := by
  subst hq
  exact fun H locs ls hP hS hl => lv_imul C.1 C.2.1 d (K H locs ls hP hS hl)
theorem r_iand (C : Cx p s m args c cc nL own D tys N A X Acc) {x y : Int32} (d : decode cc pc = .ok (.iand, 1)) (q : Nat) (hq : pc + 1 = q) (K : J p l e R s m args below meth c cells slots Qf D N A ce Acc nL S q L (.int (x &&& y) :: st)) : J p l e R s m args below meth c cells slots Qf D N A ce Acc nL S pc L (.int y :: .int x :: st) := by
  subst hq
  exact fun H locs ls hP hS hl => lv_iand C.1 C.2.1 d (K H locs ls hP hS hl)
theorem r_ior (C : Cx p s m args c cc nL own D tys N A X Acc) {x y : Int32} (d : decode cc pc = .ok (.ior, 1)) (q : Nat) (hq : pc + 1 = q) (K : J p l e R s m args below meth c cells slots Qf D N A ce Acc nL S q L (.int (x ||| y) :: st)) : J p l e R s m args below meth c cells slots Qf D N A ce Acc nL S pc L (.int y :: .int x :: st) := by
  subst hq
  exact fun H locs ls hP hS hl => lv_ior C.1 C.2.1 d (K H locs ls hP hS hl)
theorem r_ishl (C : Cx p s m args c cc nL own D tys N A X Acc) {x y : Int32} (d : decode cc pc = .ok (.ishl, 1)) (q : Nat) (hq : pc + 1 = q) (K : J p l e R s m args below meth c cells slots Qf D N A ce Acc nL S q L (.int (x <<< (y &&& 31)) :: st)) : J p l e R s m args below meth c cells slots Qf D N A ce Acc nL S pc L (.int y :: .int x :: st) := by
  subst hq
  exact fun H locs ls hP hS hl => lv_ishl C.1 C.2.1 d (K H locs ls hP hS hl)
theorem r_ishr (C : Cx p s m args c cc nL own D tys N A X Acc) {x y : Int32} (d : decode cc pc = .ok (.ishr, 1)) (q : Nat) (hq : pc + 1 = q) (K : J p l e R s m args below meth c cells slots Qf D N A ce Acc nL S q L (.int (x >>> (y &&& 31)) :: st)) : J p l e R s m args below meth c cells slots Qf D N A ce Acc nL S pc L (.int y :: .int x :: st) := by
  subst hq
  exact fun H locs ls hP hS hl => lv_ishr C.1 C.2.1 d (K H locs ls hP hS hl)
theorem r_idiv (C : Cx p s m args c cc nL own D tys N A X Acc) {x y : Int32} (hy : ¬ y = 0) (d : decode cc pc = .ok (.idiv, 1)) (q : Nat) (hq : pc + 1 = q) (K : J p l e R s m args below meth c cells slots Qf D N A ce Acc nL S q L (.int (x / y) :: st)) : J p l e R s m args below meth c cells slots Qf D N A ce Acc nL S pc L (.int y :: .int x :: st) := by
  subst hq
  exact fun H locs ls hP hS hl => lv_idiv C.1 C.2.1 d hy (K H locs ls hP hS hl)
theorem r_ineg (C : Cx p s m args c cc nL own D tys N A X Acc) {x : Int32} (d : decode cc pc = .ok (.ineg, 1)) (q : Nat) (hq : pc + 1 = q) (K : J p l e R s m args below meth c cells slots Qf D N A ce Acc nL S q L (.int (-x) :: st)) : J p l e R s m args below meth c cells slots Qf D N A ce Acc nL S pc L (.int x :: st) := by
  subst hq
  exact fun H locs ls hP hS hl => lv_ineg C.1 C.2.1 d (K H locs ls hP hS hl)
theorem r_dup (C : Cx p s m args c cc nL own D tys N A X Acc) {v : Value} (hv : v.category = 1) (d : decode cc pc = .ok (.dup, 1)) (q : Nat) (hq : pc + 1 = q) (K : J p l e R s m args below meth c cells slots Qf D N A ce Acc nL S q L (v :: v :: st)) : J p l e R s m args below meth c cells slots Qf D N A ce Acc nL S pc L (v :: st) := by
  subst hq
  exact fun H locs ls hP hS hl => lv_dup C.1 C.2.1 d hv (K H locs ls hP hS hl)
theorem r_pop (C : Cx p s m args c cc nL own D tys N A X Acc) {v : Value} (hv : v.category = 1) (d : decode cc pc = .ok (.pop, 1)) (q : Nat) (hq : pc + 1 = q) (K : J p l e R s m args below meth c cells slots Qf D N A ce Acc nL S q L st) : J p l e R s m args below meth c cells slots Qf D N A ce Acc nL S pc L (v :: st) := by
  subst hq
  exact fun H locs ls hP hS hl => lv_pop C.1 C.2.1 d hv (K H locs ls hP hS hl)
theorem r_dup_x1 (C : Cx p s m args c cc nL own D tys N A X Acc) {v w : Value} (hv : v.category = 1) (hw : w.category = 1) (d : decode cc pc = .ok (.dup_x1, 1)) (q : Nat) (hq : pc + 1 = q) (K : J p l e R s m args below meth c cells slots Qf D N A ce Acc nL S q L (v :: w :: v :: st)) : J p l e R s m args below meth c cells slots Qf D N A ce Acc nL S pc L (v :: w :: st) := by
  subst hq
  exact fun H locs ls hP hS hl => lv_dup_x1 C.1 C.2.1 d hv hw (K H locs ls hP hS hl)
theorem r_dup2 (C : Cx p s m args c cc nL own D tys N A X Acc) {v w : Value} (hv : v.category = 1) (hw : w.category = 1) (d : decode cc pc = .ok (.dup2, 1)) (q : Nat) (hq : pc + 1 = q) (K : J p l e R s m args below meth c cells slots Qf D N A ce Acc nL S q L (v :: w :: v :: w :: st)) : J p l e R s m args below meth c cells slots Qf D N A ce Acc nL S pc L (v :: w :: st) := by
  subst hq
  exact fun H locs ls hP hS hl => lv_dup2_11 C.1 C.2.1 d hv hw (K H locs ls hP hS hl)
theorem r_if_eq (C : Cx p s m args c cc nL own D tys N A X Acc) {x : Int32} {off : Int} (tgt : Nat) (d : decode cc pc = .ok (.ifCond .eq off, 3)) (q : Nat) (hq : pc + 3 = q) (ht : (pc : Int) + off = (tgt : Int)) (Kt : x = 0 → J p l e R s m args below meth c cells slots Qf D N A ce Acc nL S tgt L st) (Kf : ¬ x = 0 → J p l e R s m args below meth c cells slots Qf D N A ce Acc nL S q L st) : J p l e R s m args below meth c cells slots Qf D N A ce Acc nL S pc L (.int x :: st) := by
  subst hq
  exact fun H locs ls hP hS hl => lv_if_eq C.1 C.2.1 d ht (fun h => Kt h H locs ls hP hS hl) (fun h => Kf h H locs ls hP hS hl)
theorem r_icmp_eq (C : Cx p s m args c cc nL own D tys N A X Acc) {x y : Int32} {off : Int} (tgt : Nat) (d : decode cc pc = .ok (.if_icmp .eq off, 3)) (q : Nat) (hq : pc + 3 = q) (ht : (pc : Int) + off = (tgt : Int)) (Kt : x = y → J p l e R s m args below meth c cells slots Qf D N A ce Acc nL S tgt L st) (Kf : ¬ x = y → J p l e R s m args below meth c cells slots Qf D N A ce Acc nL S q L st) : J p l e R s m args below meth c cells slots Qf D N A ce Acc nL S pc L (.int y :: .int x :: st) := by
  subst hq
  exact fun H locs ls hP hS hl => lv_icmp_eq C.1 C.2.1 d ht (fun h => Kt h H locs ls hP hS hl) (fun h => Kf h H locs ls hP hS hl)
theorem r_if_ne (C : Cx p s m args c cc nL own D tys N A X Acc) {x : Int32} {off : Int} (tgt : Nat) (d : decode cc pc = .ok (.ifCond .ne off, 3)) (q : Nat) (hq : pc + 3 = q) (ht : (pc : Int) + off = (tgt : Int)) (Kf : x = 0 → J p l e R s m args below meth c cells slots Qf D N A ce Acc nL S q L st) (Kt : ¬ x = 0 → J p l e R s m args below meth c cells slots Qf D N A ce Acc nL S tgt L st) : J p l e R s m args below meth c cells slots Qf D N A ce Acc nL S pc L (.int x :: st) := by
  subst hq
  exact fun H locs ls hP hS hl => lv_if_ne C.1 C.2.1 d ht (fun h => Kt h H locs ls hP hS hl) (fun h => Kf h H locs ls hP hS hl)
theorem r_icmp_ne (C : Cx p s m args c cc nL own D tys N A X Acc) {x y : Int32} {off : Int} (tgt : Nat) (d : decode cc pc = .ok (.if_icmp .ne off, 3)) (q : Nat) (hq : pc + 3 = q) (ht : (pc : Int) + off = (tgt : Int)) (Kf : x = y → J p l e R s m args below meth c cells slots Qf D N A ce Acc nL S q L st) (Kt : ¬ x = y → J p l e R s m args below meth c cells slots Qf D N A ce Acc nL S tgt L st) : J p l e R s m args below meth c cells slots Qf D N A ce Acc nL S pc L (.int y :: .int x :: st) := by
  subst hq
  exact fun H locs ls hP hS hl => lv_icmp_ne C.1 C.2.1 d ht (fun h => Kt h H locs ls hP hS hl) (fun h => Kf h H locs ls hP hS hl)
theorem r_if_lt (C : Cx p s m args c cc nL own D tys N A X Acc) {x : Int32} {off : Int} (tgt : Nat) (d : decode cc pc = .ok (.ifCond .lt off, 3)) (q : Nat) (hq : pc + 3 = q) (ht : (pc : Int) + off = (tgt : Int)) (Kt : x < 0 → J p l e R s m args below meth c cells slots Qf D N A ce Acc nL S tgt L st) (Kf : ¬ x < 0 → J p l e R s m args below meth c cells slots Qf D N A ce Acc nL S q L st) : J p l e R s m args below meth c cells slots Qf D N A ce Acc nL S pc L (.int x :: st) := by
  subst hq
  exact fun H locs ls hP hS hl => lv_if_lt C.1 C.2.1 d ht (fun h => Kt h H locs ls hP hS hl) (fun h => Kf h H locs ls hP hS hl)
theorem r_icmp_lt (C : Cx p s m args c cc nL own D tys N A X Acc) {x y : Int32} {off : Int} (tgt : Nat) (d : decode cc pc = .ok (.if_icmp .lt off, 3)) (q : Nat) (hq : pc + 3 = q) (ht : (pc : Int) + off = (tgt : Int)) (Kt : x < y → J p l e R s m args below meth c cells slots Qf D N A ce Acc nL S tgt L st) (Kf : ¬ x < y → J p l e R s m args below meth c cells slots Qf D N A ce Acc nL S q L st) : J p l e R s m args below meth c cells slots Qf D N A ce Acc nL S pc L (.int y :: .int x :: st) := by
  subst hq
  exact fun H locs ls hP hS hl => lv_icmp_lt C.1 C.2.1 d ht (fun h => Kt h H locs ls hP hS hl) (fun h => Kf h H locs ls hP hS hl)
theorem r_if_ge (C : Cx p s m args c cc nL own D tys N A X Acc) {x : Int32} {off : Int} (tgt : Nat) (d : decode cc pc = .ok (.ifCond .ge off, 3)) (q : Nat) (hq : pc + 3 = q) (ht : (pc : Int) + off = (tgt : Int)) (Kt : 0 ≤ x → J p l e R s m args below meth c cells slots Qf D N A ce Acc nL S tgt L st) (Kf : ¬ 0 ≤ x → J p l e R s m args below meth c cells slots Qf D N A ce Acc nL S q L st) : J p l e R s m args below meth c cells slots Qf D N A ce Acc nL S pc L (.int x :: st) := by
  subst hq
  exact fun H locs ls hP hS hl => lv_if_ge C.1 C.2.1 d ht (fun h => Kt h H locs ls hP hS hl) (fun h => Kf h H locs ls hP hS hl)
theorem r_icmp_ge (C : Cx p s m args c cc nL own D tys N A X Acc) {x y : Int32} {off : Int} (tgt : Nat) (d : decode cc pc = .ok (.if_icmp .ge off, 3)) (q : Nat) (hq : pc + 3 = q) (ht : (pc : Int) + off = (tgt : Int)) (Kt : y ≤ x → J p l e R s m args below meth c cells slots Qf D N A ce Acc nL S tgt L st) (Kf : ¬ y ≤ x → J p l e R s m args below meth c cells slots Qf D N A ce Acc nL S q L st) : J p l e R s m args below meth c cells slots Qf D N A ce Acc nL S pc L (.int y :: .int x :: st) := by
  subst hq
  exact fun H locs ls hP hS hl => lv_icmp_ge C.1 C.2.1 d ht (fun h => Kt h H locs ls hP hS hl) (fun h => Kf h H locs ls hP hS hl)
theorem r_if_gt (C : Cx p s m args c cc nL own D tys N A X Acc) {x : Int32} {off : Int} (tgt : Nat) (d : decode cc pc = .ok (.ifCond .gt off, 3)) (q : Nat) (hq : pc + 3 = q) (ht : (pc : Int) + off = (tgt : Int)) (Kt : 0 < x → J p l e R s m args below meth c cells slots Qf D N A ce Acc nL S tgt L st) (Kf : ¬ 0 < x → J p l e R s m args below meth c cells slots Qf D N A ce Acc nL S q L st) : J p l e R s m args below meth c cells slots Qf D N A ce Acc nL S pc L (.int x :: st) := by
  subst hq
  exact fun H locs ls hP hS hl => lv_if_gt C.1 C.2.1 d ht (fun h => Kt h H locs ls hP hS hl) (fun h => Kf h H locs ls hP hS hl)
theorem r_icmp_gt (C : Cx p s m args c cc nL own D tys N A X Acc) {x y : Int32} {off : Int} (tgt : Nat) (d : decode cc pc = .ok (.if_icmp .gt off, 3)) (q : Nat) (hq : pc + 3 = q) (ht : (pc : Int) + off = (tgt : Int)) (Kt : y < x → J p l e R s m args below meth c cells slots Qf D N A ce Acc nL S tgt L st) (Kf : ¬ y < x → J p l e R s m args below meth c cells slots Qf D N A ce Acc nL S q L st) : J p l e R s m args below meth c cells slots Qf D N A ce Acc nL S pc L (.int y :: .int x :: st) := by
  subst hq
  exact fun H locs ls hP hS hl => lv_icmp_gt C.1 C.2.1 d ht (fun h => Kt h H locs ls hP hS hl) (fun h => Kf h H locs ls hP hS hl)
theorem r_if_le (C : Cx p s m args c cc nL own D tys N A X Acc) {x : Int32} {off : Int} (tgt : Nat) (d : decode cc pc = .ok (.ifCond .le off, 3)) (q : Nat) (hq : pc + 3 = q) (ht : (pc : Int) + off = (tgt : Int)) (Kt : x ≤ 0 → J p l e R s m args below meth c cells slots Qf D N A ce Acc nL S tgt L st) (Kf : ¬ x ≤ 0 → J p l e R s m args below meth c cells slots Qf D N A ce Acc nL S q L st) : J p l e R s m args below meth c cells slots Qf D N A ce Acc nL S pc L (.int x :: st) := by
  subst hq
  exact fun H locs ls hP hS hl => lv_if_le C.1 C.2.1 d ht (fun h => Kt h H locs ls hP hS hl) (fun h => Kf h H locs ls hP hS hl)
theorem r_icmp_le (C : Cx p s m args c cc nL own D tys N A X Acc) {x y : Int32} {off : Int} (tgt : Nat) (d : decode cc pc = .ok (.if_icmp .le off, 3)) (q : Nat) (hq : pc + 3 = q) (ht : (pc : Int) + off = (tgt : Int)) (Kt : x ≤ y → J p l e R s m args below meth c cells slots Qf D N A ce Acc nL S tgt L st) (Kf : ¬ x ≤ y → J p l e R s m args below meth c cells slots Qf D N A ce Acc nL S q L st) : J p l e R s m args below meth c cells slots Qf D N A ce Acc nL S pc L (.int y :: .int x :: st) := by
  subst hq
  exact fun H locs ls hP hS hl => lv_icmp_le C.1 C.2.1 d ht (fun h => Kt h H locs ls hP hS hl) (fun h => Kf h H locs ls hP hS hl)
theorem r_goto (C : Cx p s m args c cc nL own D tys N A X Acc) {off : Int} (tgt : Nat) (d : decode cc pc = .ok (.goto off, 3)) (ht : (pc : Int) + off = (tgt : Int)) (K : J p l e R s m args below meth c cells slots Qf D N A ce Acc nL S tgt L st) : J p l e R s m args below meth c cells slots Qf D N A ce Acc nL S pc L st := fun H locs ls hP hS hl => lv_goto C.1 C.2.1 d ht (K H locs ls hP hS hl)
theorem r_tableIn (C : Cx p s m args c cc nL own D tys N A X Acc) {dflt lo hi : Int} {offs : Array Int} {len : Nat} {x : Int32} {off : Int} (tgt : Nat) (d : decode cc pc = .ok (.tableswitch dflt lo hi offs, len)) (h1 : ¬ x.toInt < lo) (h2 : ¬ hi < x.toInt) (ho : offs[(x.toInt - lo).toNat]? = some off) (ht : (pc : Int) + off = (tgt : Int)) (K : J p l e R s m args below meth c cells slots Qf D N A ce Acc nL S tgt L st) : J p l e R s m args below meth c cells slots Qf D N A ce Acc nL S pc L (.int x :: st) := fun H locs ls hP hS hl => lv_tableIn C.1 C.2.1 d h1 h2 ho ht (K H locs ls hP hS hl)
theorem r_tableOut (C : Cx p s m args c cc nL own D tys N A X Acc) {dflt lo hi : Int} {offs : Array Int} {len : Nat} {x : Int32} (tgt : Nat) (d : decode cc pc = .ok (.tableswitch dflt lo hi offs, len)) (h : x.toInt < lo ∨ hi < x.toInt) (ht : (pc : Int) + dflt = (tgt : Int)) (K : J p l e R s m args below meth c cells slots Qf D N A ce Acc nL S tgt L st) : J p l e R s m args below meth c cells slots Qf D N A ce Acc nL S pc L (.int x :: st) := fun H locs ls hP hS hl => lv_tableOut C.1 C.2.1 d h ht (K H locs ls hP hS hl)
theorem r_lookup (C : Cx p s m args c cc nL own D tys N A X Acc) {dflt : Int} {ps : Array (Int × Int)} {len : Nat} {x : Int32} {off : Int} (tgt : Nat) (d : decode cc pc = .ok (.lookupswitch dflt ps, len)) (hp : (ps.toList.zip (ps.toList.drop 1)).all (fun (a, next) => a.1 < next.1) = true) (ho : Op.lookupswitch.offset ps.toList dflt x.toInt = off) (ht : (pc : Int) + off = (tgt : Int)) (K : J p l e R s m args below meth c cells slots Qf D N A ce Acc nL S tgt L st) : J p l e R s m args below meth c cells slots Qf D N A ce Acc nL S pc L (.int x :: st) := fun H locs ls hP hS hl => lv_lookup C.1 C.2.1 d hp ho ht (K H locs ls hP hS hl)
theorem r_ifnonnull (C : Cx p s m args c cc nL own D tys N A X Acc) {x : Nat} {off : Int} (tgt : Nat) (d : decode cc pc = .ok (.ifnonnull off, 3)) (ht : (pc : Int) + off = (tgt : Int)) (K : J p l e R s m args below meth c cells slots Qf D N A ce Acc nL S tgt L st) : J p l e R s m args below meth c cells slots Qf D N A ce Acc nL S pc L (.ref x :: st) := fun H locs ls hP hS hl => lv_ifnonnull C.1 C.2.1 d ht (K H locs ls hP hS hl)
theorem r_ifnull (C : Cx p s m args c cc nL own D tys N A X Acc) {x : Nat} {off : Int} (d : decode cc pc = .ok (.ifnull off, 3)) (q : Nat) (hq : pc + 3 = q) (K : J p l e R s m args below meth c cells slots Qf D N A ce Acc nL S q L st) : J p l e R s m args below meth c cells slots Qf D N A ce Acc nL S pc L (.ref x :: st) := by
  subst hq
  exact fun H locs ls hP hS hl => lv_ifnull C.1 C.2.1 d (K H locs ls hP hS hl)
theorem r_ifnullN (C : Cx p s m args c cc nL own D tys N A X Acc) {off : Int} (tgt : Nat) (d : decode cc pc = .ok (.ifnull off, 3)) (ht : (pc : Int) + off = (tgt : Int)) (K : J p l e R s m args below meth c cells slots Qf D N A ce Acc nL S tgt L st) : J p l e R s m args below meth c cells slots Qf D N A ce Acc nL S pc L (.null :: st) := fun H locs ls hP hS hl => lv_ifnullN C.1 C.2.1 d ht (K H locs ls hP hS hl)
theorem r_ifnonnullN (C : Cx p s m args c cc nL own D tys N A X Acc) {off : Int} (d : decode cc pc = .ok (.ifnonnull off, 3)) (q : Nat) (hq : pc + 3 = q) (K : J p l e R s m args below meth c cells slots Qf D N A ce Acc nL S q L st) : J p l e R s m args below meth c cells slots Qf D N A ce Acc nL S pc L (.null :: st) := by
  subst hq
  exact fun H locs ls hP hS hl => lv_ifnonnullN C.1 C.2.1 d (K H locs ls hP hS hl)
theorem r_sub (L1 : List (Nat × Value)) (ks : List Nat) (hL : lv_pick L ks = L1) (K : J p l e R s m args below meth c cells slots Qf D N A ce Acc nL S pc L1 st) : J p l e R s m args below meth c cells slots Qf D N A ce Acc nL S pc L st := fun H locs ls hP hS hl => K H locs ls hP hS (lv_sub hl ks hL)
theorem r_state {S1 : Nat → Nat → Int32} (h : S = S1) (K : J p l e R s m args below meth c cells slots Qf D N A ce Acc nL S1 pc L st) : J p l e R s m args below meth c cells slots Qf D N A ce Acc nL S pc L st := by rw [h]; exact K
theorem r_topi {x : Int32} (K : ∀ y : Int32, y = x → J p l e R s m args below meth c cells slots Qf D N A ce Acc nL S pc L (.int y :: st)) : J p l e R s m args below meth c cells slots Qf D N A ce Acc nL S pc L (.int x :: st) := K x rfl
theorem r_get (C : Cx p s m args c cc nL own D tys N A X Acc) {ref C0 : String} {T : u_T} {nF ci index : Nat} (k f : Nat) {fs : List Value} (hin : ∀ w ∈ u_ws C0 T nF, w ∈ BIG) (hk : k < N) (he : ce k (S k) = .inr (ci, fs)) (hc : vwCl[ci]? = some (C0, T, nF)) (hf : f < nF) (hlink : Cond.fieldLink own index ref (T f).2.1 (T f).2.2.1 ∈ BIG) (href : ref = (T f).1) {v : Value} (hv : fs[f]? = some v) (d : decode cc pc = .ok (.getfield index, 3)) (q : Nat) (hq : pc + 3 = q) (K : J p l e R s m args below meth c cells slots Qf D N A ce Acc nL S q L (v :: st)) : J p l e R s m args below meth c cells slots Qf D N A ce Acc nL S pc L (.ref (A k) :: st) := by
  subst hq
  subst href
  exact fun H locs ls hP hS hl => va_get C.1 C.2.1 C.2.2.2.2.1 hin C.2.2.2.1 C.2.2.2.2.2.1 hP k (by rw [wd_at hk, he]) hc f hf (C.2.2.2.2.1 _ hlink) (fun _ h9 => h9) hv d (K H locs ls hP hS hl)
theorem r_put (C : Cx p s m args c cc nL own D tys N A X Acc) {ref C0 : String} {T : u_T} {nF ci index : Nat} (k f : Nat) {fs : List Value} (hin : ∀ w ∈ u_ws C0 T nF, w ∈ BIG) (ty0 : Nat → FieldType) (hty : ∀ k, k < nF → parseFieldDescriptor (T k).2.2.1 = some (ty0 k)) (hnm : ∀ a, a < nF → ∀ b, b < nF → a ≠ b → (T a).2.1 ≠ (T b).2.1) (hk : k < N) (he : ce k (S k) = .inr (ci, fs)) (hc : vwCl[ci]? = some (C0, T, nF)) (hf : f < nF) (hlink : Cond.fieldLink own index ref (T f).2.1 (T f).2.2.1 ∈ BIG) (href : ref = (T f).1) (hfin : (T f).2.2.2 = false) {ty : FieldType} {v : Value} (hd : parseFieldDescriptor (T f).2.2.1 = some ty) (hn : narrow ty v = v) (hfit : fits ty v = true) (hl0 : f < fs.length)
    (row : Nat → Int32) (he1 : ce k row = .inr (ci, fs.set f v)) (d : decode cc pc = .ok (.putfield index, 3)) (q : Nat) (hq : pc + 3 = q) (K : ∀ S1, S1 = upR S k row → J p l e R s m args below meth c cells slots Qf D N A ce Acc nL S1 q L st) : J p l e R s m args below meth c cells slots Qf D N A ce Acc nL S pc L (v :: .ref (A k) :: st) := by
  subst hq
  subst href
  intro H locs ls hP hS hl
  refine va_put C.1 C.2.1 C.2.2.2.2.1 hin ty0 hty hnm C.2.2.2.1 C.2.2.2.2.2.1 hP (wd_D C.2.2.2.2.2.2.1 C.2.2.2.2.2.2.2.1) hS k (by rw [wd_at hk, he]) hc f hf (C.2.2.2.2.1 _ hlink) (fun _ h9 => h9) hfin hd hn hfit hl0 d (fun H1 locs1 hP1 hD1 hS1 => ?_)
  rw [wd_set he1] at hP1
  exact K _ rfl H1 locs1 ls hP1 hS1 hl
theorem r_iald (C : Cx p s m args c cc nL own D tys N A X Acc) (k t0 : Nat) {cA : ClassId} {n : Nat} (hk : k < N) (he : ce k (S k) = .inl (cA, n, .inl (S k))) (ht : tys[t0]? = some (cA, .int)) {i : Int32} (hin : vp_in i n) (d : decode cc pc = .ok (.iaload, 1)) (q : Nat) (hq : pc + 1 = q) (K : J p l e R s m args below meth c cells slots Qf D N A ce Acc nL S q L (.int (S k i.toNatClampNeg) :: st)) : J p l e R s m args below meth c cells slots Qf D N A ce Acc nL S pc L (.int i :: .ref (A k) :: st) := by
  subst hq
  exact fun H locs ls hP hS hl => va_iald C.1 C.2.1 C.2.2.2.2.2.1 hP k t0 (by rw [wd_at hk, he]) ht hin d (K H locs ls hP hS hl)
theorem r_iast (C : Cx p s m args c cc nL own D tys N A X Acc) (k t0 : Nat) {cA : ClassId} {n : Nat} (hk : k < N) (he : ∀ f, ce k f = .inl (cA, n, .inl f)) (ht : tys[t0]? = some (cA, .int)) {i x : Int32} (hin : vp_in i n) (d : decode cc pc = .ok (.iastore, 1)) (q : Nat) (hq : pc + 1 = q) (K : ∀ S1, S1 = up2 S k i.toNatClampNeg x → J p l e R s m args below meth c cells slots Qf D N A ce Acc nL S1 q L st) : J p l e R s m args below meth c cells slots Qf D N A ce Acc nL S pc L (.int x :: .int i :: .ref (A k) :: st) := by
  subst hq
  intro H locs ls hP hS hl
  refine va_iast C.1 C.2.1 C.2.2.2.2.2.1 hP (wd_D C.2.2.2.2.2.2.1 C.2.2.2.2.2.2.2.1) hS k t0 (by rw [wd_at hk, he (S k)]) ht hin d (fun H1 locs1 hP1 hD1 hS1 => ?_)
  rw [wd_set (he _)] at hP1
  exact K _ rfl H1 locs1 ls hP1 hS1 hl
theorem r_aald (C : Cx p s m args c cc nL own D tys N A X Acc) (k t0 : Nat) {cA : ClassId} {n : Nat} {E : String} {g : Nat → Option Nat} (hk : k < N) (he : ce k (S k) = .inl (cA, n, .inr (.inr (.inr (.inr g))))) (ht : tys[t0]? = some (cA, .object E)) {i : Int32} (hin : vp_in i n) {v : Nat} (hv : g i.toNatClampNeg = some v) (d : decode cc pc = .ok (.aaload, 1)) (q : Nat) (hq : pc + 1 = q) (K : J p l e R s m args below meth c cells slots Qf D N A ce Acc nL S q L (.ref v :: st)) : J p l e R s m args below meth c cells slots Qf D N A ce Acc nL S pc L (.int i :: .ref (A k) :: st) := by
  subst hq
  intro H locs ls hP hS hl
  refine va_aldq C.1 C.2.1 C.2.2.2.2.2.1 hP k t0 (by rw [wd_at hk, he]) ht hin d ?_
  rw [hv]
  exact K H locs ls hP hS hl
theorem r_alen (C : Cx p s m args c cc nL own D tys N A X Acc) (k t0 : Nat) {cA : ClassId} {n : Nat} (hk : k < N) (he : ce k (S k) = .inl (cA, n, .inl (S k))) (ht : tys[t0]? = some (cA, .int)) (d : decode cc pc = .ok (.arraylength, 1)) (q : Nat) (hq : pc + 1 = q) (K : J p l e R s m args below meth c cells slots Qf D N A ce Acc nL S q L (.int (nI n) :: st)) : J p l e R s m args below meth c cells slots Qf D N A ce Acc nL S pc L (.ref (A k) :: st) := by
  subst hq
  exact fun H locs ls hP hS hl => va_alen C.1 C.2.1 C.2.2.2.2.2.1 hP k t0 (x := (n, .inl (S k))) (by rw [wd_at hk, he]) ht (v := nI n) rfl d (K H locs ls hP hS hl)
theorem r_iret (C : Cx p s m args c cc nL own D tys N A X Acc) {Q : Int32 → (Nat → Nat → Int32) → Prop} (hE : Qf = MQ below (QQ rI Q D tys N A ce Acc) args s 0 0 Acc) (hr : meth.sig.returnType = some .int) (hlk : meth.locks = false) {r : Int32}  (d : decode cc pc = .ok (.ireturn, 1)) (h : Q r S) : J p l e R s m args below meth c 0 0 Qf D N A ce Acc nL S pc L [.int r] := by
  subst hE
  intro H locs ls hP hS hl
  exact W.iret (hlocks := hlk) C.1 C.2.1 hr (fun t ht hW => ⟨⟨r, S, rfl, h, by rw [ht]; exact hP, va_K.moved hW.alike C.2.2.2.2.2.1⟩, hS.F ht⟩) hS.2.2 d
theorem r_zret (C : Cx p s m args c cc nL own D tys N A X Acc) {Q : Bool → (Nat → Nat → Int32) → Prop} (hE : Qf = MQ below (QQ rZ Q D tys N A ce Acc) args s 0 0 Acc) (hr : meth.sig.returnType = some .boolean) (hlk : meth.locks = false) {r : Bool}  (d : decode cc pc = .ok (.ireturn, 1)) (h : Q r S) : J p l e R s m args below meth c 0 0 Qf D N A ce Acc nL S pc L [.int (bI r)] := by
  subst hE
  intro H locs ls hP hS hl
  exact W.zret (hlocks := hlk) C.1 C.2.1 hr (by cases r <;> rfl) (fun t ht hW => ⟨⟨r, S, rfl, h, by rw [ht]; exact hP, va_K.moved hW.alike C.2.2.2.2.2.1⟩, hS.F ht⟩) hS.2.2 d
theorem r_vret (C : Cx p s m args c cc nL own D tys N A X Acc) {Q : Unit → (Nat → Nat → Int32) → Prop} (hE : Qf = MQ below (QQ rU Q D tys N A ce Acc) args s 0 0 Acc) (hr : meth.sig.returnType = none) (hlk : meth.locks = false) {r : Unit}  (d : decode cc pc = .ok (.return_, 1)) (h : Q r S) : J p l e R s m args below meth c 0 0 Qf D N A ce Acc nL S pc L [] := by
  subst hE
  intro H locs ls hP hS hl
  exact W.vret (hlocks := hlk) C.1 C.2.1 hr (fun t ht hW => ⟨⟨r, S, rfl, h, by rw [ht]; exact hP, va_K.moved hW.alike C.2.2.2.2.2.1⟩, hS.F ht⟩) hS.2.2 d
theorem r_aret (C : Cx p s m args c cc nL own D tys N A X Acc) {E : String} {b : Nat} {Q : Nat → (Nat → Nat → Int32) → Prop} (hE : Qf = MQ below (QQ (rA A b) Q D tys N A ce Acc) args s 0 0 Acc) (hr : meth.sig.returnType = some (.object E)) (hlk : meth.locks = false) {r : Nat} (d : decode cc pc = .ok (.areturn, 1)) (h : Q r S) : J p l e R s m args below meth c 0 0 Qf D N A ce Acc nL S pc L [.ref (A (b + r))] := by
  subst hE
  intro H locs ls hP hS hl
  exact W.aret (hlocks := hlk) C.1 C.2.1 hr (Or.inl ⟨_, rfl⟩) (Or.inr ⟨_, rfl⟩) (fun t ht hW => ⟨⟨r, S, rfl, h, by rw [ht]; exact hP, va_K.moved hW.alike C.2.2.2.2.2.1⟩, hS.F ht⟩) hS.2.2 d
theorem r_oret (C : Cx p s m args c cc nL own D tys N A X Acc) {E : String} {b : Nat} {Q : Option Nat → (Nat → Nat → Int32) → Prop} (hE : Qf = MQ below (QQ (rO A b) Q D tys N A ce Acc) args s 0 0 Acc) (hr : meth.sig.returnType = some (.object E)) (hlk : meth.locks = false) (r : Option Nat) {v : Value} (hv : rO' A b r = v) (d : decode cc pc = .ok (.areturn, 1)) (h : Q r S) : J p l e R s m args below meth c 0 0 Qf D N A ce Acc nL S pc L [v] := by
  subst hE
  subst hv
  intro H locs ls hP hS hl
  exact W.aret (hlocks := hlk) C.1 C.2.1 hr (Or.inl ⟨_, rfl⟩) (by cases r <;> first | exact Or.inl rfl | exact Or.inr ⟨_, rfl⟩) (fun t ht hW => ⟨⟨r, S, rfl, h, by rw [ht]; exact hP, va_K.moved hW.alike C.2.2.2.2.2.1⟩, hS.F ht⟩) hS.2.2 d
theorem r_sw (C : Cx p s m args c cc nL own D tys N A X Acc) {dflt lo hi : Int} {offs : Array Int} {len : Nat} {x : Int32} {off : Int} (v : Int32) (hx : x = v) (tgt : Nat) (d : decode cc pc = .ok (.tableswitch dflt lo hi offs, len)) (h1 : ¬ v.toInt < lo) (h2 : ¬ hi < v.toInt) (ho : offs[(v.toInt - lo).toNat]? = some off) (ht : (pc : Int) + off = (tgt : Int)) (K : J p l e R s m args below meth c cells slots Qf D N A ce Acc nL S tgt L st) : J p l e R s m args below meth c cells slots Qf D N A ce Acc nL S pc L (.int x :: st) := by subst hx; exact r_tableIn C tgt d h1 h2 ho ht K
theorem r_lsw (C : Cx p s m args c cc nL own D tys N A X Acc) {dflt : Int} {ps : Array (Int × Int)} {len : Nat} {x : Int32} {off : Int} (v : Int32) (hx : x = v) (tgt : Nat) (d : decode cc pc = .ok (.lookupswitch dflt ps, len)) (hp : (ps.toList.zip (ps.toList.drop 1)).all (fun (a, next) => a.1 < next.1) = true) (ho : Op.lookupswitch.offset ps.toList dflt v.toInt = off) (ht : (pc : Int) + off = (tgt : Int)) (K : J p l e R s m args below meth c cells slots Qf D N A ce Acc nL S tgt L st) : J p l e R s m args below meth c cells slots Qf D N A ce Acc nL S pc L (.int x :: st) := by subst hx; exact r_lookup C tgt d hp ho ht K
theorem r_max (C : Cx p s m args c cc nL own D tys N A X Acc) {index : Nat} {x y : Int32} (hlink : Cond.methodLink own index Lib.Math.max.name ∈ BIG) (hstat : Cond.static Lib.Math.max.name ∈ BIG) (hini : Cond.initialized "java/lang/Math" ∈ BIG) (hcode : Cond.code Lib.Math.max.name Lib.Math.max.code 2 (some .int) ∈ BIG) (hR : 1 ≤ R.frames ∧ (st.map fun v => v.category).sum + 13 ≤ R.locals ∧ cells ≤ R.cells ∧ slots ≤ R.slots) (d : decode cc pc = .ok (.invokestatic index, 3)) (q : Nat) (hq : pc + 3 = q) (K : J p l e R s m args below meth c cells slots Qf D N A ce Acc nL S q L (.int (if x < y then y else x) :: st)) : J p l e R s m args below meth c cells slots Qf D N A ce Acc nL S pc L (.int y :: .int x :: st) := by
  subst hq
  exact fun H locs ls hP hS hl => va_mmax C.1 C.2.1 (C.2.2.1.trans hl.1.symm) C.2.2.2.1 (C.2.2.2.2.1 _ hlink) (C.2.2.2.2.1 _ hstat) (C.2.2.2.2.1 _ hini) (C.2.2.2.2.1 _ hcode) hR.1 hR.2.1 hR.2.2.1 hR.2.2.2 d (K H locs ls hP hS hl)
theorem r_min (C : Cx p s m args c cc nL own D tys N A X Acc) {index : Nat} {x y : Int32} (hlink : Cond.methodLink own index Lib.Math.min.name ∈ BIG) (hstat : Cond.static Lib.Math.min.name ∈ BIG) (hini : Cond.initialized "java/lang/Math" ∈ BIG) (hcode : Cond.code Lib.Math.min.name Lib.Math.min.code 2 (some .int) ∈ BIG) (hR : 1 ≤ R.frames ∧ (st.map fun v => v.category).sum + 13 ≤ R.locals ∧ cells ≤ R.cells ∧ slots ≤ R.slots) (d : decode cc pc = .ok (.invokestatic index, 3)) (q : Nat) (hq : pc + 3 = q) (K : J p l e R s m args below meth c cells slots Qf D N A ce Acc nL S q L (.int (if y < x then y else x) :: st)) : J p l e R s m args below meth c cells slots Qf D N A ce Acc nL S pc L (.int y :: .int x :: st) := by
  subst hq
  exact fun H locs ls hP hS hl => va_mmin C.1 C.2.1 (C.2.2.1.trans hl.1.symm) C.2.2.2.1 (C.2.2.2.2.1 _ hlink) (C.2.2.2.2.1 _ hstat) (C.2.2.2.2.1 _ hini) (C.2.2.2.2.1 _ hcode) hR.1 hR.2.1 hR.2.2.1 hR.2.2.2 d (K H locs ls hP hS hl)
theorem r_copy (C : Cx p s m args c cc nL own D tys N A X Acc) {index : Nat} (k0 k1 t0 t1 : Nat) {c0 c1 : ClassId} {n0 n1 : Nat} {sp dp n : Int32} (hlink : Cond.methodLink own index arraycopyName ∈ BIG) (hnat : Cond.native arraycopyName ∈ BIG) (hstat : Cond.static arraycopyName ∈ BIG) (hini : Cond.initialized "java/lang/System" ∈ BIG)
    (hk0 : k0 < N) (hk1 : k1 < N) (he0 : ce k0 (S k0) = .inl (c0, n0, .inl (S k0))) (he1 : ∀ f, ce k1 f = .inl (c1, n1, .inl f)) (ht0 : tys[t0]? = some (c0, .int)) (ht1 : tys[t1]? = some (c1, .int))
    (h : ¬ sp < 0 ∧ ¬ dp < 0 ∧ ¬ n < 0 ∧ sp.toNatClampNeg + n.toNatClampNeg ≤ n0 ∧ dp.toNatClampNeg + n.toNatClampNeg ≤ n1) (hR : 1 ≤ R.frames ∧ (st.map fun v => v.category).sum + (nativeFrameWords "java/lang/System" "arraycopy" 5 + 11) ≤ R.locals)
    (d : decode cc pc = .ok (.invokestatic index, 3)) (q : Nat) (hq : pc + 3 = q) (K : ∀ S1, S1 = upR S k1 (va_cpy (S k0) (S k1) sp.toNatClampNeg dp.toNatClampNeg n.toNatClampNeg) → J p l e R s m args below meth c cells slots Qf D N A ce Acc nL S1 q L st) : J p l e R s m args below meth c cells slots Qf D N A ce Acc nL S pc L (.int n :: .int dp :: .ref (A k1) :: .int sp :: .ref (A k0) :: st) := by
  subst hq
  intro H locs ls hP hS hl
  refine va_copyi C.1 C.2.1 (C.2.2.1.trans hl.1.symm) C.2.2.2.1 (C.2.2.2.2.1 _ hlink) (C.2.2.2.2.1 _ hnat) (C.2.2.2.2.1 _ hstat) (C.2.2.2.2.1 _ hini) C.2.2.2.2.2.1 hP (wd_D C.2.2.2.2.2.2.1 C.2.2.2.2.2.2.2.1) hS k0 k1 t0 t1 (by rw [wd_at hk0, he0]) (by rw [wd_at hk1, he1 (S k1)]) ht0 ht1 rfl h.1 h.2.1 h.2.2.1 h.2.2.2.1 h.2.2.2.2 (fun i _ => rfl) hR.1 hR.2 d (fun H1 locs1 hP1 hD1 hS1 => ?_)
  rw [wd_set (he1 _)] at hP1
  exact K _ rfl H1 locs1 ls hP1 hS1 hl
end ROWS
section CALLS
variable {p : Program} {l : Launch} {e : Env} {R : Room} {s : State} {m : MethodId} {args : Array Value} {below : List Frame} {meth : Method} {c : Code} {cells slots : Nat} {Qf : State → Prop} {D : va_G} {N : Nat} {A : Nat → Nat} {ce : Nat → (Nat → Int32) → va_E} {Acc : Nat → Prop} {nL : Nat} {S : Nat → Nat → Int32} {pc : Nat} {L : List (Nat × Value)} {st : List Value} {cc : ByteArray} {own : String} {tys : List (ClassId × FieldType)} {X : (Nat → Prop) → State → Heap → Prop}
theorem acc_in (C : Cx p s m args c cc nL own D tys N A X Acc) {H : Heap} (hz : s.heap.size ≤ H.size) : ∀ q, acc N A H.size q → Acc q := fun q h => by
  rcases h with ⟨k, hk, rfl⟩ | h
  · exact C.2.2.2.2.2.2.2.1 k hk
  · exact C.2.2.2.2.2.2.2.2.1 q (Nat.le_trans hz h)
theorem pre_in (C : Cx p s m args c cc nL own D tys N A X Acc) {H : Heap} {locs : List Loc} (hP : va_P D vwCl (wd N A ce S) H) (hS : va_S Acc s.heap H locs) (argsL : List Value) : ∀ U : State, U.heap = H → s.WarmedH U.vm → PP argsL S D tys N A ce X H.size argsL.toArray U := by
  intro U hU hW
  refine ⟨rfl, by rw [hU], by rw [hU]; exact hP, va_K.moved hW.alike C.2.2.2.2.2.1, ?_⟩
  have hX := C.2.2.2.2.2.2.2.2.2.1
  have h1 : X Acc s H := hX.2.1 _ _ _ _ C.2.2.2.2.2.2.2.2.2.2 (fun a h1 h2 => hS.2.1 a h1 h2)
  have h2 : X (acc N A H.size) s H := hX.2.2 _ _ _ _ h1 (acc_in C hS.1)
  rw [hU]
  exact hX.1 _ _ _ _ hW h2
/-- behind a call: from its run to the machine behind it -/
theorem r_after (C : Cx p s m args c cc nL own D tys N A X Acc) {ρ : Type} {ret : ρ → Option Value} {Q : ρ → (Nat → Nat → Int32) → Prop} {st0 rest : List Value} {H : Heap} {locs : List Loc} {ls : Array Slot} {a : Array Value}
    (hS : va_S Acc s.heap H locs) (hl : lv_has ls nL L)
    (hr : va_Run p l e R s m args below meth c H locs cells slots 0 0 (F0 m pc ls st0) rest (QQ ret Q D tys N A ce (acc N A H.size) a) (acc N A H.size))
    (K : ∀ (r : ρ) (S1 : Nat → Nat → Int32), Q r S1 → J p l e R s m args below meth c cells slots Qf D N A ce Acc nL S1 (pc + 3) L ((ret r).toList ++ rest)) : W p l e R s m args below meth c H locs cells slots Qf (F0 m pc ls st0) := by
  intro T hT X0
  obtain ⟨v, st₀, t, T', L1, h0, X', hL, e1, e2, ⟨⟨r, S1, hv, hq, hP1, hK1⟩, hz, hk⟩, st⟩ := hr T hT X0
  cases hv
  rw [h0] at hz hk
  have hS1 : va_S Acc s.heap T'.heap (locs ++ L1) := ⟨Nat.le_trans hS.1 (by rw [e1]; exact hz), fun q h1 h2 => by
      rw [e1, hk q (Nat.lt_of_lt_of_le h1 hS.1) (fun z => h2 (acc_in C hS.1 q z))]; exact hS.2.1 q h1 h2, fun q hq => by
      rcases List.mem_append.mp hq with h | h
      · exact hS.2.2 q h
      · exact acc_in C hS.1 _ (hL q h)⟩
  obtain ⟨t2, a1, b1⟩ := K r S1 hq T'.heap (locs ++ L1) ls (by rw [e1]; exact hP1) hS1 hl T' rfl X'
  exact ⟨t2, st t2 a1, b1⟩
/-- the words and the room of a call -/
theorem cb_of (C : Cx p s m args c cc nL own D tys N A X Acc) {y : MethodName} {cy : ByteArray} {ny : Nat} {ry : Option FieldType} {fr lo index : Nat} (n : Nat)
    (hcode : Cond.code y cy ny ry ∈ BIG) (hini : Cond.initialized y.cls ∈ BIG) (hlink : Cond.methodLink own index y ∈ BIG)
    (hd : y.cls ≠ "java/lang/invoke/MethodHandle" ∧ y.cls ≠ "java/lang/invoke/VarHandle" ∧ (parseMethodDescriptor y.desc).map (fun d => d.parameters.length) = some n) (hR : fr + 1 ≤ R.frames ∧ 8 + (ny + 11) + lo ≤ R.locals) :
    CallB R s args own index y cy ny ry (wsq y cy ny ry) ({ frames := fr, cells := 0, slots := 0, locals := lo }) 0 0 n := by
  have hts := C.2.2.2.2.1
  have hG : GoodIn (wsq y cy ny ry) (wsq y cy ny ry) := fun w hw => ⟨hw, by
    rcases List.mem_cons.mp hw with rfl | h
    · exact BIG_good _ hcode
    · exact BIG_good _ h⟩
  exact callB_of (Ts := wsq y cy ny ry) n (fun w hw => by
    rcases List.mem_cons.mp hw with rfl | h
    · exact hts _ hcode
    · exact hts _ h) hG rfl rfl rfl (hts _ hini) (hts _ hlink) hd hR

theorem r_callV (C : Cx p s m args c cc nL own D tys N A X Acc) {ρ : Type} {ret : ρ → Option Value} {Q : ρ → (Nat → Nat → Int32) → Prop} {y : MethodName} {cy : ByteArray} {ny : Nat} {ry : Option FieldType} {fr lo index : Nat} {As : List Value} (k : Nat) {ci : Nat} {T : u_T} {nF : Nat} {fs : List Value} (rest : List Value) {st0 : List Value}
    (h : Ct l D tys N A ce X y cy ny ry fr lo (.ref (A k) :: As) S ret Q) (hk : k < N) (he : ce k (S k) = .inr (ci, fs)) (hc : vwCl[ci]? = some (y.cls, T, nF))
    (hcode : Cond.code y cy ny ry ∈ BIG) (hini : Cond.initialized y.cls ∈ BIG) (hinst : Cond.instanceMethod y ∈ BIG) (hsel : Cond.selects y.cls y y ∈ BIG) (hlink : Cond.methodLink own index y ∈ BIG)
    (hd : y.cls ≠ "java/lang/invoke/MethodHandle" ∧ y.cls ≠ "java/lang/invoke/VarHandle" ∧ (parseMethodDescriptor y.desc).map (fun d => d.parameters.length) = some As.length) (hR : fr + 1 ≤ R.frames ∧ 8 + (ny + 11) + lo ≤ R.locals) (hst : st0 = As.reverse ++ .ref (A k) :: rest) (hcat : (rest.map fun v => v.category).sum ≤ 8) (hcs : cells ≤ R.cells ∧ slots ≤ R.slots)
    (d : decode cc pc = .ok (.invokevirtual index, 3)) (q : Nat) (hq : pc + 3 = q) (K : ∀ (r : ρ) (S1 : Nat → Nat → Int32), Q r S1 → J p l e R s m args below meth c cells slots Qf D N A ce Acc nL S1 q L ((ret r).toList ++ rest)) : J p l e R s m args below meth c cells slots Qf D N A ce Acc nL S pc L st0 := by
  subst hq
  intro H locs ls hP hS hl
  refine r_after C hS hl (va_runV ⟨C.1, C.2.1, C.2.2.1, C.2.2.2.1, C.2.2.2.2.1⟩ (h H.size) ⟨cb_of C As.length hcode hini hlink hd hR, C.2.2.2.2.1 _ hinst, C.2.2.2.2.1 _ hsel⟩ ⟨PP_blind C.2.2.2.2.2.2.2.2.2.1, va_recv C.2.2.2.2.2.1 hP hc (q0 := k) (by rw [wd_at hk, he]), pre_in C hP hS _⟩ rfl rfl hl.1 hst (lv_room hcat) d ⟨hcs.1, hcs.2⟩) K
theorem r_callS (C : Cx p s m args c cc nL own D tys N A X Acc) {ρ : Type} {ret : ρ → Option Value} {Q : ρ → (Nat → Nat → Int32) → Prop} {y : MethodName} {cy : ByteArray} {ny : Nat} {ry : Option FieldType} {fr lo index : Nat} {As : List Value} (rest : List Value) {st0 : List Value}
    (h : Ct l D tys N A ce X y cy ny ry fr lo As S ret Q)
    (hcode : Cond.code y cy ny ry ∈ BIG) (hini : Cond.initialized y.cls ∈ BIG) (hstat : Cond.static y ∈ BIG) (hlink : Cond.methodLink own index y ∈ BIG)
    (hd : y.cls ≠ "java/lang/invoke/MethodHandle" ∧ y.cls ≠ "java/lang/invoke/VarHandle" ∧ (parseMethodDescriptor y.desc).map (fun d => d.parameters.length) = some As.length) (hR : fr + 1 ≤ R.frames ∧ 8 + (ny + 11) + lo ≤ R.locals) (hst : st0 = As.reverse ++ rest) (hcat : (rest.map fun v => v.category).sum ≤ 8) (hcs : cells ≤ R.cells ∧ slots ≤ R.slots)
    (d : decode cc pc = .ok (.invokestatic index, 3)) (q : Nat) (hq : pc + 3 = q) (K : ∀ (r : ρ) (S1 : Nat → Nat → Int32), Q r S1 → J p l e R s m args below meth c cells slots Qf D N A ce Acc nL S1 q L ((ret r).toList ++ rest)) : J p l e R s m args below meth c cells slots Qf D N A ce Acc nL S pc L st0 := by
  subst hq
  intro H locs ls hP hS hl
  refine r_after C hS hl (va_runS ⟨C.1, C.2.1, C.2.2.1, C.2.2.2.1, C.2.2.2.2.1⟩ (h H.size) ⟨cb_of C As.length hcode hini hlink hd hR, C.2.2.2.2.1 _ hstat⟩ ⟨PP_blind C.2.2.2.2.2.2.2.2.2.1, pre_in C hP hS _⟩ rfl rfl hl.1 hst (lv_room hcat) d ⟨hcs.1, hcs.2⟩) K
end CALLS
end
section
/-! THE TWO WORLDS: the class's 32 cells, the model's 23 -/
def ceC (A : Nat → Nat) (n : Nat → Nat) (cI cG cR : ClassId) : Nat → (Nat → Int32) → va_E := fun k f =>
  if k = 0 then .inr (4, [.ref (A 1), .ref (A 2)]) else
  if k = 1 then .inr (1, [.ref (A 26), .ref (A 29), .ref (A 6), .ref (A 7), .ref (A 8), .ref (A 9), .ref (A 10), .ref (A 11), .ref (A (if f 8 = 0 then 30 else 31)), .ref (A (if f 9 = 0 then 30 else 31)), .int (f 10), .int (f 11), .int (f 12)]) else
  if k = 2 then .inr (2, [.ref (A 1), .ref (A 27), .ref (A 28), .int (f 3), .int (f 4), .int (f 5)]) else
  if k < 6 then .inr (0, [.int (f 0), .int (f 1), .int (f 2), .int (f 3), .int (f 4), .int (f 5), .int (f 6), .int (f 7), .int (f 8), .int (f 9)]) else
  if k < 16 then .inr (3, [.ref (A (k + 10)), .int (f 1)]) else
  if k < 29 then .inl (cI, n k, .inl f) else
  if k = 29 then .inl (cG, 3, .inr (.inr (.inr (.inr (fun i => some (A (3 + i))))))) else
  .inl (cR, 2, .inr (.inr (.inr (.inr (fun i => some (A (12 + 2 * (k - 30) + i)))))))
def lenM : Nat → Nat := fun k => match k with
  | 1 => 1793
  | 2 => 1793
  | 3 => 2
  | 4 => 3
  | 5 => 3
  | 6 => 16
  | 7 => 40
  | 8 => 8
  | 9 => 460
  | 10 => 460
  | 11 => 64
  | 12 => 2
  | 13 => 2000
  | 14 => 2
  | 15 => 2000
  | 16 => 3
  | 17 => 8
  | 18 => 256
  | 19 => 3
  | 20 => 3
  | 21 => 3
  | 22 => 3
  | _ => 0
def ceM (A : Nat → Nat) (cI : ClassId) : Nat → (Nat → Int32) → va_E := fun k f =>
  if k = 0 then .inr (5, [.int (f 0), .ref (A 1), .ref (A 2), .int (f 3), .ref (A 3), .int (f 5), .ref (A 4), .ref (A 5), .ref (A 6), .int (f 9), .ref (A 7), .ref (A 8), .int (f 12), .ref (A 9), .int (f 14), .ref (A 10), .int (f 16), .ref (A 11), .ref (A 12), .ref (A 13), .ref (A 14), .ref (A 15), .ref (A 16), .int (f 23), .int (f 24), .int (f 25), .int (f 26), .int (f 27), .ref (A 17), .int (f 29), .ref (A 18), .int (f 31), .int (f 32), .ref (A 19), .ref (A 20), .ref (A 21), .ref (A 22)]) else .inl (cI, lenM k, .inl f)
abbrev tyC (cI cG cR : ClassId) : List (ClassId × FieldType) := [(cI, .int), (cG, .object "StoreNotes$Generation"), (cR, .object "StoreNotes$Row")]
abbrev tyM (cI : ClassId) : List (ClassId × FieldType) := [(cI, .int)]
theorem heC_4 {A : Nat → Nat} {n : Nat → Nat} {cI cG cR : ClassId}  (f : Nat → Int32) : ceC A n cI cG cR 0 f = .inr (4, [.ref (A 1), .ref (A 2)]) := rfl
theorem heC_1 {A : Nat → Nat} {n : Nat → Nat} {cI cG cR : ClassId}  (f : Nat → Int32) : ceC A n cI cG cR 1 f = .inr (1, [.ref (A 26), .ref (A 29), .ref (A 6), .ref (A 7), .ref (A 8), .ref (A 9), .ref (A 10), .ref (A 11), .ref (A (if f 8 = 0 then 30 else 31)), .ref (A (if f 9 = 0 then 30 else 31)), .int (f 10), .int (f 11), .int (f 12)]) := rfl
theorem heC_2 {A : Nat → Nat} {n : Nat → Nat} {cI cG cR : ClassId}  (f : Nat → Int32) : ceC A n cI cG cR 2 f = .inr (2, [.ref (A 1), .ref (A 27), .ref (A 28), .int (f 3), .int (f 4), .int (f 5)]) := rfl
theorem heC_0 {A : Nat → Nat} {n : Nat → Nat} {cI cG cR : ClassId} {k : Nat} (h0 : 3 ≤ k) (h1 : k < 6) (f : Nat → Int32) : ceC A n cI cG cR k f = .inr (0, [.int (f 0), .int (f 1), .int (f 2), .int (f 3), .int (f 4), .int (f 5), .int (f 6), .int (f 7), .int (f 8), .int (f 9)]) := by unfold ceC; rw [if_neg (by omega), if_neg (by omega), if_neg (by omega), if_pos h1]
theorem heC_3 {A : Nat → Nat} {n : Nat → Nat} {cI cG cR : ClassId} {k : Nat} (h0 : 6 ≤ k) (h1 : k < 16) (f : Nat → Int32) : ceC A n cI cG cR k f = .inr (3, [.ref (A (k + 10)), .int (f 1)]) := by unfold ceC; rw [if_neg (by omega), if_neg (by omega), if_neg (by omega), if_neg (by omega), if_pos h1]
theorem heC_i {A : Nat → Nat} {n : Nat → Nat} {cI cG cR : ClassId} {k : Nat} (h0 : 16 ≤ k) (h1 : k < 29) (f : Nat → Int32) : ceC A n cI cG cR k f = .inl (cI, n k, .inl f) := by unfold ceC; rw [if_neg (by omega), if_neg (by omega), if_neg (by omega), if_neg (by omega), if_neg (by omega), if_pos h1]
theorem heC_g {A : Nat → Nat} {n : Nat → Nat} {cI cG cR : ClassId} (f : Nat → Int32) : ceC A n cI cG cR 29 f = .inl (cG, 3, .inr (.inr (.inr (.inr (fun i => some (A (3 + i))))))) := rfl
theorem heC_r {A : Nat → Nat} {n : Nat → Nat} {cI cG cR : ClassId} {k : Nat} (h0 : 30 ≤ k) (f : Nat → Int32) : ceC A n cI cG cR k f = .inl (cR, 2, .inr (.inr (.inr (.inr (fun i => some (A (12 + 2 * (k - 30) + i))))))) := by unfold ceC; rw [if_neg (by omega), if_neg (by omega), if_neg (by omega), if_neg (by omega), if_neg (by omega), if_neg (by omega), if_neg (by omega)]
theorem heM_o {A : Nat → Nat} {cI : ClassId} (f : Nat → Int32) : ceM A cI 0 f = .inr (5, [.int (f 0), .ref (A 1), .ref (A 2), .int (f 3), .ref (A 3), .int (f 5), .ref (A 4), .ref (A 5), .ref (A 6), .int (f 9), .ref (A 7), .ref (A 8), .int (f 12), .ref (A 9), .int (f 14), .ref (A 10), .int (f 16), .ref (A 11), .ref (A 12), .ref (A 13), .ref (A 14), .ref (A 15), .ref (A 16), .int (f 23), .int (f 24), .int (f 25), .int (f 26), .int (f 27), .ref (A 17), .int (f 29), .ref (A 18), .int (f 31), .int (f 32), .ref (A 19), .ref (A 20), .ref (A 21), .ref (A 22)]) := rfl
theorem heM_i {A : Nat → Nat} {cI : ClassId} {k : Nat} (h0 : 1 ≤ k) (f : Nat → Int32) : ceM A cI k f = .inl (cI, lenM k, .inl f) := by unfold ceM; rw [if_neg (by omega)]
theorem hin0 : ∀ w ∈ u_ws RX0 TX0 10, w ∈ BIG := by
  intro w hw
  have h1 : ∀ w ∈ u_ws RX0 TX0 10, w ∈ lw_tbl := by decide +kernel
  have h2 : (u_ws RX0 TX0 10).all goodWord = true := by decide +kernel
  exact List.mem_filter.mpr ⟨h1 w hw, List.all_eq_true.mp h2 w hw⟩
theorem hin1 : ∀ w ∈ u_ws RX1 TX1 13, w ∈ BIG := by
  intro w hw
  have h1 : ∀ w ∈ u_ws RX1 TX1 13, w ∈ lw_tbl := by decide +kernel
  have h2 : (u_ws RX1 TX1 13).all goodWord = true := by decide +kernel
  exact List.mem_filter.mpr ⟨h1 w hw, List.all_eq_true.mp h2 w hw⟩
theorem hin2 : ∀ w ∈ u_ws RX2 TX2 6, w ∈ BIG := by
  intro w hw
  have h1 : ∀ w ∈ u_ws RX2 TX2 6, w ∈ lw_tbl := by decide +kernel
  have h2 : (u_ws RX2 TX2 6).all goodWord = true := by decide +kernel
  exact List.mem_filter.mpr ⟨h1 w hw, List.all_eq_true.mp h2 w hw⟩
theorem hin3 : ∀ w ∈ u_ws RX3 TX3 2, w ∈ BIG := by
  intro w hw
  have h1 : ∀ w ∈ u_ws RX3 TX3 2, w ∈ lw_tbl := by decide +kernel
  have h2 : (u_ws RX3 TX3 2).all goodWord = true := by decide +kernel
  exact List.mem_filter.mpr ⟨h1 w hw, List.all_eq_true.mp h2 w hw⟩
theorem hin4 : ∀ w ∈ u_ws RX4 TX4 2, w ∈ BIG := by
  intro w hw
  have h1 : ∀ w ∈ u_ws RX4 TX4 2, w ∈ lw_tbl := by decide +kernel
  have h2 : (u_ws RX4 TX4 2).all goodWord = true := by decide +kernel
  exact List.mem_filter.mpr ⟨h1 w hw, List.all_eq_true.mp h2 w hw⟩
theorem hin5 : ∀ w ∈ u_ws RX5 TX5 37, w ∈ BIG := by
  intro w hw
  have h1 : ∀ w ∈ u_ws RX5 TX5 37, w ∈ lw_tbl := by decide +kernel
  have h2 : (u_ws RX5 TX5 37).all goodWord = true := by decide +kernel
  exact List.mem_filter.mpr ⟨h1 w hw, List.all_eq_true.mp h2 w hw⟩
section WROWS
variable {p : Program} {l : Launch} {e : Env} {R : Room} {s : State} {m : MethodId} {args : Array Value} {below : List Frame} {meth : Method} {c : Code} {cells slots : Nat} {Qf : State → Prop} {D : va_G} {A : Nat → Nat} {n : Nat → Nat} {cI cG cR : ClassId} {Acc : Nat → Prop} {nL : Nat} {S : Nat → Nat → Int32} {pc : Nat} {L : List (Nat × Value)} {st : List Value} {cc : ByteArray} {X : (Nat → Prop) → State → Heap → Prop}
theorem b_93 : Cond.fieldLink RX3 9 "StoreNotes$Row" "items" "[I" ∈ BIG := List.mem_filter.mpr ⟨List.mem_of_getElem? (i := 93) (by decide +kernel), by decide +kernel⟩
theorem g_RX3_9 (C : Cx p s m args c cc nL RX3 D (tyC cI cG cR) 32 A X Acc) {k : Nat} (h0 : 6 ≤ k) (h1 : k < 16) (d : decode cc pc = .ok (.getfield 9, 3)) (q : Nat) (hq : pc + 3 = q) (K : J p l e R s m args below meth c cells slots Qf D 32 A (ceC A n cI cG cR) Acc nL S q L (.ref (A (k + 10)) :: st)) : J p l e R s m args below meth c cells slots Qf D 32 A (ceC A n cI cG cR) Acc nL S pc L (.ref (A k) :: st) := r_get C k 0 hin3 (by omega) (heC_3 h0 h1 (S k)) (ci := 3) (nF := 2) rfl (Nat.le_of_ble_eq_true rfl) b_93 rfl rfl d q hq K
theorem b_94 : Cond.fieldLink RX4 46 "StoreNotes$Row" "items" "[I" ∈ BIG := List.mem_filter.mpr ⟨List.mem_of_getElem? (i := 94) (by decide +kernel), by decide +kernel⟩
theorem g_RX4_46 (C : Cx p s m args c cc nL RX4 D (tyC cI cG cR) 32 A X Acc) {k : Nat} (h0 : 6 ≤ k) (h1 : k < 16) (d : decode cc pc = .ok (.getfield 46, 3)) (q : Nat) (hq : pc + 3 = q) (K : J p l e R s m args below meth c cells slots Qf D 32 A (ceC A n cI cG cR) Acc nL S q L (.ref (A (k + 10)) :: st)) : J p l e R s m args below meth c cells slots Qf D 32 A (ceC A n cI cG cR) Acc nL S pc L (.ref (A k) :: st) := r_get C k 0 hin3 (by omega) (heC_3 h0 h1 (S k)) (ci := 3) (nF := 2) rfl (Nat.le_of_ble_eq_true rfl) b_94 rfl rfl d q hq K
theorem b_95 : Cond.fieldLink RX2 43 "StoreNotes$Row" "items" "[I" ∈ BIG := List.mem_filter.mpr ⟨List.mem_of_getElem? (i := 95) (by decide +kernel), by decide +kernel⟩
theorem g_RX2_43 (C : Cx p s m args c cc nL RX2 D (tyC cI cG cR) 32 A X Acc) {k : Nat} (h0 : 6 ≤ k) (h1 : k < 16) (d : decode cc pc = .ok (.getfield 43, 3)) (q : Nat) (hq : pc + 3 = q) (K : J p l e R s m args below meth c cells slots Qf D 32 A (ceC A n cI cG cR) Acc nL S q L (.ref (A (k + 10)) :: st)) : J p l e R s m args below meth c cells slots Qf D 32 A (ceC A n cI cG cR) Acc nL S pc L (.ref (A k) :: st) := r_get C k 0 hin3 (by omega) (heC_3 h0 h1 (S k)) (ci := 3) (nF := 2) rfl (Nat.le_of_ble_eq_true rfl) b_95 rfl rfl d q hq K
theorem b_96 : Cond.fieldLink RX1 63 "StoreNotes$Row" "items" "[I" ∈ BIG := List.mem_filter.mpr ⟨List.mem_of_getElem? (i := 96) (by decide +kernel), by decide +kernel⟩
theorem g_RX1_63 (C : Cx p s m args c cc nL RX1 D (tyC cI cG cR) 32 A X Acc) {k : Nat} (h0 : 6 ≤ k) (h1 : k < 16) (d : decode cc pc = .ok (.getfield 63, 3)) (q : Nat) (hq : pc + 3 = q) (K : J p l e R s m args below meth c cells slots Qf D 32 A (ceC A n cI cG cR) Acc nL S q L (.ref (A (k + 10)) :: st)) : J p l e R s m args below meth c cells slots Qf D 32 A (ceC A n cI cG cR) Acc nL S pc L (.ref (A k) :: st) := r_get C k 0 hin3 (by omega) (heC_3 h0 h1 (S k)) (ci := 3) (nF := 2) rfl (Nat.le_of_ble_eq_true rfl) b_96 rfl rfl d q hq K
theorem b_97 : Cond.fieldLink RX3 15 "StoreNotes$Row" "size" "I" ∈ BIG := List.mem_filter.mpr ⟨List.mem_of_getElem? (i := 97) (by decide +kernel), by decide +kernel⟩
theorem g_RX3_15 (C : Cx p s m args c cc nL RX3 D (tyC cI cG cR) 32 A X Acc) {k : Nat} (h0 : 6 ≤ k) (h1 : k < 16) (d : decode cc pc = .ok (.getfield 15, 3)) (q : Nat) (hq : pc + 3 = q) (K : J p l e R s m args below meth c cells slots Qf D 32 A (ceC A n cI cG cR) Acc nL S q L (.int (S k 1) :: st)) : J p l e R s m args below meth c cells slots Qf D 32 A (ceC A n cI cG cR) Acc nL S pc L (.ref (A k) :: st) := r_get C k 1 hin3 (by omega) (heC_3 h0 h1 (S k)) (ci := 3) (nF := 2) rfl (Nat.le_of_ble_eq_true rfl) b_97 rfl rfl d q hq K
theorem p_RX3_15 (C : Cx p s m args c cc nL RX3 D (tyC cI cG cR) 32 A X Acc) {k : Nat} (h0 : 6 ≤ k) (h1 : k < 16) {x : Int32} (d : decode cc pc = .ok (.putfield 15, 3)) (q : Nat) (hq : pc + 3 = q) (K : ∀ S1, S1 = up2 S k 1 x → J p l e R s m args below meth c cells slots Qf D 32 A (ceC A n cI cG cR) Acc nL S1 q L st) : J p l e R s m args below meth c cells slots Qf D 32 A (ceC A n cI cG cR) Acc nL S pc L (.int x :: .ref (A k) :: st) := r_put C k 1 hin3 tyX3 tyX3_ok nmX3 (by omega) (heC_3 h0 h1 (S k)) (ci := 3) (nF := 2) rfl (Nat.le_of_ble_eq_true rfl) b_97 rfl rfl (ty := tyX3 1) (by decide +kernel) rfl rfl (Nat.le_of_ble_eq_true rfl) (upd (S k) 1 x) (by rw [heC_3 h0 h1]; rfl) d q hq K
theorem b_98 : Cond.fieldLink RX2 54 "StoreNotes$Row" "size" "I" ∈ BIG := List.mem_filter.mpr ⟨List.mem_of_getElem? (i := 98) (by decide +kernel), by decide +kernel⟩
theorem g_RX2_54 (C : Cx p s m args c cc nL RX2 D (tyC cI cG cR) 32 A X Acc) {k : Nat} (h0 : 6 ≤ k) (h1 : k < 16) (d : decode cc pc = .ok (.getfield 54, 3)) (q : Nat) (hq : pc + 3 = q) (K : J p l e R s m args below meth c cells slots Qf D 32 A (ceC A n cI cG cR) Acc nL S q L (.int (S k 1) :: st)) : J p l e R s m args below meth c cells slots Qf D 32 A (ceC A n cI cG cR) Acc nL S pc L (.ref (A k) :: st) := r_get C k 1 hin3 (by omega) (heC_3 h0 h1 (S k)) (ci := 3) (nF := 2) rfl (Nat.le_of_ble_eq_true rfl) b_98 rfl rfl d q hq K
theorem p_RX2_54 (C : Cx p s m args c cc nL RX2 D (tyC cI cG cR) 32 A X Acc) {k : Nat} (h0 : 6 ≤ k) (h1 : k < 16) {x : Int32} (d : decode cc pc = .ok (.putfield 54, 3)) (q : Nat) (hq : pc + 3 = q) (K : ∀ S1, S1 = up2 S k 1 x → J p l e R s m args below meth c cells slots Qf D 32 A (ceC A n cI cG cR) Acc nL S1 q L st) : J p l e R s m args below meth c cells slots Qf D 32 A (ceC A n cI cG cR) Acc nL S pc L (.int x :: .ref (A k) :: st) := r_put C k 1 hin3 tyX3 tyX3_ok nmX3 (by omega) (heC_3 h0 h1 (S k)) (ci := 3) (nF := 2) rfl (Nat.le_of_ble_eq_true rfl) b_98 rfl rfl (ty := tyX3 1) (by decide +kernel) rfl rfl (Nat.le_of_ble_eq_true rfl) (upd (S k) 1 x) (by rw [heC_3 h0 h1]; rfl) d q hq K
theorem b_99 : Cond.fieldLink RX4 87 "StoreNotes$Row" "size" "I" ∈ BIG := List.mem_filter.mpr ⟨List.mem_of_getElem? (i := 99) (by decide +kernel), by decide +kernel⟩
theorem g_RX4_87 (C : Cx p s m args c cc nL RX4 D (tyC cI cG cR) 32 A X Acc) {k : Nat} (h0 : 6 ≤ k) (h1 : k < 16) (d : decode cc pc = .ok (.getfield 87, 3)) (q : Nat) (hq : pc + 3 = q) (K : J p l e R s m args below meth c cells slots Qf D 32 A (ceC A n cI cG cR) Acc nL S q L (.int (S k 1) :: st)) : J p l e R s m args below meth c cells slots Qf D 32 A (ceC A n cI cG cR) Acc nL S pc L (.ref (A k) :: st) := r_get C k 1 hin3 (by omega) (heC_3 h0 h1 (S k)) (ci := 3) (nF := 2) rfl (Nat.le_of_ble_eq_true rfl) b_99 rfl rfl d q hq K
theorem p_RX4_87 (C : Cx p s m args c cc nL RX4 D (tyC cI cG cR) 32 A X Acc) {k : Nat} (h0 : 6 ≤ k) (h1 : k < 16) {x : Int32} (d : decode cc pc = .ok (.putfield 87, 3)) (q : Nat) (hq : pc + 3 = q) (K : ∀ S1, S1 = up2 S k 1 x → J p l e R s m args below meth c cells slots Qf D 32 A (ceC A n cI cG cR) Acc nL S1 q L st) : J p l e R s m args below meth c cells slots Qf D 32 A (ceC A n cI cG cR) Acc nL S pc L (.int x :: .ref (A k) :: st) := r_put C k 1 hin3 tyX3 tyX3_ok nmX3 (by omega) (heC_3 h0 h1 (S k)) (ci := 3) (nF := 2) rfl (Nat.le_of_ble_eq_true rfl) b_99 rfl rfl (ty := tyX3 1) (by decide +kernel) rfl rfl (Nat.le_of_ble_eq_true rfl) (upd (S k) 1 x) (by rw [heC_3 h0 h1]; rfl) d q hq K
theorem b_100 : Cond.fieldLink RX1 97 "StoreNotes$Row" "size" "I" ∈ BIG := List.mem_filter.mpr ⟨List.mem_of_getElem? (i := 100) (by decide +kernel), by decide +kernel⟩
theorem g_RX1_97 (C : Cx p s m args c cc nL RX1 D (tyC cI cG cR) 32 A X Acc) {k : Nat} (h0 : 6 ≤ k) (h1 : k < 16) (d : decode cc pc = .ok (.getfield 97, 3)) (q : Nat) (hq : pc + 3 = q) (K : J p l e R s m args below meth c cells slots Qf D 32 A (ceC A n cI cG cR) Acc nL S q L (.int (S k 1) :: st)) : J p l e R s m args below meth c cells slots Qf D 32 A (ceC A n cI cG cR) Acc nL S pc L (.ref (A k) :: st) := r_get C k 1 hin3 (by omega) (heC_3 h0 h1 (S k)) (ci := 3) (nF := 2) rfl (Nat.le_of_ble_eq_true rfl) b_100 rfl rfl d q hq K
theorem p_RX1_97 (C : Cx p s m args c cc nL RX1 D (tyC cI cG cR) 32 A X Acc) {k : Nat} (h0 : 6 ≤ k) (h1 : k < 16) {x : Int32} (d : decode cc pc = .ok (.putfield 97, 3)) (q : Nat) (hq : pc + 3 = q) (K : ∀ S1, S1 = up2 S k 1 x → J p l e R s m args below meth c cells slots Qf D 32 A (ceC A n cI cG cR) Acc nL S1 q L st) : J p l e R s m args below meth c cells slots Qf D 32 A (ceC A n cI cG cR) Acc nL S pc L (.int x :: .ref (A k) :: st) := r_put C k 1 hin3 tyX3 tyX3_ok nmX3 (by omega) (heC_3 h0 h1 (S k)) (ci := 3) (nF := 2) rfl (Nat.le_of_ble_eq_true rfl) b_100 rfl rfl (ty := tyX3 1) (by decide +kernel) rfl rfl (Nat.le_of_ble_eq_true rfl) (upd (S k) 1 x) (by rw [heC_3 h0 h1]; rfl) d q hq K
theorem b_112 : Cond.fieldLink RX0 9 "StoreNotes$Generation" "number" "I" ∈ BIG := List.mem_filter.mpr ⟨List.mem_of_getElem? (i := 112) (by decide +kernel), by decide +kernel⟩
theorem g_RX0_9 (C : Cx p s m args c cc nL RX0 D (tyC cI cG cR) 32 A X Acc) {k : Nat} (h0 : 3 ≤ k) (h1 : k < 6) (d : decode cc pc = .ok (.getfield 9, 3)) (q : Nat) (hq : pc + 3 = q) (K : J p l e R s m args below meth c cells slots Qf D 32 A (ceC A n cI cG cR) Acc nL S q L (.int (S k 0) :: st)) : J p l e R s m args below meth c cells slots Qf D 32 A (ceC A n cI cG cR) Acc nL S pc L (.ref (A k) :: st) := r_get C k 0 hin0 (by omega) (heC_0 h0 h1 (S k)) (ci := 0) (nF := 10) rfl (Nat.le_of_ble_eq_true rfl) b_112 rfl rfl d q hq K
theorem b_113 : Cond.fieldLink RX4 127 "StoreNotes$Generation" "number" "I" ∈ BIG := List.mem_filter.mpr ⟨List.mem_of_getElem? (i := 113) (by decide +kernel), by decide +kernel⟩
theorem g_RX4_127 (C : Cx p s m args c cc nL RX4 D (tyC cI cG cR) 32 A X Acc) {k : Nat} (h0 : 3 ≤ k) (h1 : k < 6) (d : decode cc pc = .ok (.getfield 127, 3)) (q : Nat) (hq : pc + 3 = q) (K : J p l e R s m args below meth c cells slots Qf D 32 A (ceC A n cI cG cR) Acc nL S q L (.int (S k 0) :: st)) : J p l e R s m args below meth c cells slots Qf D 32 A (ceC A n cI cG cR) Acc nL S pc L (.ref (A k) :: st) := r_get C k 0 hin0 (by omega) (heC_0 h0 h1 (S k)) (ci := 0) (nF := 10) rfl (Nat.le_of_ble_eq_true rfl) b_113 rfl rfl d q hq K
theorem b_114 : Cond.fieldLink RX1 123 "StoreNotes$Generation" "number" "I" ∈ BIG := List.mem_filter.mpr ⟨List.mem_of_getElem? (i := 114) (by decide +kernel), by decide +kernel⟩
theorem g_RX1_123 (C : Cx p s m args c cc nL RX1 D (tyC cI cG cR) 32 A X Acc) {k : Nat} (h0 : 3 ≤ k) (h1 : k < 6) (d : decode cc pc = .ok (.getfield 123, 3)) (q : Nat) (hq : pc + 3 = q) (K : J p l e R s m args below meth c cells slots Qf D 32 A (ceC A n cI cG cR) Acc nL S q L (.int (S k 0) :: st)) : J p l e R s m args below meth c cells slots Qf D 32 A (ceC A n cI cG cR) Acc nL S pc L (.ref (A k) :: st) := r_get C k 0 hin0 (by omega) (heC_0 h0 h1 (S k)) (ci := 0) (nF := 10) rfl (Nat.le_of_ble_eq_true rfl) b_114 rfl rfl d q hq K
theorem b_115 : Cond.fieldLink RX0 15 "StoreNotes$Generation" "first" "I" ∈ BIG := List.mem_filter.mpr ⟨List.mem_of_getElem? (i := 115) (by decide +kernel), by decide +kernel⟩
theorem g_RX0_15 (C : Cx p s m args c cc nL RX0 D (tyC cI cG cR) 32 A X Acc) {k : Nat} (h0 : 3 ≤ k) (h1 : k < 6) (d : decode cc pc = .ok (.getfield 15, 3)) (q : Nat) (hq : pc + 3 = q) (K : J p l e R s m args below meth c cells slots Qf D 32 A (ceC A n cI cG cR) Acc nL S q L (.int (S k 1) :: st)) : J p l e R s m args below meth c cells slots Qf D 32 A (ceC A n cI cG cR) Acc nL S pc L (.ref (A k) :: st) := r_get C k 1 hin0 (by omega) (heC_0 h0 h1 (S k)) (ci := 0) (nF := 10) rfl (Nat.le_of_ble_eq_true rfl) b_115 rfl rfl d q hq K
theorem b_116 : Cond.fieldLink RX1 66 "StoreNotes$Generation" "first" "I" ∈ BIG := List.mem_filter.mpr ⟨List.mem_of_getElem? (i := 116) (by decide +kernel), by decide +kernel⟩
theorem g_RX1_66 (C : Cx p s m args c cc nL RX1 D (tyC cI cG cR) 32 A X Acc) {k : Nat} (h0 : 3 ≤ k) (h1 : k < 6) (d : decode cc pc = .ok (.getfield 66, 3)) (q : Nat) (hq : pc + 3 = q) (K : J p l e R s m args below meth c cells slots Qf D 32 A (ceC A n cI cG cR) Acc nL S q L (.int (S k 1) :: st)) : J p l e R s m args below meth c cells slots Qf D 32 A (ceC A n cI cG cR) Acc nL S pc L (.ref (A k) :: st) := r_get C k 1 hin0 (by omega) (heC_0 h0 h1 (S k)) (ci := 0) (nF := 10) rfl (Nat.le_of_ble_eq_true rfl) b_116 rfl rfl d q hq K
theorem b_117 : Cond.fieldLink RX0 18 "StoreNotes$Generation" "size" "I" ∈ BIG := List.mem_filter.mpr ⟨List.mem_of_getElem? (i := 117) (by decide +kernel), by decide +kernel⟩
theorem g_RX0_18 (C : Cx p s m args c cc nL RX0 D (tyC cI cG cR) 32 A X Acc) {k : Nat} (h0 : 3 ≤ k) (h1 : k < 6) (d : decode cc pc = .ok (.getfield 18, 3)) (q : Nat) (hq : pc + 3 = q) (K : J p l e R s m args below meth c cells slots Qf D 32 A (ceC A n cI cG cR) Acc nL S q L (.int (S k 2) :: st)) : J p l e R s m args below meth c cells slots Qf D 32 A (ceC A n cI cG cR) Acc nL S pc L (.ref (A k) :: st) := r_get C k 2 hin0 (by omega) (heC_0 h0 h1 (S k)) (ci := 0) (nF := 10) rfl (Nat.le_of_ble_eq_true rfl) b_117 rfl rfl d q hq K
theorem b_118 : Cond.fieldLink RX0 21 "StoreNotes$Generation" "limit" "I" ∈ BIG := List.mem_filter.mpr ⟨List.mem_of_getElem? (i := 118) (by decide +kernel), by decide +kernel⟩
theorem g_RX0_21 (C : Cx p s m args c cc nL RX0 D (tyC cI cG cR) 32 A X Acc) {k : Nat} (h0 : 3 ≤ k) (h1 : k < 6) (d : decode cc pc = .ok (.getfield 21, 3)) (q : Nat) (hq : pc + 3 = q) (K : J p l e R s m args below meth c cells slots Qf D 32 A (ceC A n cI cG cR) Acc nL S q L (.int (S k 3) :: st)) : J p l e R s m args below meth c cells slots Qf D 32 A (ceC A n cI cG cR) Acc nL S pc L (.ref (A k) :: st) := r_get C k 3 hin0 (by omega) (heC_0 h0 h1 (S k)) (ci := 0) (nF := 10) rfl (Nat.le_of_ble_eq_true rfl) b_118 rfl rfl d q hq K
theorem b_119 : Cond.fieldLink RX1 174 "StoreNotes$Generation" "limit" "I" ∈ BIG := List.mem_filter.mpr ⟨List.mem_of_getElem? (i := 119) (by decide +kernel), by decide +kernel⟩
theorem g_RX1_174 (C : Cx p s m args c cc nL RX1 D (tyC cI cG cR) 32 A X Acc) {k : Nat} (h0 : 3 ≤ k) (h1 : k < 6) (d : decode cc pc = .ok (.getfield 174, 3)) (q : Nat) (hq : pc + 3 = q) (K : J p l e R s m args below meth c cells slots Qf D 32 A (ceC A n cI cG cR) Acc nL S q L (.int (S k 3) :: st)) : J p l e R s m args below meth c cells slots Qf D 32 A (ceC A n cI cG cR) Acc nL S pc L (.ref (A k) :: st) := r_get C k 3 hin0 (by omega) (heC_0 h0 h1 (S k)) (ci := 0) (nF := 10) rfl (Nat.le_of_ble_eq_true rfl) b_119 rfl rfl d q hq K
theorem b_120 : Cond.fieldLink RX0 24 "StoreNotes$Generation" "start" "I" ∈ BIG := List.mem_filter.mpr ⟨List.mem_of_getElem? (i := 120) (by decide +kernel), by decide +kernel⟩
theorem g_RX0_24 (C : Cx p s m args c cc nL RX0 D (tyC cI cG cR) 32 A X Acc) {k : Nat} (h0 : 3 ≤ k) (h1 : k < 6) (d : decode cc pc = .ok (.getfield 24, 3)) (q : Nat) (hq : pc + 3 = q) (K : J p l e R s m args below meth c cells slots Qf D 32 A (ceC A n cI cG cR) Acc nL S q L (.int (S k 4) :: st)) : J p l e R s m args below meth c cells slots Qf D 32 A (ceC A n cI cG cR) Acc nL S pc L (.ref (A k) :: st) := r_get C k 4 hin0 (by omega) (heC_0 h0 h1 (S k)) (ci := 0) (nF := 10) rfl (Nat.le_of_ble_eq_true rfl) b_120 rfl rfl d q hq K
theorem p_RX0_24 (C : Cx p s m args c cc nL RX0 D (tyC cI cG cR) 32 A X Acc) {k : Nat} (h0 : 3 ≤ k) (h1 : k < 6) {x : Int32} (d : decode cc pc = .ok (.putfield 24, 3)) (q : Nat) (hq : pc + 3 = q) (K : ∀ S1, S1 = up2 S k 4 x → J p l e R s m args below meth c cells slots Qf D 32 A (ceC A n cI cG cR) Acc nL S1 q L st) : J p l e R s m args below meth c cells slots Qf D 32 A (ceC A n cI cG cR) Acc nL S pc L (.int x :: .ref (A k) :: st) := r_put C k 4 hin0 tyX0 tyX0_ok nmX0 (by omega) (heC_0 h0 h1 (S k)) (ci := 0) (nF := 10) rfl (Nat.le_of_ble_eq_true rfl) b_120 rfl rfl (ty := tyX0 4) (by decide +kernel) rfl rfl (Nat.le_of_ble_eq_true rfl) (upd (S k) 4 x) (by rw [heC_0 h0 h1]; rfl) d q hq K
theorem b_121 : Cond.fieldLink RX1 187 "StoreNotes$Generation" "start" "I" ∈ BIG := List.mem_filter.mpr ⟨List.mem_of_getElem? (i := 121) (by decide +kernel), by decide +kernel⟩
theorem g_RX1_187 (C : Cx p s m args c cc nL RX1 D (tyC cI cG cR) 32 A X Acc) {k : Nat} (h0 : 3 ≤ k) (h1 : k < 6) (d : decode cc pc = .ok (.getfield 187, 3)) (q : Nat) (hq : pc + 3 = q) (K : J p l e R s m args below meth c cells slots Qf D 32 A (ceC A n cI cG cR) Acc nL S q L (.int (S k 4) :: st)) : J p l e R s m args below meth c cells slots Qf D 32 A (ceC A n cI cG cR) Acc nL S pc L (.ref (A k) :: st) := r_get C k 4 hin0 (by omega) (heC_0 h0 h1 (S k)) (ci := 0) (nF := 10) rfl (Nat.le_of_ble_eq_true rfl) b_121 rfl rfl d q hq K
theorem p_RX1_187 (C : Cx p s m args c cc nL RX1 D (tyC cI cG cR) 32 A X Acc) {k : Nat} (h0 : 3 ≤ k) (h1 : k < 6) {x : Int32} (d : decode cc pc = .ok (.putfield 187, 3)) (q : Nat) (hq : pc + 3 = q) (K : ∀ S1, S1 = up2 S k 4 x → J p l e R s m args below meth c cells slots Qf D 32 A (ceC A n cI cG cR) Acc nL S1 q L st) : J p l e R s m args below meth c cells slots Qf D 32 A (ceC A n cI cG cR) Acc nL S pc L (.int x :: .ref (A k) :: st) := r_put C k 4 hin0 tyX0 tyX0_ok nmX0 (by omega) (heC_0 h0 h1 (S k)) (ci := 0) (nF := 10) rfl (Nat.le_of_ble_eq_true rfl) b_121 rfl rfl (ty := tyX0 4) (by decide +kernel) rfl rfl (Nat.le_of_ble_eq_true rfl) (upd (S k) 4 x) (by rw [heC_0 h0 h1]; rfl) d q hq K
theorem b_122 : Cond.fieldLink RX0 27 "StoreNotes$Generation" "used" "I" ∈ BIG := List.mem_filter.mpr ⟨List.mem_of_getElem? (i := 122) (by decide +kernel), by decide +kernel⟩
theorem g_RX0_27 (C : Cx p s m args c cc nL RX0 D (tyC cI cG cR) 32 A X Acc) {k : Nat} (h0 : 3 ≤ k) (h1 : k < 6) (d : decode cc pc = .ok (.getfield 27, 3)) (q : Nat) (hq : pc + 3 = q) (K : J p l e R s m args below meth c cells slots Qf D 32 A (ceC A n cI cG cR) Acc nL S q L (.int (S k 5) :: st)) : J p l e R s m args below meth c cells slots Qf D 32 A (ceC A n cI cG cR) Acc nL S pc L (.ref (A k) :: st) := r_get C k 5 hin0 (by omega) (heC_0 h0 h1 (S k)) (ci := 0) (nF := 10) rfl (Nat.le_of_ble_eq_true rfl) b_122 rfl rfl d q hq K
theorem p_RX0_27 (C : Cx p s m args c cc nL RX0 D (tyC cI cG cR) 32 A X Acc) {k : Nat} (h0 : 3 ≤ k) (h1 : k < 6) {x : Int32} (d : decode cc pc = .ok (.putfield 27, 3)) (q : Nat) (hq : pc + 3 = q) (K : ∀ S1, S1 = up2 S k 5 x → J p l e R s m args below meth c cells slots Qf D 32 A (ceC A n cI cG cR) Acc nL S1 q L st) : J p l e R s m args below meth c cells slots Qf D 32 A (ceC A n cI cG cR) Acc nL S pc L (.int x :: .ref (A k) :: st) := r_put C k 5 hin0 tyX0 tyX0_ok nmX0 (by omega) (heC_0 h0 h1 (S k)) (ci := 0) (nF := 10) rfl (Nat.le_of_ble_eq_true rfl) b_122 rfl rfl (ty := tyX0 5) (by decide +kernel) rfl rfl (Nat.le_of_ble_eq_true rfl) (upd (S k) 5 x) (by rw [heC_0 h0 h1]; rfl) d q hq K
theorem b_123 : Cond.fieldLink RX1 78 "StoreNotes$Generation" "used" "I" ∈ BIG := List.mem_filter.mpr ⟨List.mem_of_getElem? (i := 123) (by decide +kernel), by decide +kernel⟩
theorem g_RX1_78 (C : Cx p s m args c cc nL RX1 D (tyC cI cG cR) 32 A X Acc) {k : Nat} (h0 : 3 ≤ k) (h1 : k < 6) (d : decode cc pc = .ok (.getfield 78, 3)) (q : Nat) (hq : pc + 3 = q) (K : J p l e R s m args below meth c cells slots Qf D 32 A (ceC A n cI cG cR) Acc nL S q L (.int (S k 5) :: st)) : J p l e R s m args below meth c cells slots Qf D 32 A (ceC A n cI cG cR) Acc nL S pc L (.ref (A k) :: st) := r_get C k 5 hin0 (by omega) (heC_0 h0 h1 (S k)) (ci := 0) (nF := 10) rfl (Nat.le_of_ble_eq_true rfl) b_123 rfl rfl d q hq K
theorem p_RX1_78 (C : Cx p s m args c cc nL RX1 D (tyC cI cG cR) 32 A X Acc) {k : Nat} (h0 : 3 ≤ k) (h1 : k < 6) {x : Int32} (d : decode cc pc = .ok (.putfield 78, 3)) (q : Nat) (hq : pc + 3 = q) (K : ∀ S1, S1 = up2 S k 5 x → J p l e R s m args below meth c cells slots Qf D 32 A (ceC A n cI cG cR) Acc nL S1 q L st) : J p l e R s m args below meth c cells slots Qf D 32 A (ceC A n cI cG cR) Acc nL S pc L (.int x :: .ref (A k) :: st) := r_put C k 5 hin0 tyX0 tyX0_ok nmX0 (by omega) (heC_0 h0 h1 (S k)) (ci := 0) (nF := 10) rfl (Nat.le_of_ble_eq_true rfl) b_123 rfl rfl (ty := tyX0 5) (by decide +kernel) rfl rfl (Nat.le_of_ble_eq_true rfl) (upd (S k) 5 x) (by rw [heC_0 h0 h1]; rfl) d q hq K
theorem b_124 : Cond.fieldLink RX0 30 "StoreNotes$Generation" "from" "I" ∈ BIG := List.mem_filter.mpr ⟨List.mem_of_getElem? (i := 124) (by decide +kernel), by decide +kernel⟩
theorem g_RX0_30 (C : Cx p s m args c cc nL RX0 D (tyC cI cG cR) 32 A X Acc) {k : Nat} (h0 : 3 ≤ k) (h1 : k < 6) (d : decode cc pc = .ok (.getfield 30, 3)) (q : Nat) (hq : pc + 3 = q) (K : J p l e R s m args below meth c cells slots Qf D 32 A (ceC A n cI cG cR) Acc nL S q L (.int (S k 6) :: st)) : J p l e R s m args below meth c cells slots Qf D 32 A (ceC A n cI cG cR) Acc nL S pc L (.ref (A k) :: st) := r_get C k 6 hin0 (by omega) (heC_0 h0 h1 (S k)) (ci := 0) (nF := 10) rfl (Nat.le_of_ble_eq_true rfl) b_124 rfl rfl d q hq K
theorem p_RX0_30 (C : Cx p s m args c cc nL RX0 D (tyC cI cG cR) 32 A X Acc) {k : Nat} (h0 : 3 ≤ k) (h1 : k < 6) {x : Int32} (d : decode cc pc = .ok (.putfield 30, 3)) (q : Nat) (hq : pc + 3 = q) (K : ∀ S1, S1 = up2 S k 6 x → J p l e R s m args below meth c cells slots Qf D 32 A (ceC A n cI cG cR) Acc nL S1 q L st) : J p l e R s m args below meth c cells slots Qf D 32 A (ceC A n cI cG cR) Acc nL S pc L (.int x :: .ref (A k) :: st) := r_put C k 6 hin0 tyX0 tyX0_ok nmX0 (by omega) (heC_0 h0 h1 (S k)) (ci := 0) (nF := 10) rfl (Nat.le_of_ble_eq_true rfl) b_124 rfl rfl (ty := tyX0 6) (by decide +kernel) rfl rfl (Nat.le_of_ble_eq_true rfl) (upd (S k) 6 x) (by rw [heC_0 h0 h1]; rfl) d q hq K
theorem b_125 : Cond.fieldLink RX0 33 "StoreNotes$Generation" "left" "I" ∈ BIG := List.mem_filter.mpr ⟨List.mem_of_getElem? (i := 125) (by decide +kernel), by decide +kernel⟩
theorem g_RX0_33 (C : Cx p s m args c cc nL RX0 D (tyC cI cG cR) 32 A X Acc) {k : Nat} (h0 : 3 ≤ k) (h1 : k < 6) (d : decode cc pc = .ok (.getfield 33, 3)) (q : Nat) (hq : pc + 3 = q) (K : J p l e R s m args below meth c cells slots Qf D 32 A (ceC A n cI cG cR) Acc nL S q L (.int (S k 7) :: st)) : J p l e R s m args below meth c cells slots Qf D 32 A (ceC A n cI cG cR) Acc nL S pc L (.ref (A k) :: st) := r_get C k 7 hin0 (by omega) (heC_0 h0 h1 (S k)) (ci := 0) (nF := 10) rfl (Nat.le_of_ble_eq_true rfl) b_125 rfl rfl d q hq K
theorem p_RX0_33 (C : Cx p s m args c cc nL RX0 D (tyC cI cG cR) 32 A X Acc) {k : Nat} (h0 : 3 ≤ k) (h1 : k < 6) {x : Int32} (d : decode cc pc = .ok (.putfield 33, 3)) (q : Nat) (hq : pc + 3 = q) (K : ∀ S1, S1 = up2 S k 7 x → J p l e R s m args below meth c cells slots Qf D 32 A (ceC A n cI cG cR) Acc nL S1 q L st) : J p l e R s m args below meth c cells slots Qf D 32 A (ceC A n cI cG cR) Acc nL S pc L (.int x :: .ref (A k) :: st) := r_put C k 7 hin0 tyX0 tyX0_ok nmX0 (by omega) (heC_0 h0 h1 (S k)) (ci := 0) (nF := 10) rfl (Nat.le_of_ble_eq_true rfl) b_125 rfl rfl (ty := tyX0 7) (by decide +kernel) rfl rfl (Nat.le_of_ble_eq_true rfl) (upd (S k) 7 x) (by rw [heC_0 h0 h1]; rfl) d q hq K
theorem b_126 : Cond.fieldLink RX1 171 "StoreNotes$Generation" "left" "I" ∈ BIG := List.mem_filter.mpr ⟨List.mem_of_getElem? (i := 126) (by decide +kernel), by decide +kernel⟩
theorem g_RX1_171 (C : Cx p s m args c cc nL RX1 D (tyC cI cG cR) 32 A X Acc) {k : Nat} (h0 : 3 ≤ k) (h1 : k < 6) (d : decode cc pc = .ok (.getfield 171, 3)) (q : Nat) (hq : pc + 3 = q) (K : J p l e R s m args below meth c cells slots Qf D 32 A (ceC A n cI cG cR) Acc nL S q L (.int (S k 7) :: st)) : J p l e R s m args below meth c cells slots Qf D 32 A (ceC A n cI cG cR) Acc nL S pc L (.ref (A k) :: st) := r_get C k 7 hin0 (by omega) (heC_0 h0 h1 (S k)) (ci := 0) (nF := 10) rfl (Nat.le_of_ble_eq_true rfl) b_126 rfl rfl d q hq K
theorem p_RX1_171 (C : Cx p s m args c cc nL RX1 D (tyC cI cG cR) 32 A X Acc) {k : Nat} (h0 : 3 ≤ k) (h1 : k < 6) {x : Int32} (d : decode cc pc = .ok (.putfield 171, 3)) (q : Nat) (hq : pc + 3 = q) (K : ∀ S1, S1 = up2 S k 7 x → J p l e R s m args below meth c cells slots Qf D 32 A (ceC A n cI cG cR) Acc nL S1 q L st) : J p l e R s m args below meth c cells slots Qf D 32 A (ceC A n cI cG cR) Acc nL S pc L (.int x :: .ref (A k) :: st) := r_put C k 7 hin0 tyX0 tyX0_ok nmX0 (by omega) (heC_0 h0 h1 (S k)) (ci := 0) (nF := 10) rfl (Nat.le_of_ble_eq_true rfl) b_126 rfl rfl (ty := tyX0 7) (by decide +kernel) rfl rfl (Nat.le_of_ble_eq_true rfl) (upd (S k) 7 x) (by rw [heC_0 h0 h1]; rfl) d q hq K
theorem b_127 : Cond.fieldLink RX0 36 "StoreNotes$Generation" "scanned" "I" ∈ BIG := List.mem_filter.mpr ⟨List.mem_of_getElem? (i := 127) (by decide +kernel), by decide +kernel⟩
theorem g_RX0_36 (C : Cx p s m args c cc nL RX0 D (tyC cI cG cR) 32 A X Acc) {k : Nat} (h0 : 3 ≤ k) (h1 : k < 6) (d : decode cc pc = .ok (.getfield 36, 3)) (q : Nat) (hq : pc + 3 = q) (K : J p l e R s m args below meth c cells slots Qf D 32 A (ceC A n cI cG cR) Acc nL S q L (.int (S k 8) :: st)) : J p l e R s m args below meth c cells slots Qf D 32 A (ceC A n cI cG cR) Acc nL S pc L (.ref (A k) :: st) := r_get C k 8 hin0 (by omega) (heC_0 h0 h1 (S k)) (ci := 0) (nF := 10) rfl (Nat.le_of_ble_eq_true rfl) b_127 rfl rfl d q hq K
theorem p_RX0_36 (C : Cx p s m args c cc nL RX0 D (tyC cI cG cR) 32 A X Acc) {k : Nat} (h0 : 3 ≤ k) (h1 : k < 6) {x : Int32} (d : decode cc pc = .ok (.putfield 36, 3)) (q : Nat) (hq : pc + 3 = q) (K : ∀ S1, S1 = up2 S k 8 x → J p l e R s m args below meth c cells slots Qf D 32 A (ceC A n cI cG cR) Acc nL S1 q L st) : J p l e R s m args below meth c cells slots Qf D 32 A (ceC A n cI cG cR) Acc nL S pc L (.int x :: .ref (A k) :: st) := r_put C k 8 hin0 tyX0 tyX0_ok nmX0 (by omega) (heC_0 h0 h1 (S k)) (ci := 0) (nF := 10) rfl (Nat.le_of_ble_eq_true rfl) b_127 rfl rfl (ty := tyX0 8) (by decide +kernel) rfl rfl (Nat.le_of_ble_eq_true rfl) (upd (S k) 8 x) (by rw [heC_0 h0 h1]; rfl) d q hq K
theorem b_128 : Cond.fieldLink RX1 190 "StoreNotes$Generation" "scanned" "I" ∈ BIG := List.mem_filter.mpr ⟨List.mem_of_getElem? (i := 128) (by decide +kernel), by decide +kernel⟩
theorem g_RX1_190 (C : Cx p s m args c cc nL RX1 D (tyC cI cG cR) 32 A X Acc) {k : Nat} (h0 : 3 ≤ k) (h1 : k < 6) (d : decode cc pc = .ok (.getfield 190, 3)) (q : Nat) (hq : pc + 3 = q) (K : J p l e R s m args below meth c cells slots Qf D 32 A (ceC A n cI cG cR) Acc nL S q L (.int (S k 8) :: st)) : J p l e R s m args below meth c cells slots Qf D 32 A (ceC A n cI cG cR) Acc nL S pc L (.ref (A k) :: st) := r_get C k 8 hin0 (by omega) (heC_0 h0 h1 (S k)) (ci := 0) (nF := 10) rfl (Nat.le_of_ble_eq_true rfl) b_128 rfl rfl d q hq K
theorem p_RX1_190 (C : Cx p s m args c cc nL RX1 D (tyC cI cG cR) 32 A X Acc) {k : Nat} (h0 : 3 ≤ k) (h1 : k < 6) {x : Int32} (d : decode cc pc = .ok (.putfield 190, 3)) (q : Nat) (hq : pc + 3 = q) (K : ∀ S1, S1 = up2 S k 8 x → J p l e R s m args below meth c cells slots Qf D 32 A (ceC A n cI cG cR) Acc nL S1 q L st) : J p l e R s m args below meth c cells slots Qf D 32 A (ceC A n cI cG cR) Acc nL S pc L (.int x :: .ref (A k) :: st) := r_put C k 8 hin0 tyX0 tyX0_ok nmX0 (by omega) (heC_0 h0 h1 (S k)) (ci := 0) (nF := 10) rfl (Nat.le_of_ble_eq_true rfl) b_128 rfl rfl (ty := tyX0 8) (by decide +kernel) rfl rfl (Nat.le_of_ble_eq_true rfl) (upd (S k) 8 x) (by rw [heC_0 h0 h1]; rfl) d q hq K
theorem b_129 : Cond.fieldLink RX1 81 "StoreNotes$Generation" "collections" "I" ∈ BIG := List.mem_filter.mpr ⟨List.mem_of_getElem? (i := 129) (by decide +kernel), by decide +kernel⟩
theorem g_RX1_81 (C : Cx p s m args c cc nL RX1 D (tyC cI cG cR) 32 A X Acc) {k : Nat} (h0 : 3 ≤ k) (h1 : k < 6) (d : decode cc pc = .ok (.getfield 81, 3)) (q : Nat) (hq : pc + 3 = q) (K : J p l e R s m args below meth c cells slots Qf D 32 A (ceC A n cI cG cR) Acc nL S q L (.int (S k 9) :: st)) : J p l e R s m args below meth c cells slots Qf D 32 A (ceC A n cI cG cR) Acc nL S pc L (.ref (A k) :: st) := r_get C k 9 hin0 (by omega) (heC_0 h0 h1 (S k)) (ci := 0) (nF := 10) rfl (Nat.le_of_ble_eq_true rfl) b_129 rfl rfl d q hq K
theorem p_RX1_81 (C : Cx p s m args c cc nL RX1 D (tyC cI cG cR) 32 A X Acc) {k : Nat} (h0 : 3 ≤ k) (h1 : k < 6) {x : Int32} (d : decode cc pc = .ok (.putfield 81, 3)) (q : Nat) (hq : pc + 3 = q) (K : ∀ S1, S1 = up2 S k 9 x → J p l e R s m args below meth c cells slots Qf D 32 A (ceC A n cI cG cR) Acc nL S1 q L st) : J p l e R s m args below meth c cells slots Qf D 32 A (ceC A n cI cG cR) Acc nL S pc L (.int x :: .ref (A k) :: st) := r_put C k 9 hin0 tyX0 tyX0_ok nmX0 (by omega) (heC_0 h0 h1 (S k)) (ci := 0) (nF := 10) rfl (Nat.le_of_ble_eq_true rfl) b_129 rfl rfl (ty := tyX0 9) (by decide +kernel) rfl rfl (Nat.le_of_ble_eq_true rfl) (upd (S k) 9 x) (by rw [heC_0 h0 h1]; rfl) d q hq K
theorem b_155 : Cond.fieldLink RX1 32 "StoreNotes$Heap" "words" "[I" ∈ BIG := List.mem_filter.mpr ⟨List.mem_of_getElem? (i := 155) (by decide +kernel), by decide +kernel⟩
theorem g_RX1_32 (C : Cx p s m args c cc nL RX1 D (tyC cI cG cR) 32 A X Acc)  (d : decode cc pc = .ok (.getfield 32, 3)) (q : Nat) (hq : pc + 3 = q) (K : J p l e R s m args below meth c cells slots Qf D 32 A (ceC A n cI cG cR) Acc nL S q L (.ref (A 26) :: st)) : J p l e R s m args below meth c cells slots Qf D 32 A (ceC A n cI cG cR) Acc nL S pc L (.ref (A 1) :: st) := r_get C 1 0 hin1 (Nat.le_of_ble_eq_true rfl) (heC_1 (S 1)) (ci := 1) (nF := 13) rfl (Nat.le_of_ble_eq_true rfl) b_155 rfl rfl d q hq K
theorem b_156 : Cond.fieldLink RX4 138 "StoreNotes$Heap" "words" "[I" ∈ BIG := List.mem_filter.mpr ⟨List.mem_of_getElem? (i := 156) (by decide +kernel), by decide +kernel⟩
theorem g_RX4_138 (C : Cx p s m args c cc nL RX4 D (tyC cI cG cR) 32 A X Acc)  (d : decode cc pc = .ok (.getfield 138, 3)) (q : Nat) (hq : pc + 3 = q) (K : J p l e R s m args below meth c cells slots Qf D 32 A (ceC A n cI cG cR) Acc nL S q L (.ref (A 26) :: st)) : J p l e R s m args below meth c cells slots Qf D 32 A (ceC A n cI cG cR) Acc nL S pc L (.ref (A 1) :: st) := r_get C 1 0 hin1 (Nat.le_of_ble_eq_true rfl) (heC_1 (S 1)) (ci := 1) (nF := 13) rfl (Nat.le_of_ble_eq_true rfl) b_156 rfl rfl d q hq K
theorem b_157 : Cond.fieldLink RX1 11 "StoreNotes$Heap" "generations" "[LStoreNotes$Generation;" ∈ BIG := List.mem_filter.mpr ⟨List.mem_of_getElem? (i := 157) (by decide +kernel), by decide +kernel⟩
theorem g_RX1_11 (C : Cx p s m args c cc nL RX1 D (tyC cI cG cR) 32 A X Acc)  (d : decode cc pc = .ok (.getfield 11, 3)) (q : Nat) (hq : pc + 3 = q) (K : J p l e R s m args below meth c cells slots Qf D 32 A (ceC A n cI cG cR) Acc nL S q L (.ref (A 29) :: st)) : J p l e R s m args below meth c cells slots Qf D 32 A (ceC A n cI cG cR) Acc nL S pc L (.ref (A 1) :: st) := r_get C 1 1 hin1 (Nat.le_of_ble_eq_true rfl) (heC_1 (S 1)) (ci := 1) (nF := 13) rfl (Nat.le_of_ble_eq_true rfl) b_157 rfl rfl d q hq K
theorem b_158 : Cond.fieldLink RX1 22 "StoreNotes$Heap" "roots" "LStoreNotes$Row;" ∈ BIG := List.mem_filter.mpr ⟨List.mem_of_getElem? (i := 158) (by decide +kernel), by decide +kernel⟩
theorem g_RX1_22 (C : Cx p s m args c cc nL RX1 D (tyC cI cG cR) 32 A X Acc)  (d : decode cc pc = .ok (.getfield 22, 3)) (q : Nat) (hq : pc + 3 = q) (K : J p l e R s m args below meth c cells slots Qf D 32 A (ceC A n cI cG cR) Acc nL S q L (.ref (A 6) :: st)) : J p l e R s m args below meth c cells slots Qf D 32 A (ceC A n cI cG cR) Acc nL S pc L (.ref (A 1) :: st) := r_get C 1 2 hin1 (Nat.le_of_ble_eq_true rfl) (heC_1 (S 1)) (ci := 1) (nF := 13) rfl (Nat.le_of_ble_eq_true rfl) b_158 rfl rfl d q hq K
theorem b_159 : Cond.fieldLink RX4 42 "StoreNotes$Heap" "roots" "LStoreNotes$Row;" ∈ BIG := List.mem_filter.mpr ⟨List.mem_of_getElem? (i := 159) (by decide +kernel), by decide +kernel⟩
theorem g_RX4_42 (C : Cx p s m args c cc nL RX4 D (tyC cI cG cR) 32 A X Acc)  (d : decode cc pc = .ok (.getfield 42, 3)) (q : Nat) (hq : pc + 3 = q) (K : J p l e R s m args below meth c cells slots Qf D 32 A (ceC A n cI cG cR) Acc nL S q L (.ref (A 6) :: st)) : J p l e R s m args below meth c cells slots Qf D 32 A (ceC A n cI cG cR) Acc nL S pc L (.ref (A 1) :: st) := r_get C 1 2 hin1 (Nat.le_of_ble_eq_true rfl) (heC_1 (S 1)) (ci := 1) (nF := 13) rfl (Nat.le_of_ble_eq_true rfl) b_159 rfl rfl d q hq K
theorem b_160 : Cond.fieldLink RX2 37 "StoreNotes$Heap" "roots" "LStoreNotes$Row;" ∈ BIG := List.mem_filter.mpr ⟨List.mem_of_getElem? (i := 160) (by decide +kernel), by decide +kernel⟩
theorem g_RX2_37 (C : Cx p s m args c cc nL RX2 D (tyC cI cG cR) 32 A X Acc)  (d : decode cc pc = .ok (.getfield 37, 3)) (q : Nat) (hq : pc + 3 = q) (K : J p l e R s m args below meth c cells slots Qf D 32 A (ceC A n cI cG cR) Acc nL S q L (.ref (A 6) :: st)) : J p l e R s m args below meth c cells slots Qf D 32 A (ceC A n cI cG cR) Acc nL S pc L (.ref (A 1) :: st) := r_get C 1 2 hin1 (Nat.le_of_ble_eq_true rfl) (heC_1 (S 1)) (ci := 1) (nF := 13) rfl (Nat.le_of_ble_eq_true rfl) b_160 rfl rfl d q hq K
theorem b_161 : Cond.fieldLink RX1 26 "StoreNotes$Heap" "stack" "LStoreNotes$Row;" ∈ BIG := List.mem_filter.mpr ⟨List.mem_of_getElem? (i := 161) (by decide +kernel), by decide +kernel⟩
theorem g_RX1_26 (C : Cx p s m args c cc nL RX1 D (tyC cI cG cR) 32 A X Acc)  (d : decode cc pc = .ok (.getfield 26, 3)) (q : Nat) (hq : pc + 3 = q) (K : J p l e R s m args below meth c cells slots Qf D 32 A (ceC A n cI cG cR) Acc nL S q L (.ref (A 7) :: st)) : J p l e R s m args below meth c cells slots Qf D 32 A (ceC A n cI cG cR) Acc nL S pc L (.ref (A 1) :: st) := r_get C 1 3 hin1 (Nat.le_of_ble_eq_true rfl) (heC_1 (S 1)) (ci := 1) (nF := 13) rfl (Nat.le_of_ble_eq_true rfl) b_161 rfl rfl d q hq K
theorem b_162 : Cond.fieldLink RX2 48 "StoreNotes$Heap" "stack" "LStoreNotes$Row;" ∈ BIG := List.mem_filter.mpr ⟨List.mem_of_getElem? (i := 162) (by decide +kernel), by decide +kernel⟩
theorem g_RX2_48 (C : Cx p s m args c cc nL RX2 D (tyC cI cG cR) 32 A X Acc)  (d : decode cc pc = .ok (.getfield 48, 3)) (q : Nat) (hq : pc + 3 = q) (K : J p l e R s m args below meth c cells slots Qf D 32 A (ceC A n cI cG cR) Acc nL S q L (.ref (A 7) :: st)) : J p l e R s m args below meth c cells slots Qf D 32 A (ceC A n cI cG cR) Acc nL S pc L (.ref (A 1) :: st) := r_get C 1 3 hin1 (Nat.le_of_ble_eq_true rfl) (heC_1 (S 1)) (ci := 1) (nF := 13) rfl (Nat.le_of_ble_eq_true rfl) b_162 rfl rfl d q hq K
theorem b_163 : Cond.fieldLink RX4 74 "StoreNotes$Heap" "stack" "LStoreNotes$Row;" ∈ BIG := List.mem_filter.mpr ⟨List.mem_of_getElem? (i := 163) (by decide +kernel), by decide +kernel⟩
theorem g_RX4_74 (C : Cx p s m args c cc nL RX4 D (tyC cI cG cR) 32 A X Acc)  (d : decode cc pc = .ok (.getfield 74, 3)) (q : Nat) (hq : pc + 3 = q) (K : J p l e R s m args below meth c cells slots Qf D 32 A (ceC A n cI cG cR) Acc nL S q L (.ref (A 7) :: st)) : J p l e R s m args below meth c cells slots Qf D 32 A (ceC A n cI cG cR) Acc nL S pc L (.ref (A 1) :: st) := r_get C 1 3 hin1 (Nat.le_of_ble_eq_true rfl) (heC_1 (S 1)) (ci := 1) (nF := 13) rfl (Nat.le_of_ble_eq_true rfl) b_163 rfl rfl d q hq K
theorem b_164 : Cond.fieldLink RX1 29 "StoreNotes$Heap" "weakPlaces" "LStoreNotes$Row;" ∈ BIG := List.mem_filter.mpr ⟨List.mem_of_getElem? (i := 164) (by decide +kernel), by decide +kernel⟩
theorem g_RX1_29 (C : Cx p s m args c cc nL RX1 D (tyC cI cG cR) 32 A X Acc)  (d : decode cc pc = .ok (.getfield 29, 3)) (q : Nat) (hq : pc + 3 = q) (K : J p l e R s m args below meth c cells slots Qf D 32 A (ceC A n cI cG cR) Acc nL S q L (.ref (A 8) :: st)) : J p l e R s m args below meth c cells slots Qf D 32 A (ceC A n cI cG cR) Acc nL S pc L (.ref (A 1) :: st) := r_get C 1 4 hin1 (Nat.le_of_ble_eq_true rfl) (heC_1 (S 1)) (ci := 1) (nF := 13) rfl (Nat.le_of_ble_eq_true rfl) b_164 rfl rfl d q hq K
theorem b_165 : Cond.fieldLink RX4 98 "StoreNotes$Heap" "weakPlaces" "LStoreNotes$Row;" ∈ BIG := List.mem_filter.mpr ⟨List.mem_of_getElem? (i := 165) (by decide +kernel), by decide +kernel⟩
theorem g_RX4_98 (C : Cx p s m args c cc nL RX4 D (tyC cI cG cR) 32 A X Acc)  (d : decode cc pc = .ok (.getfield 98, 3)) (q : Nat) (hq : pc + 3 = q) (K : J p l e R s m args below meth c cells slots Qf D 32 A (ceC A n cI cG cR) Acc nL S q L (.ref (A 8) :: st)) : J p l e R s m args below meth c cells slots Qf D 32 A (ceC A n cI cG cR) Acc nL S pc L (.ref (A 1) :: st) := r_get C 1 4 hin1 (Nat.le_of_ble_eq_true rfl) (heC_1 (S 1)) (ci := 1) (nF := 13) rfl (Nat.le_of_ble_eq_true rfl) b_165 rfl rfl d q hq K
theorem b_166 : Cond.fieldLink RX1 39 "StoreNotes$Heap" "wishes" "LStoreNotes$Row;" ∈ BIG := List.mem_filter.mpr ⟨List.mem_of_getElem? (i := 166) (by decide +kernel), by decide +kernel⟩
theorem g_RX1_39 (C : Cx p s m args c cc nL RX1 D (tyC cI cG cR) 32 A X Acc)  (d : decode cc pc = .ok (.getfield 39, 3)) (q : Nat) (hq : pc + 3 = q) (K : J p l e R s m args below meth c cells slots Qf D 32 A (ceC A n cI cG cR) Acc nL S q L (.ref (A 9) :: st)) : J p l e R s m args below meth c cells slots Qf D 32 A (ceC A n cI cG cR) Acc nL S pc L (.ref (A 1) :: st) := r_get C 1 5 hin1 (Nat.le_of_ble_eq_true rfl) (heC_1 (S 1)) (ci := 1) (nF := 13) rfl (Nat.le_of_ble_eq_true rfl) b_166 rfl rfl d q hq K
theorem b_167 : Cond.fieldLink RX1 42 "StoreNotes$Heap" "queue" "LStoreNotes$Row;" ∈ BIG := List.mem_filter.mpr ⟨List.mem_of_getElem? (i := 167) (by decide +kernel), by decide +kernel⟩
theorem g_RX1_42 (C : Cx p s m args c cc nL RX1 D (tyC cI cG cR) 32 A X Acc)  (d : decode cc pc = .ok (.getfield 42, 3)) (q : Nat) (hq : pc + 3 = q) (K : J p l e R s m args below meth c cells slots Qf D 32 A (ceC A n cI cG cR) Acc nL S q L (.ref (A 10) :: st)) : J p l e R s m args below meth c cells slots Qf D 32 A (ceC A n cI cG cR) Acc nL S pc L (.ref (A 1) :: st) := r_get C 1 6 hin1 (Nat.le_of_ble_eq_true rfl) (heC_1 (S 1)) (ci := 1) (nF := 13) rfl (Nat.le_of_ble_eq_true rfl) b_167 rfl rfl d q hq K
theorem b_168 : Cond.fieldLink RX4 101 "StoreNotes$Heap" "queue" "LStoreNotes$Row;" ∈ BIG := List.mem_filter.mpr ⟨List.mem_of_getElem? (i := 168) (by decide +kernel), by decide +kernel⟩
theorem g_RX4_101 (C : Cx p s m args c cc nL RX4 D (tyC cI cG cR) 32 A X Acc)  (d : decode cc pc = .ok (.getfield 101, 3)) (q : Nat) (hq : pc + 3 = q) (K : J p l e R s m args below meth c cells slots Qf D 32 A (ceC A n cI cG cR) Acc nL S q L (.ref (A 10) :: st)) : J p l e R s m args below meth c cells slots Qf D 32 A (ceC A n cI cG cR) Acc nL S pc L (.ref (A 1) :: st) := r_get C 1 6 hin1 (Nat.le_of_ble_eq_true rfl) (heC_1 (S 1)) (ci := 1) (nF := 13) rfl (Nat.le_of_ble_eq_true rfl) b_168 rfl rfl d q hq K
theorem b_169 : Cond.fieldLink RX1 45 "StoreNotes$Heap" "buffer" "LStoreNotes$Row;" ∈ BIG := List.mem_filter.mpr ⟨List.mem_of_getElem? (i := 169) (by decide +kernel), by decide +kernel⟩
theorem g_RX1_45 (C : Cx p s m args c cc nL RX1 D (tyC cI cG cR) 32 A X Acc)  (d : decode cc pc = .ok (.getfield 45, 3)) (q : Nat) (hq : pc + 3 = q) (K : J p l e R s m args below meth c cells slots Qf D 32 A (ceC A n cI cG cR) Acc nL S q L (.ref (A 11) :: st)) : J p l e R s m args below meth c cells slots Qf D 32 A (ceC A n cI cG cR) Acc nL S pc L (.ref (A 1) :: st) := r_get C 1 7 hin1 (Nat.le_of_ble_eq_true rfl) (heC_1 (S 1)) (ci := 1) (nF := 13) rfl (Nat.le_of_ble_eq_true rfl) b_169 rfl rfl d q hq K
theorem b_170 : Cond.fieldLink RX1 52 "StoreNotes$Heap" "remembered" "[LStoreNotes$Row;" ∈ BIG := List.mem_filter.mpr ⟨List.mem_of_getElem? (i := 170) (by decide +kernel), by decide +kernel⟩
theorem g_RX1_52 (C : Cx p s m args c cc nL RX1 D (tyC cI cG cR) 32 A X Acc)  (d : decode cc pc = .ok (.getfield 52, 3)) (q : Nat) (hq : pc + 3 = q) (K : J p l e R s m args below meth c cells slots Qf D 32 A (ceC A n cI cG cR) Acc nL S q L (.ref (A (if S 1 8 = 0 then 30 else 31)) :: st)) : J p l e R s m args below meth c cells slots Qf D 32 A (ceC A n cI cG cR) Acc nL S pc L (.ref (A 1) :: st) := r_get C 1 8 hin1 (Nat.le_of_ble_eq_true rfl) (heC_1 (S 1)) (ci := 1) (nF := 13) rfl (Nat.le_of_ble_eq_true rfl) b_170 rfl rfl d q hq K
theorem p_RX1_52 (C : Cx p s m args c cc nL RX1 D (tyC cI cG cR) 32 A X Acc)  {x : Int32} (d : decode cc pc = .ok (.putfield 52, 3)) (q : Nat) (hq : pc + 3 = q) (K : ∀ S1, S1 = up2 S 1 8 x → J p l e R s m args below meth c cells slots Qf D 32 A (ceC A n cI cG cR) Acc nL S1 q L st) : J p l e R s m args below meth c cells slots Qf D 32 A (ceC A n cI cG cR) Acc nL S pc L (.ref (A (if x = 0 then 30 else 31)) :: .ref (A 1) :: st) := r_put C 1 8 hin1 tyX1 tyX1_ok nmX1 (Nat.le_of_ble_eq_true rfl) (heC_1 (S 1)) (ci := 1) (nF := 13) rfl (Nat.le_of_ble_eq_true rfl) b_170 rfl rfl (ty := tyX1 8) (by decide +kernel) rfl rfl (Nat.le_of_ble_eq_true rfl) (upd (S 1) 8 x) (by rw [heC_1 ]; rfl) d q hq K
theorem b_171 : Cond.fieldLink RX1 56 "StoreNotes$Heap" "aside" "[LStoreNotes$Row;" ∈ BIG := List.mem_filter.mpr ⟨List.mem_of_getElem? (i := 171) (by decide +kernel), by decide +kernel⟩
theorem g_RX1_56 (C : Cx p s m args c cc nL RX1 D (tyC cI cG cR) 32 A X Acc)  (d : decode cc pc = .ok (.getfield 56, 3)) (q : Nat) (hq : pc + 3 = q) (K : J p l e R s m args below meth c cells slots Qf D 32 A (ceC A n cI cG cR) Acc nL S q L (.ref (A (if S 1 9 = 0 then 30 else 31)) :: st)) : J p l e R s m args below meth c cells slots Qf D 32 A (ceC A n cI cG cR) Acc nL S pc L (.ref (A 1) :: st) := r_get C 1 9 hin1 (Nat.le_of_ble_eq_true rfl) (heC_1 (S 1)) (ci := 1) (nF := 13) rfl (Nat.le_of_ble_eq_true rfl) b_171 rfl rfl d q hq K
theorem p_RX1_56 (C : Cx p s m args c cc nL RX1 D (tyC cI cG cR) 32 A X Acc)  {x : Int32} (d : decode cc pc = .ok (.putfield 56, 3)) (q : Nat) (hq : pc + 3 = q) (K : ∀ S1, S1 = up2 S 1 9 x → J p l e R s m args below meth c cells slots Qf D 32 A (ceC A n cI cG cR) Acc nL S1 q L st) : J p l e R s m args below meth c cells slots Qf D 32 A (ceC A n cI cG cR) Acc nL S pc L (.ref (A (if x = 0 then 30 else 31)) :: .ref (A 1) :: st) := r_put C 1 9 hin1 tyX1 tyX1_ok nmX1 (Nat.le_of_ble_eq_true rfl) (heC_1 (S 1)) (ci := 1) (nF := 13) rfl (Nat.le_of_ble_eq_true rfl) b_171 rfl rfl (ty := tyX1 9) (by decide +kernel) rfl rfl (Nat.le_of_ble_eq_true rfl) (upd (S 1) 9 x) (by rw [heC_1 ]; rfl) d q hq K
theorem b_172 : Cond.fieldLink RX1 84 "StoreNotes$Heap" "overflows" "I" ∈ BIG := List.mem_filter.mpr ⟨List.mem_of_getElem? (i := 172) (by decide +kernel), by decide +kernel⟩
theorem g_RX1_84 (C : Cx p s m args c cc nL RX1 D (tyC cI cG cR) 32 A X Acc)  (d : decode cc pc = .ok (.getfield 84, 3)) (q : Nat) (hq : pc + 3 = q) (K : J p l e R s m args below meth c cells slots Qf D 32 A (ceC A n cI cG cR) Acc nL S q L (.int (S 1 10) :: st)) : J p l e R s m args below meth c cells slots Qf D 32 A (ceC A n cI cG cR) Acc nL S pc L (.ref (A 1) :: st) := r_get C 1 10 hin1 (Nat.le_of_ble_eq_true rfl) (heC_1 (S 1)) (ci := 1) (nF := 13) rfl (Nat.le_of_ble_eq_true rfl) b_172 rfl rfl d q hq K
theorem p_RX1_84 (C : Cx p s m args c cc nL RX1 D (tyC cI cG cR) 32 A X Acc)  {x : Int32} (d : decode cc pc = .ok (.putfield 84, 3)) (q : Nat) (hq : pc + 3 = q) (K : ∀ S1, S1 = up2 S 1 10 x → J p l e R s m args below meth c cells slots Qf D 32 A (ceC A n cI cG cR) Acc nL S1 q L st) : J p l e R s m args below meth c cells slots Qf D 32 A (ceC A n cI cG cR) Acc nL S pc L (.int x :: .ref (A 1) :: st) := r_put C 1 10 hin1 tyX1 tyX1_ok nmX1 (Nat.le_of_ble_eq_true rfl) (heC_1 (S 1)) (ci := 1) (nF := 13) rfl (Nat.le_of_ble_eq_true rfl) b_172 rfl rfl (ty := tyX1 10) (by decide +kernel) rfl rfl (Nat.le_of_ble_eq_true rfl) (upd (S 1) 10 x) (by rw [heC_1 ]; rfl) d q hq K
theorem b_173 : Cond.fieldLink RX1 87 "StoreNotes$Heap" "copied" "I" ∈ BIG := List.mem_filter.mpr ⟨List.mem_of_getElem? (i := 173) (by decide +kernel), by decide +kernel⟩
theorem g_RX1_87 (C : Cx p s m args c cc nL RX1 D (tyC cI cG cR) 32 A X Acc)  (d : decode cc pc = .ok (.getfield 87, 3)) (q : Nat) (hq : pc + 3 = q) (K : J p l e R s m args below meth c cells slots Qf D 32 A (ceC A n cI cG cR) Acc nL S q L (.int (S 1 11) :: st)) : J p l e R s m args below meth c cells slots Qf D 32 A (ceC A n cI cG cR) Acc nL S pc L (.ref (A 1) :: st) := r_get C 1 11 hin1 (Nat.le_of_ble_eq_true rfl) (heC_1 (S 1)) (ci := 1) (nF := 13) rfl (Nat.le_of_ble_eq_true rfl) b_173 rfl rfl d q hq K
theorem p_RX1_87 (C : Cx p s m args c cc nL RX1 D (tyC cI cG cR) 32 A X Acc)  {x : Int32} (d : decode cc pc = .ok (.putfield 87, 3)) (q : Nat) (hq : pc + 3 = q) (K : ∀ S1, S1 = up2 S 1 11 x → J p l e R s m args below meth c cells slots Qf D 32 A (ceC A n cI cG cR) Acc nL S1 q L st) : J p l e R s m args below meth c cells slots Qf D 32 A (ceC A n cI cG cR) Acc nL S pc L (.int x :: .ref (A 1) :: st) := r_put C 1 11 hin1 tyX1 tyX1_ok nmX1 (Nat.le_of_ble_eq_true rfl) (heC_1 (S 1)) (ci := 1) (nF := 13) rfl (Nat.le_of_ble_eq_true rfl) b_173 rfl rfl (ty := tyX1 11) (by decide +kernel) rfl rfl (Nat.le_of_ble_eq_true rfl) (upd (S 1) 11 x) (by rw [heC_1 ]; rfl) d q hq K
theorem b_174 : Cond.fieldLink RX1 90 "StoreNotes$Heap" "promoted" "I" ∈ BIG := List.mem_filter.mpr ⟨List.mem_of_getElem? (i := 174) (by decide +kernel), by decide +kernel⟩
theorem g_RX1_90 (C : Cx p s m args c cc nL RX1 D (tyC cI cG cR) 32 A X Acc)  (d : decode cc pc = .ok (.getfield 90, 3)) (q : Nat) (hq : pc + 3 = q) (K : J p l e R s m args below meth c cells slots Qf D 32 A (ceC A n cI cG cR) Acc nL S q L (.int (S 1 12) :: st)) : J p l e R s m args below meth c cells slots Qf D 32 A (ceC A n cI cG cR) Acc nL S pc L (.ref (A 1) :: st) := r_get C 1 12 hin1 (Nat.le_of_ble_eq_true rfl) (heC_1 (S 1)) (ci := 1) (nF := 13) rfl (Nat.le_of_ble_eq_true rfl) b_174 rfl rfl d q hq K
theorem p_RX1_90 (C : Cx p s m args c cc nL RX1 D (tyC cI cG cR) 32 A X Acc)  {x : Int32} (d : decode cc pc = .ok (.putfield 90, 3)) (q : Nat) (hq : pc + 3 = q) (K : ∀ S1, S1 = up2 S 1 12 x → J p l e R s m args below meth c cells slots Qf D 32 A (ceC A n cI cG cR) Acc nL S1 q L st) : J p l e R s m args below meth c cells slots Qf D 32 A (ceC A n cI cG cR) Acc nL S pc L (.int x :: .ref (A 1) :: st) := r_put C 1 12 hin1 tyX1 tyX1_ok nmX1 (Nat.le_of_ble_eq_true rfl) (heC_1 (S 1)) (ci := 1) (nF := 13) rfl (Nat.le_of_ble_eq_true rfl) b_174 rfl rfl (ty := tyX1 12) (by decide +kernel) rfl rfl (Nat.le_of_ble_eq_true rfl) (upd (S 1) 12 x) (by rw [heC_1 ]; rfl) d q hq K
theorem b_208 : Cond.fieldLink RX2 18 "StoreNotes$Machine" "heap" "LStoreNotes$Heap;" ∈ BIG := List.mem_filter.mpr ⟨List.mem_of_getElem? (i := 208) (by decide +kernel), by decide +kernel⟩
theorem g_RX2_18 (C : Cx p s m args c cc nL RX2 D (tyC cI cG cR) 32 A X Acc)  (d : decode cc pc = .ok (.getfield 18, 3)) (q : Nat) (hq : pc + 3 = q) (K : J p l e R s m args below meth c cells slots Qf D 32 A (ceC A n cI cG cR) Acc nL S q L (.ref (A 1) :: st)) : J p l e R s m args below meth c cells slots Qf D 32 A (ceC A n cI cG cR) Acc nL S pc L (.ref (A 2) :: st) := r_get C 2 0 hin2 (Nat.le_of_ble_eq_true rfl) (heC_2 (S 2)) (ci := 2) (nF := 6) rfl (Nat.le_of_ble_eq_true rfl) b_208 rfl rfl d q hq K
theorem b_209 : Cond.fieldLink RX2 11 "StoreNotes$Machine" "instructions" "[I" ∈ BIG := List.mem_filter.mpr ⟨List.mem_of_getElem? (i := 209) (by decide +kernel), by decide +kernel⟩
theorem g_RX2_11 (C : Cx p s m args c cc nL RX2 D (tyC cI cG cR) 32 A X Acc)  (d : decode cc pc = .ok (.getfield 11, 3)) (q : Nat) (hq : pc + 3 = q) (K : J p l e R s m args below meth c cells slots Qf D 32 A (ceC A n cI cG cR) Acc nL S q L (.ref (A 27) :: st)) : J p l e R s m args below meth c cells slots Qf D 32 A (ceC A n cI cG cR) Acc nL S pc L (.ref (A 2) :: st) := r_get C 2 1 hin2 (Nat.le_of_ble_eq_true rfl) (heC_2 (S 2)) (ci := 2) (nF := 6) rfl (Nat.le_of_ble_eq_true rfl) b_209 rfl rfl d q hq K
theorem b_210 : Cond.fieldLink RX2 15 "StoreNotes$Machine" "numbers" "[I" ∈ BIG := List.mem_filter.mpr ⟨List.mem_of_getElem? (i := 210) (by decide +kernel), by decide +kernel⟩
theorem g_RX2_15 (C : Cx p s m args c cc nL RX2 D (tyC cI cG cR) 32 A X Acc)  (d : decode cc pc = .ok (.getfield 15, 3)) (q : Nat) (hq : pc + 3 = q) (K : J p l e R s m args below meth c cells slots Qf D 32 A (ceC A n cI cG cR) Acc nL S q L (.ref (A 28) :: st)) : J p l e R s m args below meth c cells slots Qf D 32 A (ceC A n cI cG cR) Acc nL S pc L (.ref (A 2) :: st) := r_get C 2 2 hin2 (Nat.le_of_ble_eq_true rfl) (heC_2 (S 2)) (ci := 2) (nF := 6) rfl (Nat.le_of_ble_eq_true rfl) b_210 rfl rfl d q hq K
theorem b_211 : Cond.fieldLink RX4 161 "StoreNotes$Machine" "numbers" "[I" ∈ BIG := List.mem_filter.mpr ⟨List.mem_of_getElem? (i := 211) (by decide +kernel), by decide +kernel⟩
theorem g_RX4_161 (C : Cx p s m args c cc nL RX4 D (tyC cI cG cR) 32 A X Acc)  (d : decode cc pc = .ok (.getfield 161, 3)) (q : Nat) (hq : pc + 3 = q) (K : J p l e R s m args below meth c cells slots Qf D 32 A (ceC A n cI cG cR) Acc nL S q L (.ref (A 28) :: st)) : J p l e R s m args below meth c cells slots Qf D 32 A (ceC A n cI cG cR) Acc nL S pc L (.ref (A 2) :: st) := r_get C 2 2 hin2 (Nat.le_of_ble_eq_true rfl) (heC_2 (S 2)) (ci := 2) (nF := 6) rfl (Nat.le_of_ble_eq_true rfl) b_211 rfl rfl d q hq K
theorem b_212 : Cond.fieldLink RX2 22 "StoreNotes$Machine" "length" "I" ∈ BIG := List.mem_filter.mpr ⟨List.mem_of_getElem? (i := 212) (by decide +kernel), by decide +kernel⟩
theorem g_RX2_22 (C : Cx p s m args c cc nL RX2 D (tyC cI cG cR) 32 A X Acc)  (d : decode cc pc = .ok (.getfield 22, 3)) (q : Nat) (hq : pc + 3 = q) (K : J p l e R s m args below meth c cells slots Qf D 32 A (ceC A n cI cG cR) Acc nL S q L (.int (S 2 3) :: st)) : J p l e R s m args below meth c cells slots Qf D 32 A (ceC A n cI cG cR) Acc nL S pc L (.ref (A 2) :: st) := r_get C 2 3 hin2 (Nat.le_of_ble_eq_true rfl) (heC_2 (S 2)) (ci := 2) (nF := 6) rfl (Nat.le_of_ble_eq_true rfl) b_212 rfl rfl d q hq K
theorem p_RX2_22 (C : Cx p s m args c cc nL RX2 D (tyC cI cG cR) 32 A X Acc)  {x : Int32} (d : decode cc pc = .ok (.putfield 22, 3)) (q : Nat) (hq : pc + 3 = q) (K : ∀ S1, S1 = up2 S 2 3 x → J p l e R s m args below meth c cells slots Qf D 32 A (ceC A n cI cG cR) Acc nL S1 q L st) : J p l e R s m args below meth c cells slots Qf D 32 A (ceC A n cI cG cR) Acc nL S pc L (.int x :: .ref (A 2) :: st) := r_put C 2 3 hin2 tyX2 tyX2_ok nmX2 (Nat.le_of_ble_eq_true rfl) (heC_2 (S 2)) (ci := 2) (nF := 6) rfl (Nat.le_of_ble_eq_true rfl) b_212 rfl rfl (ty := tyX2 3) (by decide +kernel) rfl rfl (Nat.le_of_ble_eq_true rfl) (upd (S 2) 3 x) (by rw [heC_2 ]; rfl) d q hq K
theorem b_213 : Cond.fieldLink RX4 145 "StoreNotes$Machine" "length" "I" ∈ BIG := List.mem_filter.mpr ⟨List.mem_of_getElem? (i := 213) (by decide +kernel), by decide +kernel⟩
theorem g_RX4_145 (C : Cx p s m args c cc nL RX4 D (tyC cI cG cR) 32 A X Acc)  (d : decode cc pc = .ok (.getfield 145, 3)) (q : Nat) (hq : pc + 3 = q) (K : J p l e R s m args below meth c cells slots Qf D 32 A (ceC A n cI cG cR) Acc nL S q L (.int (S 2 3) :: st)) : J p l e R s m args below meth c cells slots Qf D 32 A (ceC A n cI cG cR) Acc nL S pc L (.ref (A 2) :: st) := r_get C 2 3 hin2 (Nat.le_of_ble_eq_true rfl) (heC_2 (S 2)) (ci := 2) (nF := 6) rfl (Nat.le_of_ble_eq_true rfl) b_213 rfl rfl d q hq K
theorem p_RX4_145 (C : Cx p s m args c cc nL RX4 D (tyC cI cG cR) 32 A X Acc)  {x : Int32} (d : decode cc pc = .ok (.putfield 145, 3)) (q : Nat) (hq : pc + 3 = q) (K : ∀ S1, S1 = up2 S 2 3 x → J p l e R s m args below meth c cells slots Qf D 32 A (ceC A n cI cG cR) Acc nL S1 q L st) : J p l e R s m args below meth c cells slots Qf D 32 A (ceC A n cI cG cR) Acc nL S pc L (.int x :: .ref (A 2) :: st) := r_put C 2 3 hin2 tyX2 tyX2_ok nmX2 (Nat.le_of_ble_eq_true rfl) (heC_2 (S 2)) (ci := 2) (nF := 6) rfl (Nat.le_of_ble_eq_true rfl) b_213 rfl rfl (ty := tyX2 3) (by decide +kernel) rfl rfl (Nat.le_of_ble_eq_true rfl) (upd (S 2) 3 x) (by rw [heC_2 ]; rfl) d q hq K
theorem b_214 : Cond.fieldLink RX2 26 "StoreNotes$Machine" "place" "I" ∈ BIG := List.mem_filter.mpr ⟨List.mem_of_getElem? (i := 214) (by decide +kernel), by decide +kernel⟩
theorem g_RX2_26 (C : Cx p s m args c cc nL RX2 D (tyC cI cG cR) 32 A X Acc)  (d : decode cc pc = .ok (.getfield 26, 3)) (q : Nat) (hq : pc + 3 = q) (K : J p l e R s m args below meth c cells slots Qf D 32 A (ceC A n cI cG cR) Acc nL S q L (.int (S 2 4) :: st)) : J p l e R s m args below meth c cells slots Qf D 32 A (ceC A n cI cG cR) Acc nL S pc L (.ref (A 2) :: st) := r_get C 2 4 hin2 (Nat.le_of_ble_eq_true rfl) (heC_2 (S 2)) (ci := 2) (nF := 6) rfl (Nat.le_of_ble_eq_true rfl) b_214 rfl rfl d q hq K
theorem p_RX2_26 (C : Cx p s m args c cc nL RX2 D (tyC cI cG cR) 32 A X Acc)  {x : Int32} (d : decode cc pc = .ok (.putfield 26, 3)) (q : Nat) (hq : pc + 3 = q) (K : ∀ S1, S1 = up2 S 2 4 x → J p l e R s m args below meth c cells slots Qf D 32 A (ceC A n cI cG cR) Acc nL S1 q L st) : J p l e R s m args below meth c cells slots Qf D 32 A (ceC A n cI cG cR) Acc nL S pc L (.int x :: .ref (A 2) :: st) := r_put C 2 4 hin2 tyX2 tyX2_ok nmX2 (Nat.le_of_ble_eq_true rfl) (heC_2 (S 2)) (ci := 2) (nF := 6) rfl (Nat.le_of_ble_eq_true rfl) b_214 rfl rfl (ty := tyX2 4) (by decide +kernel) rfl rfl (Nat.le_of_ble_eq_true rfl) (upd (S 2) 4 x) (by rw [heC_2 ]; rfl) d q hq K
theorem b_215 : Cond.fieldLink RX4 151 "StoreNotes$Machine" "place" "I" ∈ BIG := List.mem_filter.mpr ⟨List.mem_of_getElem? (i := 215) (by decide +kernel), by decide +kernel⟩
theorem g_RX4_151 (C : Cx p s m args c cc nL RX4 D (tyC cI cG cR) 32 A X Acc)  (d : decode cc pc = .ok (.getfield 151, 3)) (q : Nat) (hq : pc + 3 = q) (K : J p l e R s m args below meth c cells slots Qf D 32 A (ceC A n cI cG cR) Acc nL S q L (.int (S 2 4) :: st)) : J p l e R s m args below meth c cells slots Qf D 32 A (ceC A n cI cG cR) Acc nL S pc L (.ref (A 2) :: st) := r_get C 2 4 hin2 (Nat.le_of_ble_eq_true rfl) (heC_2 (S 2)) (ci := 2) (nF := 6) rfl (Nat.le_of_ble_eq_true rfl) b_215 rfl rfl d q hq K
theorem p_RX4_151 (C : Cx p s m args c cc nL RX4 D (tyC cI cG cR) 32 A X Acc)  {x : Int32} (d : decode cc pc = .ok (.putfield 151, 3)) (q : Nat) (hq : pc + 3 = q) (K : ∀ S1, S1 = up2 S 2 4 x → J p l e R s m args below meth c cells slots Qf D 32 A (ceC A n cI cG cR) Acc nL S1 q L st) : J p l e R s m args below meth c cells slots Qf D 32 A (ceC A n cI cG cR) Acc nL S pc L (.int x :: .ref (A 2) :: st) := r_put C 2 4 hin2 tyX2 tyX2_ok nmX2 (Nat.le_of_ble_eq_true rfl) (heC_2 (S 2)) (ci := 2) (nF := 6) rfl (Nat.le_of_ble_eq_true rfl) b_215 rfl rfl (ty := tyX2 4) (by decide +kernel) rfl rfl (Nat.le_of_ble_eq_true rfl) (upd (S 2) 4 x) (by rw [heC_2 ]; rfl) d q hq K
theorem b_216 : Cond.fieldLink RX2 81 "StoreNotes$Machine" "steps" "I" ∈ BIG := List.mem_filter.mpr ⟨List.mem_of_getElem? (i := 216) (by decide +kernel), by decide +kernel⟩
theorem g_RX2_81 (C : Cx p s m args c cc nL RX2 D (tyC cI cG cR) 32 A X Acc)  (d : decode cc pc = .ok (.getfield 81, 3)) (q : Nat) (hq : pc + 3 = q) (K : J p l e R s m args below meth c cells slots Qf D 32 A (ceC A n cI cG cR) Acc nL S q L (.int (S 2 5) :: st)) : J p l e R s m args below meth c cells slots Qf D 32 A (ceC A n cI cG cR) Acc nL S pc L (.ref (A 2) :: st) := r_get C 2 5 hin2 (Nat.le_of_ble_eq_true rfl) (heC_2 (S 2)) (ci := 2) (nF := 6) rfl (Nat.le_of_ble_eq_true rfl) b_216 rfl rfl d q hq K
theorem p_RX2_81 (C : Cx p s m args c cc nL RX2 D (tyC cI cG cR) 32 A X Acc)  {x : Int32} (d : decode cc pc = .ok (.putfield 81, 3)) (q : Nat) (hq : pc + 3 = q) (K : ∀ S1, S1 = up2 S 2 5 x → J p l e R s m args below meth c cells slots Qf D 32 A (ceC A n cI cG cR) Acc nL S1 q L st) : J p l e R s m args below meth c cells slots Qf D 32 A (ceC A n cI cG cR) Acc nL S pc L (.int x :: .ref (A 2) :: st) := r_put C 2 5 hin2 tyX2 tyX2_ok nmX2 (Nat.le_of_ble_eq_true rfl) (heC_2 (S 2)) (ci := 2) (nF := 6) rfl (Nat.le_of_ble_eq_true rfl) b_216 rfl rfl (ty := tyX2 5) (by decide +kernel) rfl rfl (Nat.le_of_ble_eq_true rfl) (upd (S 2) 5 x) (by rw [heC_2 ]; rfl) d q hq K
theorem b_217 : Cond.fieldLink RX4 164 "StoreNotes$Machine" "steps" "I" ∈ BIG := List.mem_filter.mpr ⟨List.mem_of_getElem? (i := 217) (by decide +kernel), by decide +kernel⟩
theorem g_RX4_164 (C : Cx p s m args c cc nL RX4 D (tyC cI cG cR) 32 A X Acc)  (d : decode cc pc = .ok (.getfield 164, 3)) (q : Nat) (hq : pc + 3 = q) (K : J p l e R s m args below meth c cells slots Qf D 32 A (ceC A n cI cG cR) Acc nL S q L (.int (S 2 5) :: st)) : J p l e R s m args below meth c cells slots Qf D 32 A (ceC A n cI cG cR) Acc nL S pc L (.ref (A 2) :: st) := r_get C 2 5 hin2 (Nat.le_of_ble_eq_true rfl) (heC_2 (S 2)) (ci := 2) (nF := 6) rfl (Nat.le_of_ble_eq_true rfl) b_217 rfl rfl d q hq K
theorem p_RX4_164 (C : Cx p s m args c cc nL RX4 D (tyC cI cG cR) 32 A X Acc)  {x : Int32} (d : decode cc pc = .ok (.putfield 164, 3)) (q : Nat) (hq : pc + 3 = q) (K : ∀ S1, S1 = up2 S 2 5 x → J p l e R s m args below meth c cells slots Qf D 32 A (ceC A n cI cG cR) Acc nL S1 q L st) : J p l e R s m args below meth c cells slots Qf D 32 A (ceC A n cI cG cR) Acc nL S pc L (.int x :: .ref (A 2) :: st) := r_put C 2 5 hin2 tyX2 tyX2_ok nmX2 (Nat.le_of_ble_eq_true rfl) (heC_2 (S 2)) (ci := 2) (nF := 6) rfl (Nat.le_of_ble_eq_true rfl) b_217 rfl rfl (ty := tyX2 5) (by decide +kernel) rfl rfl (Nat.le_of_ble_eq_true rfl) (upd (S 2) 5 x) (by rw [heC_2 ]; rfl) d q hq K
theorem b_231 : Cond.fieldLink RX4 18 "StoreNotes" "heap" "LStoreNotes$Heap;" ∈ BIG := List.mem_filter.mpr ⟨List.mem_of_getElem? (i := 231) (by decide +kernel), by decide +kernel⟩
theorem g_RX4_18 (C : Cx p s m args c cc nL RX4 D (tyC cI cG cR) 32 A X Acc)  (d : decode cc pc = .ok (.getfield 18, 3)) (q : Nat) (hq : pc + 3 = q) (K : J p l e R s m args below meth c cells slots Qf D 32 A (ceC A n cI cG cR) Acc nL S q L (.ref (A 1) :: st)) : J p l e R s m args below meth c cells slots Qf D 32 A (ceC A n cI cG cR) Acc nL S pc L (.ref (A 0) :: st) := r_get C 0 0 hin4 (Nat.le_of_ble_eq_true rfl) (heC_4 (S 0)) (ci := 4) (nF := 2) rfl (Nat.le_of_ble_eq_true rfl) b_231 rfl rfl d q hq K
theorem b_232 : Cond.fieldLink RX4 27 "StoreNotes" "machine" "LStoreNotes$Machine;" ∈ BIG := List.mem_filter.mpr ⟨List.mem_of_getElem? (i := 232) (by decide +kernel), by decide +kernel⟩
theorem g_RX4_27 (C : Cx p s m args c cc nL RX4 D (tyC cI cG cR) 32 A X Acc)  (d : decode cc pc = .ok (.getfield 27, 3)) (q : Nat) (hq : pc + 3 = q) (K : J p l e R s m args below meth c cells slots Qf D 32 A (ceC A n cI cG cR) Acc nL S q L (.ref (A 2) :: st)) : J p l e R s m args below meth c cells slots Qf D 32 A (ceC A n cI cG cR) Acc nL S pc L (.ref (A 0) :: st) := r_get C 0 1 hin4 (Nat.le_of_ble_eq_true rfl) (heC_4 (S 0)) (ci := 4) (nF := 2) rfl (Nat.le_of_ble_eq_true rfl) b_232 rfl rfl d q hq K
theorem b_732 : Cond.fieldLink RX5 87 "StoreNotesModel" "thrown" "I" ∈ BIG := List.mem_filter.mpr ⟨List.mem_of_getElem? (i := 732) (by decide +kernel), by decide +kernel⟩
theorem g_RX5_87 (C : Cx p s m args c cc nL RX5 D (tyM cI) 23 A X Acc)  (d : decode cc pc = .ok (.getfield 87, 3)) (q : Nat) (hq : pc + 3 = q) (K : J p l e R s m args below meth c cells slots Qf D 23 A (ceM A cI) Acc nL S q L (.int (S 0 0) :: st)) : J p l e R s m args below meth c cells slots Qf D 23 A (ceM A cI) Acc nL S pc L (.ref (A 0) :: st) := r_get C 0 0 hin5 (Nat.le_of_ble_eq_true rfl) (heM_o (S 0)) (ci := 5) (nF := 37) rfl (Nat.le_of_ble_eq_true rfl) b_732 rfl rfl d q hq K
theorem p_RX5_87 (C : Cx p s m args c cc nL RX5 D (tyM cI) 23 A X Acc)  {x : Int32} (d : decode cc pc = .ok (.putfield 87, 3)) (q : Nat) (hq : pc + 3 = q) (K : ∀ S1, S1 = up2 S 0 0 x → J p l e R s m args below meth c cells slots Qf D 23 A (ceM A cI) Acc nL S1 q L st) : J p l e R s m args below meth c cells slots Qf D 23 A (ceM A cI) Acc nL S pc L (.int x :: .ref (A 0) :: st) := r_put C 0 0 hin5 tyX5 tyX5_ok nmX5 (Nat.le_of_ble_eq_true rfl) (heM_o (S 0)) (ci := 5) (nF := 37) rfl (Nat.le_of_ble_eq_true rfl) b_732 rfl rfl (ty := tyX5 0) (by decide +kernel) rfl rfl (Nat.le_of_ble_eq_true rfl) (upd (S 0) 0 x) (by rw [heM_o]; rfl) d q hq K
theorem b_733 : Cond.fieldLink RX5 7 "StoreNotesModel" "words" "[I" ∈ BIG := List.mem_filter.mpr ⟨List.mem_of_getElem? (i := 733) (by decide +kernel), by decide +kernel⟩
theorem g_RX5_7 (C : Cx p s m args c cc nL RX5 D (tyM cI) 23 A X Acc)  (d : decode cc pc = .ok (.getfield 7, 3)) (q : Nat) (hq : pc + 3 = q) (K : J p l e R s m args below meth c cells slots Qf D 23 A (ceM A cI) Acc nL S q L (.ref (A 1) :: st)) : J p l e R s m args below meth c cells slots Qf D 23 A (ceM A cI) Acc nL S pc L (.ref (A 0) :: st) := r_get C 0 1 hin5 (Nat.le_of_ble_eq_true rfl) (heM_o (S 0)) (ci := 5) (nF := 37) rfl (Nat.le_of_ble_eq_true rfl) b_733 rfl rfl d q hq K
theorem b_734 : Cond.fieldLink RX5 13 "StoreNotesModel" "went" "[I" ∈ BIG := List.mem_filter.mpr ⟨List.mem_of_getElem? (i := 734) (by decide +kernel), by decide +kernel⟩
theorem g_RX5_13 (C : Cx p s m args c cc nL RX5 D (tyM cI) 23 A X Acc)  (d : decode cc pc = .ok (.getfield 13, 3)) (q : Nat) (hq : pc + 3 = q) (K : J p l e R s m args below meth c cells slots Qf D 23 A (ceM A cI) Acc nL S q L (.ref (A 2) :: st)) : J p l e R s m args below meth c cells slots Qf D 23 A (ceM A cI) Acc nL S pc L (.ref (A 0) :: st) := r_get C 0 2 hin5 (Nat.le_of_ble_eq_true rfl) (heM_o (S 0)) (ci := 5) (nF := 37) rfl (Nat.le_of_ble_eq_true rfl) b_734 rfl rfl d q hq K
theorem b_735 : Cond.fieldLink RX5 80 "StoreNotesModel" "small" "I" ∈ BIG := List.mem_filter.mpr ⟨List.mem_of_getElem? (i := 735) (by decide +kernel), by decide +kernel⟩
theorem g_RX5_80 (C : Cx p s m args c cc nL RX5 D (tyM cI) 23 A X Acc)  (d : decode cc pc = .ok (.getfield 80, 3)) (q : Nat) (hq : pc + 3 = q) (K : J p l e R s m args below meth c cells slots Qf D 23 A (ceM A cI) Acc nL S q L (.int (S 0 3) :: st)) : J p l e R s m args below meth c cells slots Qf D 23 A (ceM A cI) Acc nL S pc L (.ref (A 0) :: st) := r_get C 0 3 hin5 (Nat.le_of_ble_eq_true rfl) (heM_o (S 0)) (ci := 5) (nF := 37) rfl (Nat.le_of_ble_eq_true rfl) b_735 rfl rfl d q hq K
theorem b_736 : Cond.fieldLink RX5 16 "StoreNotesModel" "limits" "[I" ∈ BIG := List.mem_filter.mpr ⟨List.mem_of_getElem? (i := 736) (by decide +kernel), by decide +kernel⟩
theorem g_RX5_16 (C : Cx p s m args c cc nL RX5 D (tyM cI) 23 A X Acc)  (d : decode cc pc = .ok (.getfield 16, 3)) (q : Nat) (hq : pc + 3 = q) (K : J p l e R s m args below meth c cells slots Qf D 23 A (ceM A cI) Acc nL S q L (.ref (A 3) :: st)) : J p l e R s m args below meth c cells slots Qf D 23 A (ceM A cI) Acc nL S pc L (.ref (A 0) :: st) := r_get C 0 4 hin5 (Nat.le_of_ble_eq_true rfl) (heM_o (S 0)) (ci := 5) (nF := 37) rfl (Nat.le_of_ble_eq_true rfl) b_736 rfl rfl d q hq K
theorem b_737 : Cond.fieldLink RX5 84 "StoreNotesModel" "places" "I" ∈ BIG := List.mem_filter.mpr ⟨List.mem_of_getElem? (i := 737) (by decide +kernel), by decide +kernel⟩
theorem g_RX5_84 (C : Cx p s m args c cc nL RX5 D (tyM cI) 23 A X Acc)  (d : decode cc pc = .ok (.getfield 84, 3)) (q : Nat) (hq : pc + 3 = q) (K : J p l e R s m args below meth c cells slots Qf D 23 A (ceM A cI) Acc nL S q L (.int (S 0 5) :: st)) : J p l e R s m args below meth c cells slots Qf D 23 A (ceM A cI) Acc nL S pc L (.ref (A 0) :: st) := r_get C 0 5 hin5 (Nat.le_of_ble_eq_true rfl) (heM_o (S 0)) (ci := 5) (nF := 37) rfl (Nat.le_of_ble_eq_true rfl) b_737 rfl rfl d q hq K
theorem b_738 : Cond.fieldLink RX5 19 "StoreNotesModel" "half" "[I" ∈ BIG := List.mem_filter.mpr ⟨List.mem_of_getElem? (i := 738) (by decide +kernel), by decide +kernel⟩
theorem g_RX5_19 (C : Cx p s m args c cc nL RX5 D (tyM cI) 23 A X Acc)  (d : decode cc pc = .ok (.getfield 19, 3)) (q : Nat) (hq : pc + 3 = q) (K : J p l e R s m args below meth c cells slots Qf D 23 A (ceM A cI) Acc nL S q L (.ref (A 4) :: st)) : J p l e R s m args below meth c cells slots Qf D 23 A (ceM A cI) Acc nL S pc L (.ref (A 0) :: st) := r_get C 0 6 hin5 (Nat.le_of_ble_eq_true rfl) (heM_o (S 0)) (ci := 5) (nF := 37) rfl (Nat.le_of_ble_eq_true rfl) b_738 rfl rfl d q hq K
theorem b_739 : Cond.fieldLink RX5 22 "StoreNotesModel" "used" "[I" ∈ BIG := List.mem_filter.mpr ⟨List.mem_of_getElem? (i := 739) (by decide +kernel), by decide +kernel⟩
theorem g_RX5_22 (C : Cx p s m args c cc nL RX5 D (tyM cI) 23 A X Acc)  (d : decode cc pc = .ok (.getfield 22, 3)) (q : Nat) (hq : pc + 3 = q) (K : J p l e R s m args below meth c cells slots Qf D 23 A (ceM A cI) Acc nL S q L (.ref (A 5) :: st)) : J p l e R s m args below meth c cells slots Qf D 23 A (ceM A cI) Acc nL S pc L (.ref (A 0) :: st) := r_get C 0 7 hin5 (Nat.le_of_ble_eq_true rfl) (heM_o (S 0)) (ci := 5) (nF := 37) rfl (Nat.le_of_ble_eq_true rfl) b_739 rfl rfl d q hq K
theorem b_740 : Cond.fieldLink RX5 25 "StoreNotesModel" "roots" "[I" ∈ BIG := List.mem_filter.mpr ⟨List.mem_of_getElem? (i := 740) (by decide +kernel), by decide +kernel⟩
theorem g_RX5_25 (C : Cx p s m args c cc nL RX5 D (tyM cI) 23 A X Acc)  (d : decode cc pc = .ok (.getfield 25, 3)) (q : Nat) (hq : pc + 3 = q) (K : J p l e R s m args below meth c cells slots Qf D 23 A (ceM A cI) Acc nL S q L (.ref (A 6) :: st)) : J p l e R s m args below meth c cells slots Qf D 23 A (ceM A cI) Acc nL S pc L (.ref (A 0) :: st) := r_get C 0 8 hin5 (Nat.le_of_ble_eq_true rfl) (heM_o (S 0)) (ci := 5) (nF := 37) rfl (Nat.le_of_ble_eq_true rfl) b_740 rfl rfl d q hq K
theorem b_741 : Cond.fieldLink RX5 157 "StoreNotesModel" "kept" "I" ∈ BIG := List.mem_filter.mpr ⟨List.mem_of_getElem? (i := 741) (by decide +kernel), by decide +kernel⟩
theorem g_RX5_157 (C : Cx p s m args c cc nL RX5 D (tyM cI) 23 A X Acc)  (d : decode cc pc = .ok (.getfield 157, 3)) (q : Nat) (hq : pc + 3 = q) (K : J p l e R s m args below meth c cells slots Qf D 23 A (ceM A cI) Acc nL S q L (.int (S 0 9) :: st)) : J p l e R s m args below meth c cells slots Qf D 23 A (ceM A cI) Acc nL S pc L (.ref (A 0) :: st) := r_get C 0 9 hin5 (Nat.le_of_ble_eq_true rfl) (heM_o (S 0)) (ci := 5) (nF := 37) rfl (Nat.le_of_ble_eq_true rfl) b_741 rfl rfl d q hq K
theorem p_RX5_157 (C : Cx p s m args c cc nL RX5 D (tyM cI) 23 A X Acc)  {x : Int32} (d : decode cc pc = .ok (.putfield 157, 3)) (q : Nat) (hq : pc + 3 = q) (K : ∀ S1, S1 = up2 S 0 9 x → J p l e R s m args below meth c cells slots Qf D 23 A (ceM A cI) Acc nL S1 q L st) : J p l e R s m args below meth c cells slots Qf D 23 A (ceM A cI) Acc nL S pc L (.int x :: .ref (A 0) :: st) := r_put C 0 9 hin5 tyX5 tyX5_ok nmX5 (Nat.le_of_ble_eq_true rfl) (heM_o (S 0)) (ci := 5) (nF := 37) rfl (Nat.le_of_ble_eq_true rfl) b_741 rfl rfl (ty := tyX5 9) (by decide +kernel) rfl rfl (Nat.le_of_ble_eq_true rfl) (upd (S 0) 9 x) (by rw [heM_o]; rfl) d q hq K
theorem b_742 : Cond.fieldLink RX5 28 "StoreNotesModel" "stack" "[I" ∈ BIG := List.mem_filter.mpr ⟨List.mem_of_getElem? (i := 742) (by decide +kernel), by decide +kernel⟩
theorem g_RX5_28 (C : Cx p s m args c cc nL RX5 D (tyM cI) 23 A X Acc)  (d : decode cc pc = .ok (.getfield 28, 3)) (q : Nat) (hq : pc + 3 = q) (K : J p l e R s m args below meth c cells slots Qf D 23 A (ceM A cI) Acc nL S q L (.ref (A 7) :: st)) : J p l e R s m args below meth c cells slots Qf D 23 A (ceM A cI) Acc nL S pc L (.ref (A 0) :: st) := r_get C 0 10 hin5 (Nat.le_of_ble_eq_true rfl) (heM_o (S 0)) (ci := 5) (nF := 37) rfl (Nat.le_of_ble_eq_true rfl) b_742 rfl rfl d q hq K
theorem b_743 : Cond.fieldLink RX5 31 "StoreNotesModel" "weak" "[I" ∈ BIG := List.mem_filter.mpr ⟨List.mem_of_getElem? (i := 743) (by decide +kernel), by decide +kernel⟩
theorem g_RX5_31 (C : Cx p s m args c cc nL RX5 D (tyM cI) 23 A X Acc)  (d : decode cc pc = .ok (.getfield 31, 3)) (q : Nat) (hq : pc + 3 = q) (K : J p l e R s m args below meth c cells slots Qf D 23 A (ceM A cI) Acc nL S q L (.ref (A 8) :: st)) : J p l e R s m args below meth c cells slots Qf D 23 A (ceM A cI) Acc nL S pc L (.ref (A 0) :: st) := r_get C 0 11 hin5 (Nat.le_of_ble_eq_true rfl) (heM_o (S 0)) (ci := 5) (nF := 37) rfl (Nat.le_of_ble_eq_true rfl) b_743 rfl rfl d q hq K
theorem b_744 : Cond.fieldLink RX5 151 "StoreNotesModel" "wishes" "I" ∈ BIG := List.mem_filter.mpr ⟨List.mem_of_getElem? (i := 744) (by decide +kernel), by decide +kernel⟩
theorem g_RX5_151 (C : Cx p s m args c cc nL RX5 D (tyM cI) 23 A X Acc)  (d : decode cc pc = .ok (.getfield 151, 3)) (q : Nat) (hq : pc + 3 = q) (K : J p l e R s m args below meth c cells slots Qf D 23 A (ceM A cI) Acc nL S q L (.int (S 0 12) :: st)) : J p l e R s m args below meth c cells slots Qf D 23 A (ceM A cI) Acc nL S pc L (.ref (A 0) :: st) := r_get C 0 12 hin5 (Nat.le_of_ble_eq_true rfl) (heM_o (S 0)) (ci := 5) (nF := 37) rfl (Nat.le_of_ble_eq_true rfl) b_744 rfl rfl d q hq K
theorem p_RX5_151 (C : Cx p s m args c cc nL RX5 D (tyM cI) 23 A X Acc)  {x : Int32} (d : decode cc pc = .ok (.putfield 151, 3)) (q : Nat) (hq : pc + 3 = q) (K : ∀ S1, S1 = up2 S 0 12 x → J p l e R s m args below meth c cells slots Qf D 23 A (ceM A cI) Acc nL S1 q L st) : J p l e R s m args below meth c cells slots Qf D 23 A (ceM A cI) Acc nL S pc L (.int x :: .ref (A 0) :: st) := r_put C 0 12 hin5 tyX5 tyX5_ok nmX5 (Nat.le_of_ble_eq_true rfl) (heM_o (S 0)) (ci := 5) (nF := 37) rfl (Nat.le_of_ble_eq_true rfl) b_744 rfl rfl (ty := tyX5 12) (by decide +kernel) rfl rfl (Nat.le_of_ble_eq_true rfl) (upd (S 0) 12 x) (by rw [heM_o]; rfl) d q hq K
theorem b_745 : Cond.fieldLink RX5 34 "StoreNotesModel" "wish" "[I" ∈ BIG := List.mem_filter.mpr ⟨List.mem_of_getElem? (i := 745) (by decide +kernel), by decide +kernel⟩
theorem g_RX5_34 (C : Cx p s m args c cc nL RX5 D (tyM cI) 23 A X Acc)  (d : decode cc pc = .ok (.getfield 34, 3)) (q : Nat) (hq : pc + 3 = q) (K : J p l e R s m args below meth c cells slots Qf D 23 A (ceM A cI) Acc nL S q L (.ref (A 9) :: st)) : J p l e R s m args below meth c cells slots Qf D 23 A (ceM A cI) Acc nL S pc L (.ref (A 0) :: st) := r_get C 0 13 hin5 (Nat.le_of_ble_eq_true rfl) (heM_o (S 0)) (ci := 5) (nF := 37) rfl (Nat.le_of_ble_eq_true rfl) b_745 rfl rfl d q hq K
theorem b_746 : Cond.fieldLink RX5 154 "StoreNotesModel" "queued" "I" ∈ BIG := List.mem_filter.mpr ⟨List.mem_of_getElem? (i := 746) (by decide +kernel), by decide +kernel⟩
theorem g_RX5_154 (C : Cx p s m args c cc nL RX5 D (tyM cI) 23 A X Acc)  (d : decode cc pc = .ok (.getfield 154, 3)) (q : Nat) (hq : pc + 3 = q) (K : J p l e R s m args below meth c cells slots Qf D 23 A (ceM A cI) Acc nL S q L (.int (S 0 14) :: st)) : J p l e R s m args below meth c cells slots Qf D 23 A (ceM A cI) Acc nL S pc L (.ref (A 0) :: st) := r_get C 0 14 hin5 (Nat.le_of_ble_eq_true rfl) (heM_o (S 0)) (ci := 5) (nF := 37) rfl (Nat.le_of_ble_eq_true rfl) b_746 rfl rfl d q hq K
theorem p_RX5_154 (C : Cx p s m args c cc nL RX5 D (tyM cI) 23 A X Acc)  {x : Int32} (d : decode cc pc = .ok (.putfield 154, 3)) (q : Nat) (hq : pc + 3 = q) (K : ∀ S1, S1 = up2 S 0 14 x → J p l e R s m args below meth c cells slots Qf D 23 A (ceM A cI) Acc nL S1 q L st) : J p l e R s m args below meth c cells slots Qf D 23 A (ceM A cI) Acc nL S pc L (.int x :: .ref (A 0) :: st) := r_put C 0 14 hin5 tyX5 tyX5_ok nmX5 (Nat.le_of_ble_eq_true rfl) (heM_o (S 0)) (ci := 5) (nF := 37) rfl (Nat.le_of_ble_eq_true rfl) b_746 rfl rfl (ty := tyX5 14) (by decide +kernel) rfl rfl (Nat.le_of_ble_eq_true rfl) (upd (S 0) 14 x) (by rw [heM_o]; rfl) d q hq K
theorem b_747 : Cond.fieldLink RX5 37 "StoreNotesModel" "queue" "[I" ∈ BIG := List.mem_filter.mpr ⟨List.mem_of_getElem? (i := 747) (by decide +kernel), by decide +kernel⟩
theorem g_RX5_37 (C : Cx p s m args c cc nL RX5 D (tyM cI) 23 A X Acc)  (d : decode cc pc = .ok (.getfield 37, 3)) (q : Nat) (hq : pc + 3 = q) (K : J p l e R s m args below meth c cells slots Qf D 23 A (ceM A cI) Acc nL S q L (.ref (A 10) :: st)) : J p l e R s m args below meth c cells slots Qf D 23 A (ceM A cI) Acc nL S pc L (.ref (A 0) :: st) := r_get C 0 15 hin5 (Nat.le_of_ble_eq_true rfl) (heM_o (S 0)) (ci := 5) (nF := 37) rfl (Nat.le_of_ble_eq_true rfl) b_747 rfl rfl d q hq K
theorem b_748 : Cond.fieldLink RX5 105 "StoreNotesModel" "notes" "I" ∈ BIG := List.mem_filter.mpr ⟨List.mem_of_getElem? (i := 748) (by decide +kernel), by decide +kernel⟩
theorem g_RX5_105 (C : Cx p s m args c cc nL RX5 D (tyM cI) 23 A X Acc)  (d : decode cc pc = .ok (.getfield 105, 3)) (q : Nat) (hq : pc + 3 = q) (K : J p l e R s m args below meth c cells slots Qf D 23 A (ceM A cI) Acc nL S q L (.int (S 0 16) :: st)) : J p l e R s m args below meth c cells slots Qf D 23 A (ceM A cI) Acc nL S pc L (.ref (A 0) :: st) := r_get C 0 16 hin5 (Nat.le_of_ble_eq_true rfl) (heM_o (S 0)) (ci := 5) (nF := 37) rfl (Nat.le_of_ble_eq_true rfl) b_748 rfl rfl d q hq K
theorem p_RX5_105 (C : Cx p s m args c cc nL RX5 D (tyM cI) 23 A X Acc)  {x : Int32} (d : decode cc pc = .ok (.putfield 105, 3)) (q : Nat) (hq : pc + 3 = q) (K : ∀ S1, S1 = up2 S 0 16 x → J p l e R s m args below meth c cells slots Qf D 23 A (ceM A cI) Acc nL S1 q L st) : J p l e R s m args below meth c cells slots Qf D 23 A (ceM A cI) Acc nL S pc L (.int x :: .ref (A 0) :: st) := r_put C 0 16 hin5 tyX5 tyX5_ok nmX5 (Nat.le_of_ble_eq_true rfl) (heM_o (S 0)) (ci := 5) (nF := 37) rfl (Nat.le_of_ble_eq_true rfl) b_748 rfl rfl (ty := tyX5 16) (by decide +kernel) rfl rfl (Nat.le_of_ble_eq_true rfl) (upd (S 0) 16 x) (by rw [heM_o]; rfl) d q hq K
theorem b_749 : Cond.fieldLink RX5 40 "StoreNotesModel" "note" "[I" ∈ BIG := List.mem_filter.mpr ⟨List.mem_of_getElem? (i := 749) (by decide +kernel), by decide +kernel⟩
theorem g_RX5_40 (C : Cx p s m args c cc nL RX5 D (tyM cI) 23 A X Acc)  (d : decode cc pc = .ok (.getfield 40, 3)) (q : Nat) (hq : pc + 3 = q) (K : J p l e R s m args below meth c cells slots Qf D 23 A (ceM A cI) Acc nL S q L (.ref (A 11) :: st)) : J p l e R s m args below meth c cells slots Qf D 23 A (ceM A cI) Acc nL S pc L (.ref (A 0) :: st) := r_get C 0 17 hin5 (Nat.le_of_ble_eq_true rfl) (heM_o (S 0)) (ci := 5) (nF := 37) rfl (Nat.le_of_ble_eq_true rfl) b_749 rfl rfl d q hq K
theorem b_750 : Cond.fieldLink RX5 43 "StoreNotesModel" "remembered" "[I" ∈ BIG := List.mem_filter.mpr ⟨List.mem_of_getElem? (i := 750) (by decide +kernel), by decide +kernel⟩
theorem g_RX5_43 (C : Cx p s m args c cc nL RX5 D (tyM cI) 23 A X Acc)  (d : decode cc pc = .ok (.getfield 43, 3)) (q : Nat) (hq : pc + 3 = q) (K : J p l e R s m args below meth c cells slots Qf D 23 A (ceM A cI) Acc nL S q L (.ref (A 12) :: st)) : J p l e R s m args below meth c cells slots Qf D 23 A (ceM A cI) Acc nL S pc L (.ref (A 0) :: st) := r_get C 0 18 hin5 (Nat.le_of_ble_eq_true rfl) (heM_o (S 0)) (ci := 5) (nF := 37) rfl (Nat.le_of_ble_eq_true rfl) b_750 rfl rfl d q hq K
theorem b_751 : Cond.fieldLink RX5 46 "StoreNotesModel" "row" "[I" ∈ BIG := List.mem_filter.mpr ⟨List.mem_of_getElem? (i := 751) (by decide +kernel), by decide +kernel⟩
theorem g_RX5_46 (C : Cx p s m args c cc nL RX5 D (tyM cI) 23 A X Acc)  (d : decode cc pc = .ok (.getfield 46, 3)) (q : Nat) (hq : pc + 3 = q) (K : J p l e R s m args below meth c cells slots Qf D 23 A (ceM A cI) Acc nL S q L (.ref (A 13) :: st)) : J p l e R s m args below meth c cells slots Qf D 23 A (ceM A cI) Acc nL S pc L (.ref (A 0) :: st) := r_get C 0 19 hin5 (Nat.le_of_ble_eq_true rfl) (heM_o (S 0)) (ci := 5) (nF := 37) rfl (Nat.le_of_ble_eq_true rfl) b_751 rfl rfl d q hq K
theorem b_752 : Cond.fieldLink RX5 49 "StoreNotesModel" "oldCounts" "[I" ∈ BIG := List.mem_filter.mpr ⟨List.mem_of_getElem? (i := 752) (by decide +kernel), by decide +kernel⟩
theorem g_RX5_49 (C : Cx p s m args c cc nL RX5 D (tyM cI) 23 A X Acc)  (d : decode cc pc = .ok (.getfield 49, 3)) (q : Nat) (hq : pc + 3 = q) (K : J p l e R s m args below meth c cells slots Qf D 23 A (ceM A cI) Acc nL S q L (.ref (A 14) :: st)) : J p l e R s m args below meth c cells slots Qf D 23 A (ceM A cI) Acc nL S pc L (.ref (A 0) :: st) := r_get C 0 20 hin5 (Nat.le_of_ble_eq_true rfl) (heM_o (S 0)) (ci := 5) (nF := 37) rfl (Nat.le_of_ble_eq_true rfl) b_752 rfl rfl d q hq K
theorem b_753 : Cond.fieldLink RX5 52 "StoreNotesModel" "oldRow" "[I" ∈ BIG := List.mem_filter.mpr ⟨List.mem_of_getElem? (i := 753) (by decide +kernel), by decide +kernel⟩
theorem g_RX5_52 (C : Cx p s m args c cc nL RX5 D (tyM cI) 23 A X Acc)  (d : decode cc pc = .ok (.getfield 52, 3)) (q : Nat) (hq : pc + 3 = q) (K : J p l e R s m args below meth c cells slots Qf D 23 A (ceM A cI) Acc nL S q L (.ref (A 15) :: st)) : J p l e R s m args below meth c cells slots Qf D 23 A (ceM A cI) Acc nL S pc L (.ref (A 0) :: st) := r_get C 0 21 hin5 (Nat.le_of_ble_eq_true rfl) (heM_o (S 0)) (ci := 5) (nF := 37) rfl (Nat.le_of_ble_eq_true rfl) b_753 rfl rfl d q hq K
theorem b_754 : Cond.fieldLink RX5 55 "StoreNotesModel" "collections" "[I" ∈ BIG := List.mem_filter.mpr ⟨List.mem_of_getElem? (i := 754) (by decide +kernel), by decide +kernel⟩
theorem g_RX5_55 (C : Cx p s m args c cc nL RX5 D (tyM cI) 23 A X Acc)  (d : decode cc pc = .ok (.getfield 55, 3)) (q : Nat) (hq : pc + 3 = q) (K : J p l e R s m args below meth c cells slots Qf D 23 A (ceM A cI) Acc nL S q L (.ref (A 16) :: st)) : J p l e R s m args below meth c cells slots Qf D 23 A (ceM A cI) Acc nL S pc L (.ref (A 0) :: st) := r_get C 0 22 hin5 (Nat.le_of_ble_eq_true rfl) (heM_o (S 0)) (ci := 5) (nF := 37) rfl (Nat.le_of_ble_eq_true rfl) b_754 rfl rfl d q hq K
theorem b_755 : Cond.fieldLink RX5 112 "StoreNotesModel" "overflows" "I" ∈ BIG := List.mem_filter.mpr ⟨List.mem_of_getElem? (i := 755) (by decide +kernel), by decide +kernel⟩
theorem g_RX5_112 (C : Cx p s m args c cc nL RX5 D (tyM cI) 23 A X Acc)  (d : decode cc pc = .ok (.getfield 112, 3)) (q : Nat) (hq : pc + 3 = q) (K : J p l e R s m args below meth c cells slots Qf D 23 A (ceM A cI) Acc nL S q L (.int (S 0 23) :: st)) : J p l e R s m args below meth c cells slots Qf D 23 A (ceM A cI) Acc nL S pc L (.ref (A 0) :: st) := r_get C 0 23 hin5 (Nat.le_of_ble_eq_true rfl) (heM_o (S 0)) (ci := 5) (nF := 37) rfl (Nat.le_of_ble_eq_true rfl) b_755 rfl rfl d q hq K
theorem p_RX5_112 (C : Cx p s m args c cc nL RX5 D (tyM cI) 23 A X Acc)  {x : Int32} (d : decode cc pc = .ok (.putfield 112, 3)) (q : Nat) (hq : pc + 3 = q) (K : ∀ S1, S1 = up2 S 0 23 x → J p l e R s m args below meth c cells slots Qf D 23 A (ceM A cI) Acc nL S1 q L st) : J p l e R s m args below meth c cells slots Qf D 23 A (ceM A cI) Acc nL S pc L (.int x :: .ref (A 0) :: st) := r_put C 0 23 hin5 tyX5 tyX5_ok nmX5 (Nat.le_of_ble_eq_true rfl) (heM_o (S 0)) (ci := 5) (nF := 37) rfl (Nat.le_of_ble_eq_true rfl) b_755 rfl rfl (ty := tyX5 23) (by decide +kernel) rfl rfl (Nat.le_of_ble_eq_true rfl) (upd (S 0) 23 x) (by rw [heM_o]; rfl) d q hq K
theorem b_756 : Cond.fieldLink RX5 169 "StoreNotesModel" "copiedEver" "I" ∈ BIG := List.mem_filter.mpr ⟨List.mem_of_getElem? (i := 756) (by decide +kernel), by decide +kernel⟩
theorem g_RX5_169 (C : Cx p s m args c cc nL RX5 D (tyM cI) 23 A X Acc)  (d : decode cc pc = .ok (.getfield 169, 3)) (q : Nat) (hq : pc + 3 = q) (K : J p l e R s m args below meth c cells slots Qf D 23 A (ceM A cI) Acc nL S q L (.int (S 0 24) :: st)) : J p l e R s m args below meth c cells slots Qf D 23 A (ceM A cI) Acc nL S pc L (.ref (A 0) :: st) := r_get C 0 24 hin5 (Nat.le_of_ble_eq_true rfl) (heM_o (S 0)) (ci := 5) (nF := 37) rfl (Nat.le_of_ble_eq_true rfl) b_756 rfl rfl d q hq K
theorem p_RX5_169 (C : Cx p s m args c cc nL RX5 D (tyM cI) 23 A X Acc)  {x : Int32} (d : decode cc pc = .ok (.putfield 169, 3)) (q : Nat) (hq : pc + 3 = q) (K : ∀ S1, S1 = up2 S 0 24 x → J p l e R s m args below meth c cells slots Qf D 23 A (ceM A cI) Acc nL S1 q L st) : J p l e R s m args below meth c cells slots Qf D 23 A (ceM A cI) Acc nL S pc L (.int x :: .ref (A 0) :: st) := r_put C 0 24 hin5 tyX5 tyX5_ok nmX5 (Nat.le_of_ble_eq_true rfl) (heM_o (S 0)) (ci := 5) (nF := 37) rfl (Nat.le_of_ble_eq_true rfl) b_756 rfl rfl (ty := tyX5 24) (by decide +kernel) rfl rfl (Nat.le_of_ble_eq_true rfl) (upd (S 0) 24 x) (by rw [heM_o]; rfl) d q hq K
theorem b_757 : Cond.fieldLink RX5 135 "StoreNotesModel" "promoted" "I" ∈ BIG := List.mem_filter.mpr ⟨List.mem_of_getElem? (i := 757) (by decide +kernel), by decide +kernel⟩
theorem g_RX5_135 (C : Cx p s m args c cc nL RX5 D (tyM cI) 23 A X Acc)  (d : decode cc pc = .ok (.getfield 135, 3)) (q : Nat) (hq : pc + 3 = q) (K : J p l e R s m args below meth c cells slots Qf D 23 A (ceM A cI) Acc nL S q L (.int (S 0 25) :: st)) : J p l e R s m args below meth c cells slots Qf D 23 A (ceM A cI) Acc nL S pc L (.ref (A 0) :: st) := r_get C 0 25 hin5 (Nat.le_of_ble_eq_true rfl) (heM_o (S 0)) (ci := 5) (nF := 37) rfl (Nat.le_of_ble_eq_true rfl) b_757 rfl rfl d q hq K
theorem p_RX5_135 (C : Cx p s m args c cc nL RX5 D (tyM cI) 23 A X Acc)  {x : Int32} (d : decode cc pc = .ok (.putfield 135, 3)) (q : Nat) (hq : pc + 3 = q) (K : ∀ S1, S1 = up2 S 0 25 x → J p l e R s m args below meth c cells slots Qf D 23 A (ceM A cI) Acc nL S1 q L st) : J p l e R s m args below meth c cells slots Qf D 23 A (ceM A cI) Acc nL S pc L (.int x :: .ref (A 0) :: st) := r_put C 0 25 hin5 tyX5 tyX5_ok nmX5 (Nat.le_of_ble_eq_true rfl) (heM_o (S 0)) (ci := 5) (nF := 37) rfl (Nat.le_of_ble_eq_true rfl) b_757 rfl rfl (ty := tyX5 25) (by decide +kernel) rfl rfl (Nat.le_of_ble_eq_true rfl) (upd (S 0) 25 x) (by rw [heM_o]; rfl) d q hq K
theorem b_758 : Cond.fieldLink RX5 217 "StoreNotesModel" "steps" "I" ∈ BIG := List.mem_filter.mpr ⟨List.mem_of_getElem? (i := 758) (by decide +kernel), by decide +kernel⟩
theorem g_RX5_217 (C : Cx p s m args c cc nL RX5 D (tyM cI) 23 A X Acc)  (d : decode cc pc = .ok (.getfield 217, 3)) (q : Nat) (hq : pc + 3 = q) (K : J p l e R s m args below meth c cells slots Qf D 23 A (ceM A cI) Acc nL S q L (.int (S 0 26) :: st)) : J p l e R s m args below meth c cells slots Qf D 23 A (ceM A cI) Acc nL S pc L (.ref (A 0) :: st) := r_get C 0 26 hin5 (Nat.le_of_ble_eq_true rfl) (heM_o (S 0)) (ci := 5) (nF := 37) rfl (Nat.le_of_ble_eq_true rfl) b_758 rfl rfl d q hq K
theorem p_RX5_217 (C : Cx p s m args c cc nL RX5 D (tyM cI) 23 A X Acc)  {x : Int32} (d : decode cc pc = .ok (.putfield 217, 3)) (q : Nat) (hq : pc + 3 = q) (K : ∀ S1, S1 = up2 S 0 26 x → J p l e R s m args below meth c cells slots Qf D 23 A (ceM A cI) Acc nL S1 q L st) : J p l e R s m args below meth c cells slots Qf D 23 A (ceM A cI) Acc nL S pc L (.int x :: .ref (A 0) :: st) := r_put C 0 26 hin5 tyX5 tyX5_ok nmX5 (Nat.le_of_ble_eq_true rfl) (heM_o (S 0)) (ci := 5) (nF := 37) rfl (Nat.le_of_ble_eq_true rfl) b_758 rfl rfl (ty := tyX5 26) (by decide +kernel) rfl rfl (Nat.le_of_ble_eq_true rfl) (upd (S 0) 26 x) (by rw [heM_o]; rfl) d q hq K
theorem b_759 : Cond.fieldLink RX5 206 "StoreNotesModel" "placeNow" "I" ∈ BIG := List.mem_filter.mpr ⟨List.mem_of_getElem? (i := 759) (by decide +kernel), by decide +kernel⟩
theorem g_RX5_206 (C : Cx p s m args c cc nL RX5 D (tyM cI) 23 A X Acc)  (d : decode cc pc = .ok (.getfield 206, 3)) (q : Nat) (hq : pc + 3 = q) (K : J p l e R s m args below meth c cells slots Qf D 23 A (ceM A cI) Acc nL S q L (.int (S 0 27) :: st)) : J p l e R s m args below meth c cells slots Qf D 23 A (ceM A cI) Acc nL S pc L (.ref (A 0) :: st) := r_get C 0 27 hin5 (Nat.le_of_ble_eq_true rfl) (heM_o (S 0)) (ci := 5) (nF := 37) rfl (Nat.le_of_ble_eq_true rfl) b_759 rfl rfl d q hq K
theorem p_RX5_206 (C : Cx p s m args c cc nL RX5 D (tyM cI) 23 A X Acc)  {x : Int32} (d : decode cc pc = .ok (.putfield 206, 3)) (q : Nat) (hq : pc + 3 = q) (K : ∀ S1, S1 = up2 S 0 27 x → J p l e R s m args below meth c cells slots Qf D 23 A (ceM A cI) Acc nL S1 q L st) : J p l e R s m args below meth c cells slots Qf D 23 A (ceM A cI) Acc nL S pc L (.int x :: .ref (A 0) :: st) := r_put C 0 27 hin5 tyX5 tyX5_ok nmX5 (Nat.le_of_ble_eq_true rfl) (heM_o (S 0)) (ci := 5) (nF := 37) rfl (Nat.le_of_ble_eq_true rfl) b_759 rfl rfl (ty := tyX5 27) (by decide +kernel) rfl rfl (Nat.le_of_ble_eq_true rfl) (upd (S 0) 27 x) (by rw [heM_o]; rfl) d q hq K
theorem b_760 : Cond.fieldLink RX5 58 "StoreNotesModel" "numbers" "[I" ∈ BIG := List.mem_filter.mpr ⟨List.mem_of_getElem? (i := 760) (by decide +kernel), by decide +kernel⟩
theorem g_RX5_58 (C : Cx p s m args c cc nL RX5 D (tyM cI) 23 A X Acc)  (d : decode cc pc = .ok (.getfield 58, 3)) (q : Nat) (hq : pc + 3 = q) (K : J p l e R s m args below meth c cells slots Qf D 23 A (ceM A cI) Acc nL S q L (.ref (A 17) :: st)) : J p l e R s m args below meth c cells slots Qf D 23 A (ceM A cI) Acc nL S pc L (.ref (A 0) :: st) := r_get C 0 28 hin5 (Nat.le_of_ble_eq_true rfl) (heM_o (S 0)) (ci := 5) (nF := 37) rfl (Nat.le_of_ble_eq_true rfl) b_760 rfl rfl d q hq K
theorem b_761 : Cond.fieldLink RX5 194 "StoreNotesModel" "codes" "I" ∈ BIG := List.mem_filter.mpr ⟨List.mem_of_getElem? (i := 761) (by decide +kernel), by decide +kernel⟩
theorem g_RX5_194 (C : Cx p s m args c cc nL RX5 D (tyM cI) 23 A X Acc)  (d : decode cc pc = .ok (.getfield 194, 3)) (q : Nat) (hq : pc + 3 = q) (K : J p l e R s m args below meth c cells slots Qf D 23 A (ceM A cI) Acc nL S q L (.int (S 0 29) :: st)) : J p l e R s m args below meth c cells slots Qf D 23 A (ceM A cI) Acc nL S pc L (.ref (A 0) :: st) := r_get C 0 29 hin5 (Nat.le_of_ble_eq_true rfl) (heM_o (S 0)) (ci := 5) (nF := 37) rfl (Nat.le_of_ble_eq_true rfl) b_761 rfl rfl d q hq K
theorem p_RX5_194 (C : Cx p s m args c cc nL RX5 D (tyM cI) 23 A X Acc)  {x : Int32} (d : decode cc pc = .ok (.putfield 194, 3)) (q : Nat) (hq : pc + 3 = q) (K : ∀ S1, S1 = up2 S 0 29 x → J p l e R s m args below meth c cells slots Qf D 23 A (ceM A cI) Acc nL S1 q L st) : J p l e R s m args below meth c cells slots Qf D 23 A (ceM A cI) Acc nL S pc L (.int x :: .ref (A 0) :: st) := r_put C 0 29 hin5 tyX5 tyX5_ok nmX5 (Nat.le_of_ble_eq_true rfl) (heM_o (S 0)) (ci := 5) (nF := 37) rfl (Nat.le_of_ble_eq_true rfl) b_761 rfl rfl (ty := tyX5 29) (by decide +kernel) rfl rfl (Nat.le_of_ble_eq_true rfl) (upd (S 0) 29 x) (by rw [heM_o]; rfl) d q hq K
theorem b_762 : Cond.fieldLink RX5 61 "StoreNotesModel" "code" "[I" ∈ BIG := List.mem_filter.mpr ⟨List.mem_of_getElem? (i := 762) (by decide +kernel), by decide +kernel⟩
theorem g_RX5_61 (C : Cx p s m args c cc nL RX5 D (tyM cI) 23 A X Acc)  (d : decode cc pc = .ok (.getfield 61, 3)) (q : Nat) (hq : pc + 3 = q) (K : J p l e R s m args below meth c cells slots Qf D 23 A (ceM A cI) Acc nL S q L (.ref (A 18) :: st)) : J p l e R s m args below meth c cells slots Qf D 23 A (ceM A cI) Acc nL S pc L (.ref (A 0) :: st) := r_get C 0 30 hin5 (Nat.le_of_ble_eq_true rfl) (heM_o (S 0)) (ci := 5) (nF := 37) rfl (Nat.le_of_ble_eq_true rfl) b_762 rfl rfl d q hq K
theorem b_763 : Cond.fieldLink RX5 118 "StoreNotesModel" "collected" "I" ∈ BIG := List.mem_filter.mpr ⟨List.mem_of_getElem? (i := 763) (by decide +kernel), by decide +kernel⟩
theorem g_RX5_118 (C : Cx p s m args c cc nL RX5 D (tyM cI) 23 A X Acc)  (d : decode cc pc = .ok (.getfield 118, 3)) (q : Nat) (hq : pc + 3 = q) (K : J p l e R s m args below meth c cells slots Qf D 23 A (ceM A cI) Acc nL S q L (.int (S 0 31) :: st)) : J p l e R s m args below meth c cells slots Qf D 23 A (ceM A cI) Acc nL S pc L (.ref (A 0) :: st) := r_get C 0 31 hin5 (Nat.le_of_ble_eq_true rfl) (heM_o (S 0)) (ci := 5) (nF := 37) rfl (Nat.le_of_ble_eq_true rfl) b_763 rfl rfl d q hq K
theorem p_RX5_118 (C : Cx p s m args c cc nL RX5 D (tyM cI) 23 A X Acc)  {x : Int32} (d : decode cc pc = .ok (.putfield 118, 3)) (q : Nat) (hq : pc + 3 = q) (K : ∀ S1, S1 = up2 S 0 31 x → J p l e R s m args below meth c cells slots Qf D 23 A (ceM A cI) Acc nL S1 q L st) : J p l e R s m args below meth c cells slots Qf D 23 A (ceM A cI) Acc nL S pc L (.int x :: .ref (A 0) :: st) := r_put C 0 31 hin5 tyX5 tyX5_ok nmX5 (Nat.le_of_ble_eq_true rfl) (heM_o (S 0)) (ci := 5) (nF := 37) rfl (Nat.le_of_ble_eq_true rfl) b_763 rfl rfl (ty := tyX5 31) (by decide +kernel) rfl rfl (Nat.le_of_ble_eq_true rfl) (upd (S 0) 31 x) (by rw [heM_o]; rfl) d q hq K
theorem b_764 : Cond.fieldLink RX5 138 "StoreNotesModel" "copied" "I" ∈ BIG := List.mem_filter.mpr ⟨List.mem_of_getElem? (i := 764) (by decide +kernel), by decide +kernel⟩
theorem g_RX5_138 (C : Cx p s m args c cc nL RX5 D (tyM cI) 23 A X Acc)  (d : decode cc pc = .ok (.getfield 138, 3)) (q : Nat) (hq : pc + 3 = q) (K : J p l e R s m args below meth c cells slots Qf D 23 A (ceM A cI) Acc nL S q L (.int (S 0 32) :: st)) : J p l e R s m args below meth c cells slots Qf D 23 A (ceM A cI) Acc nL S pc L (.ref (A 0) :: st) := r_get C 0 32 hin5 (Nat.le_of_ble_eq_true rfl) (heM_o (S 0)) (ci := 5) (nF := 37) rfl (Nat.le_of_ble_eq_true rfl) b_764 rfl rfl d q hq K
theorem p_RX5_138 (C : Cx p s m args c cc nL RX5 D (tyM cI) 23 A X Acc)  {x : Int32} (d : decode cc pc = .ok (.putfield 138, 3)) (q : Nat) (hq : pc + 3 = q) (K : ∀ S1, S1 = up2 S 0 32 x → J p l e R s m args below meth c cells slots Qf D 23 A (ceM A cI) Acc nL S1 q L st) : J p l e R s m args below meth c cells slots Qf D 23 A (ceM A cI) Acc nL S pc L (.int x :: .ref (A 0) :: st) := r_put C 0 32 hin5 tyX5 tyX5_ok nmX5 (Nat.le_of_ble_eq_true rfl) (heM_o (S 0)) (ci := 5) (nF := 37) rfl (Nat.le_of_ble_eq_true rfl) b_764 rfl rfl (ty := tyX5 32) (by decide +kernel) rfl rfl (Nat.le_of_ble_eq_true rfl) (upd (S 0) 32 x) (by rw [heM_o]; rfl) d q hq K
theorem b_765 : Cond.fieldLink RX5 64 "StoreNotesModel" "fromBegin" "[I" ∈ BIG := List.mem_filter.mpr ⟨List.mem_of_getElem? (i := 765) (by decide +kernel), by decide +kernel⟩
theorem g_RX5_64 (C : Cx p s m args c cc nL RX5 D (tyM cI) 23 A X Acc)  (d : decode cc pc = .ok (.getfield 64, 3)) (q : Nat) (hq : pc + 3 = q) (K : J p l e R s m args below meth c cells slots Qf D 23 A (ceM A cI) Acc nL S q L (.ref (A 19) :: st)) : J p l e R s m args below meth c cells slots Qf D 23 A (ceM A cI) Acc nL S pc L (.ref (A 0) :: st) := r_get C 0 33 hin5 (Nat.le_of_ble_eq_true rfl) (heM_o (S 0)) (ci := 5) (nF := 37) rfl (Nat.le_of_ble_eq_true rfl) b_765 rfl rfl d q hq K
theorem b_766 : Cond.fieldLink RX5 67 "StoreNotesModel" "fromEnd" "[I" ∈ BIG := List.mem_filter.mpr ⟨List.mem_of_getElem? (i := 766) (by decide +kernel), by decide +kernel⟩
theorem g_RX5_67 (C : Cx p s m args c cc nL RX5 D (tyM cI) 23 A X Acc)  (d : decode cc pc = .ok (.getfield 67, 3)) (q : Nat) (hq : pc + 3 = q) (K : J p l e R s m args below meth c cells slots Qf D 23 A (ceM A cI) Acc nL S q L (.ref (A 20) :: st)) : J p l e R s m args below meth c cells slots Qf D 23 A (ceM A cI) Acc nL S pc L (.ref (A 0) :: st) := r_get C 0 34 hin5 (Nat.le_of_ble_eq_true rfl) (heM_o (S 0)) (ci := 5) (nF := 37) rfl (Nat.le_of_ble_eq_true rfl) b_766 rfl rfl d q hq K
theorem b_767 : Cond.fieldLink RX5 70 "StoreNotesModel" "left" "[I" ∈ BIG := List.mem_filter.mpr ⟨List.mem_of_getElem? (i := 767) (by decide +kernel), by decide +kernel⟩
theorem g_RX5_70 (C : Cx p s m args c cc nL RX5 D (tyM cI) 23 A X Acc)  (d : decode cc pc = .ok (.getfield 70, 3)) (q : Nat) (hq : pc + 3 = q) (K : J p l e R s m args below meth c cells slots Qf D 23 A (ceM A cI) Acc nL S q L (.ref (A 21) :: st)) : J p l e R s m args below meth c cells slots Qf D 23 A (ceM A cI) Acc nL S pc L (.ref (A 0) :: st) := r_get C 0 35 hin5 (Nat.le_of_ble_eq_true rfl) (heM_o (S 0)) (ci := 5) (nF := 37) rfl (Nat.le_of_ble_eq_true rfl) b_767 rfl rfl d q hq K
theorem b_768 : Cond.fieldLink RX5 73 "StoreNotesModel" "scanned" "[I" ∈ BIG := List.mem_filter.mpr ⟨List.mem_of_getElem? (i := 768) (by decide +kernel), by decide +kernel⟩
theorem g_RX5_73 (C : Cx p s m args c cc nL RX5 D (tyM cI) 23 A X Acc)  (d : decode cc pc = .ok (.getfield 73, 3)) (q : Nat) (hq : pc + 3 = q) (K : J p l e R s m args below meth c cells slots Qf D 23 A (ceM A cI) Acc nL S q L (.ref (A 22) :: st)) : J p l e R s m args below meth c cells slots Qf D 23 A (ceM A cI) Acc nL S pc L (.ref (A 0) :: st) := r_get C 0 36 hin5 (Nat.le_of_ble_eq_true rfl) (heM_o (S 0)) (ci := 5) (nF := 37) rfl (Nat.le_of_ble_eq_true rfl) b_768 rfl rfl d q hq K
theorem b_74 : Cond.code yX4_nearest cX4_nearest 3 (some .int) ∈ BIG := List.mem_filter.mpr ⟨List.mem_of_getElem? (i := 74) (by decide +kernel), by decide +kernel⟩
theorem b_44 : Cond.initialized RX4 ∈ BIG := List.mem_filter.mpr ⟨List.mem_of_getElem? (i := 44) (by decide +kernel), by decide +kernel⟩
theorem b_72 : Cond.methodLink RX4 9 yX4_nearest ∈ BIG := List.mem_filter.mpr ⟨List.mem_of_getElem? (i := 72) (by decide +kernel), by decide +kernel⟩
theorem b_73 : Cond.static yX4_nearest ∈ BIG := List.mem_filter.mpr ⟨List.mem_of_getElem? (i := 73) (by decide +kernel), by decide +kernel⟩
theorem k_RX4_9 (C : Cx p s m args c cc nL RX4 D (tyC cI cG cR) 32 A X Acc)  {a0 a1 a2 : Value} {Q : Int32 → (Nat → Nat → Int32) → Prop} {fr lo : Nat} {rest : List Value} (h : Ct l D (tyC cI cG cR) 32 A (ceC A n cI cG cR) X yX4_nearest cX4_nearest 3 (some .int) fr lo [a0, a1, a2] S rI Q) (hR : fr + 1 ≤ R.frames ∧ 8 + (3 + 11) + lo ≤ R.locals) (hcat : (rest.map fun v => v.category).sum ≤ 8) (hcs : cells ≤ R.cells ∧ slots ≤ R.slots) (d : decode cc pc = .ok (.invokestatic 9, 3)) (q : Nat) (hq : pc + 3 = q) (K : ∀ (r : Int32) S1, Q r S1 → J p l e R s m args below meth c cells slots Qf D 32 A (ceC A n cI cG cR) Acc nL S1 q L (.int r :: rest)) : J p l e R s m args below meth c cells slots Qf D 32 A (ceC A n cI cG cR) Acc nL S pc L (a2 :: a1 :: a0 :: rest) := r_callS C rest h b_74 b_44 b_73 b_72 ⟨by decide +kernel, by decide +kernel, (show (parseMethodDescriptor yX4_nearest.desc).map (fun d => d.parameters.length) = some 3 by decide +kernel)⟩ hR rfl hcat hcs d q hq K
theorem b_259 : Cond.code yX4_isRoot cX4_isRoot 1 (some .boolean) ∈ BIG := List.mem_filter.mpr ⟨List.mem_of_getElem? (i := 259) (by decide +kernel), by decide +kernel⟩
theorem b_257 : Cond.methodLink RX4 178 yX4_isRoot ∈ BIG := List.mem_filter.mpr ⟨List.mem_of_getElem? (i := 257) (by decide +kernel), by decide +kernel⟩
theorem b_258 : Cond.static yX4_isRoot ∈ BIG := List.mem_filter.mpr ⟨List.mem_of_getElem? (i := 258) (by decide +kernel), by decide +kernel⟩
theorem k_RX4_178 (C : Cx p s m args c cc nL RX4 D (tyC cI cG cR) 32 A X Acc)  {a0 : Value} {Q : Bool → (Nat → Nat → Int32) → Prop} {fr lo : Nat} {rest : List Value} (h : Ct l D (tyC cI cG cR) 32 A (ceC A n cI cG cR) X yX4_isRoot cX4_isRoot 1 (some .boolean) fr lo [a0] S rZ Q) (hR : fr + 1 ≤ R.frames ∧ 8 + (1 + 11) + lo ≤ R.locals) (hcat : (rest.map fun v => v.category).sum ≤ 8) (hcs : cells ≤ R.cells ∧ slots ≤ R.slots) (d : decode cc pc = .ok (.invokestatic 178, 3)) (q : Nat) (hq : pc + 3 = q) (K : ∀ (r : Bool) S1, Q r S1 → J p l e R s m args below meth c cells slots Qf D 32 A (ceC A n cI cG cR) Acc nL S1 q L (.int (bI r) :: rest)) : J p l e R s m args below meth c cells slots Qf D 32 A (ceC A n cI cG cR) Acc nL S pc L (a0 :: rest) := r_callS C rest h b_259 b_44 b_258 b_257 ⟨by decide +kernel, by decide +kernel, (show (parseMethodDescriptor yX4_isRoot.desc).map (fun d => d.parameters.length) = some 1 by decide +kernel)⟩ hR rfl hcat hcs d q hq K
theorem b_341 : Cond.code yX1_newObject cX1_newObject 8 (some .int) ∈ BIG := List.mem_filter.mpr ⟨List.mem_of_getElem? (i := 341) (by decide +kernel), by decide +kernel⟩
theorem b_45 : Cond.initialized RX1 ∈ BIG := List.mem_filter.mpr ⟨List.mem_of_getElem? (i := 45) (by decide +kernel), by decide +kernel⟩
theorem b_338 : Cond.methodLink RX4 38 yX1_newObject ∈ BIG := List.mem_filter.mpr ⟨List.mem_of_getElem? (i := 338) (by decide +kernel), by decide +kernel⟩
theorem b_339 : Cond.instanceMethod yX1_newObject ∈ BIG := List.mem_filter.mpr ⟨List.mem_of_getElem? (i := 339) (by decide +kernel), by decide +kernel⟩
theorem b_340 : Cond.selects RX1 yX1_newObject yX1_newObject ∈ BIG := List.mem_filter.mpr ⟨List.mem_of_getElem? (i := 340) (by decide +kernel), by decide +kernel⟩
theorem k_RX4_38 (C : Cx p s m args c cc nL RX4 D (tyC cI cG cR) 32 A X Acc)  {a0 a1 a2 : Value} {Q : Int32 → (Nat → Nat → Int32) → Prop} {fr lo : Nat} {rest : List Value} (h : Ct l D (tyC cI cG cR) 32 A (ceC A n cI cG cR) X yX1_newObject cX1_newObject 8 (some .int) fr lo [.ref (A 1), a0, a1, a2] S rI Q) (hR : fr + 1 ≤ R.frames ∧ 8 + (8 + 11) + lo ≤ R.locals) (hcat : (rest.map fun v => v.category).sum ≤ 8) (hcs : cells ≤ R.cells ∧ slots ≤ R.slots) (d : decode cc pc = .ok (.invokevirtual 38, 3)) (q : Nat) (hq : pc + 3 = q) (K : ∀ (r : Int32) S1, Q r S1 → J p l e R s m args below meth c cells slots Qf D 32 A (ceC A n cI cG cR) Acc nL S1 q L (.int r :: rest)) : J p l e R s m args below meth c cells slots Qf D 32 A (ceC A n cI cG cR) Acc nL S pc L (a2 :: a1 :: a0 :: .ref (A 1) :: rest) := r_callV C (ci := 1) (T := TX1) (nF := 13) 1 rest h (Nat.le_of_ble_eq_true rfl) (heC_1 (S 1)) rfl b_341 b_45 b_339 b_340 b_338 ⟨by decide +kernel, by decide +kernel, (show (parseMethodDescriptor yX1_newObject.desc).map (fun d => d.parameters.length) = some 3 by decide +kernel)⟩ hR rfl hcat hcs d q hq K
theorem b_345 : Cond.code yX0_fits cX0_fits 2 (some .boolean) ∈ BIG := List.mem_filter.mpr ⟨List.mem_of_getElem? (i := 345) (by decide +kernel), by decide +kernel⟩
theorem b_48 : Cond.initialized RX0 ∈ BIG := List.mem_filter.mpr ⟨List.mem_of_getElem? (i := 48) (by decide +kernel), by decide +kernel⟩
theorem b_342 : Cond.methodLink RX1 100 yX0_fits ∈ BIG := List.mem_filter.mpr ⟨List.mem_of_getElem? (i := 342) (by decide +kernel), by decide +kernel⟩
theorem b_343 : Cond.instanceMethod yX0_fits ∈ BIG := List.mem_filter.mpr ⟨List.mem_of_getElem? (i := 343) (by decide +kernel), by decide +kernel⟩
theorem b_344 : Cond.selects RX0 yX0_fits yX0_fits ∈ BIG := List.mem_filter.mpr ⟨List.mem_of_getElem? (i := 344) (by decide +kernel), by decide +kernel⟩
theorem k_RX1_100 (C : Cx p s m args c cc nL RX1 D (tyC cI cG cR) 32 A X Acc) {k : Nat} (h0 : 3 ≤ k) (h1 : k < 6) {a0 : Value} {Q : Bool → (Nat → Nat → Int32) → Prop} {fr lo : Nat} {rest : List Value} (h : Ct l D (tyC cI cG cR) 32 A (ceC A n cI cG cR) X yX0_fits cX0_fits 2 (some .boolean) fr lo [.ref (A k), a0] S rZ Q) (hR : fr + 1 ≤ R.frames ∧ 8 + (2 + 11) + lo ≤ R.locals) (hcat : (rest.map fun v => v.category).sum ≤ 8) (hcs : cells ≤ R.cells ∧ slots ≤ R.slots) (d : decode cc pc = .ok (.invokevirtual 100, 3)) (q : Nat) (hq : pc + 3 = q) (K : ∀ (r : Bool) S1, Q r S1 → J p l e R s m args below meth c cells slots Qf D 32 A (ceC A n cI cG cR) Acc nL S1 q L (.int (bI r) :: rest)) : J p l e R s m args below meth c cells slots Qf D 32 A (ceC A n cI cG cR) Acc nL S pc L (a0 :: .ref (A k) :: rest) := r_callV C (ci := 0) (T := TX0) (nF := 10) k rest h (by omega) (heC_0 h0 h1 (S k)) rfl b_345 b_48 b_343 b_344 b_342 ⟨by decide +kernel, by decide +kernel, (show (parseMethodDescriptor yX0_fits.desc).map (fun d => d.parameters.length) = some 1 by decide +kernel)⟩ hR rfl hcat hcs d q hq K
theorem b_349 : Cond.code yX1_gather cX1_gather 4 (some .int) ∈ BIG := List.mem_filter.mpr ⟨List.mem_of_getElem? (i := 349) (by decide +kernel), by decide +kernel⟩
theorem b_346 : Cond.methodLink RX1 103 yX1_gather ∈ BIG := List.mem_filter.mpr ⟨List.mem_of_getElem? (i := 346) (by decide +kernel), by decide +kernel⟩
theorem b_347 : Cond.instanceMethod yX1_gather ∈ BIG := List.mem_filter.mpr ⟨List.mem_of_getElem? (i := 347) (by decide +kernel), by decide +kernel⟩
theorem b_348 : Cond.selects RX1 yX1_gather yX1_gather ∈ BIG := List.mem_filter.mpr ⟨List.mem_of_getElem? (i := 348) (by decide +kernel), by decide +kernel⟩
theorem k_RX1_103 (C : Cx p s m args c cc nL RX1 D (tyC cI cG cR) 32 A X Acc)  {a0 : Value} {Q : Int32 → (Nat → Nat → Int32) → Prop} {fr lo : Nat} {rest : List Value} (h : Ct l D (tyC cI cG cR) 32 A (ceC A n cI cG cR) X yX1_gather cX1_gather 4 (some .int) fr lo [.ref (A 1), a0] S rI Q) (hR : fr + 1 ≤ R.frames ∧ 8 + (4 + 11) + lo ≤ R.locals) (hcat : (rest.map fun v => v.category).sum ≤ 8) (hcs : cells ≤ R.cells ∧ slots ≤ R.slots) (d : decode cc pc = .ok (.invokevirtual 103, 3)) (q : Nat) (hq : pc + 3 = q) (K : ∀ (r : Int32) S1, Q r S1 → J p l e R s m args below meth c cells slots Qf D 32 A (ceC A n cI cG cR) Acc nL S1 q L (.int r :: rest)) : J p l e R s m args below meth c cells slots Qf D 32 A (ceC A n cI cG cR) Acc nL S pc L (a0 :: .ref (A 1) :: rest) := r_callV C (ci := 1) (T := TX1) (nF := 13) 1 rest h (Nat.le_of_ble_eq_true rfl) (heC_1 (S 1)) rfl b_349 b_45 b_347 b_348 b_346 ⟨by decide +kernel, by decide +kernel, (show (parseMethodDescriptor yX1_gather.desc).map (fun d => d.parameters.length) = some 1 by decide +kernel)⟩ hR rfl hcat hcs d q hq K
theorem b_353 : Cond.code yX1_filter cX1_filter 2 none ∈ BIG := List.mem_filter.mpr ⟨List.mem_of_getElem? (i := 353) (by decide +kernel), by decide +kernel⟩
theorem b_350 : Cond.methodLink RX1 117 yX1_filter ∈ BIG := List.mem_filter.mpr ⟨List.mem_of_getElem? (i := 350) (by decide +kernel), by decide +kernel⟩
theorem b_352 : Cond.instanceMethod yX1_filter ∈ BIG := List.mem_filter.mpr ⟨List.mem_of_getElem? (i := 352) (by decide +kernel), by decide +kernel⟩
theorem b_1 : Cond.selects RX1 yX1_filter yX1_filter ∈ BIG := List.mem_filter.mpr ⟨List.mem_of_getElem? (i := 1) (by decide +kernel), by decide +kernel⟩
theorem k_RX1_117 (C : Cx p s m args c cc nL RX1 D (tyC cI cG cR) 32 A X Acc)  {Q : Unit → (Nat → Nat → Int32) → Prop} {fr lo : Nat} {rest : List Value} (h : Ct l D (tyC cI cG cR) 32 A (ceC A n cI cG cR) X yX1_filter cX1_filter 2 none fr lo [.ref (A 1)] S rU Q) (hR : fr + 1 ≤ R.frames ∧ 8 + (2 + 11) + lo ≤ R.locals) (hcat : (rest.map fun v => v.category).sum ≤ 8) (hcs : cells ≤ R.cells ∧ slots ≤ R.slots) (d : decode cc pc = .ok (.invokevirtual 117, 3)) (q : Nat) (hq : pc + 3 = q) (K : ∀ S1, Q () S1 → J p l e R s m args below meth c cells slots Qf D 32 A (ceC A n cI cG cR) Acc nL S1 q L rest) : J p l e R s m args below meth c cells slots Qf D 32 A (ceC A n cI cG cR) Acc nL S pc L (.ref (A 1) :: rest) := r_callV C (ci := 1) (T := TX1) (nF := 13) 1 rest h (Nat.le_of_ble_eq_true rfl) (heC_1 (S 1)) rfl b_353 b_45 b_352 b_1 b_350 ⟨by decide +kernel, by decide +kernel, (show (parseMethodDescriptor yX1_filter.desc).map (fun d => d.parameters.length) = some 0 by decide +kernel)⟩ hR rfl hcat hcs d q hq (fun _ => K)
theorem b_357 : Cond.code yX1_remember cX1_remember 4 none ∈ BIG := List.mem_filter.mpr ⟨List.mem_of_getElem? (i := 357) (by decide +kernel), by decide +kernel⟩
theorem b_354 : Cond.methodLink RX1 120 yX1_remember ∈ BIG := List.mem_filter.mpr ⟨List.mem_of_getElem? (i := 354) (by decide +kernel), by decide +kernel⟩
theorem b_356 : Cond.instanceMethod yX1_remember ∈ BIG := List.mem_filter.mpr ⟨List.mem_of_getElem? (i := 356) (by decide +kernel), by decide +kernel⟩
theorem b_2 : Cond.selects RX1 yX1_remember yX1_remember ∈ BIG := List.mem_filter.mpr ⟨List.mem_of_getElem? (i := 2) (by decide +kernel), by decide +kernel⟩
theorem k_RX1_120 (C : Cx p s m args c cc nL RX1 D (tyC cI cG cR) 32 A X Acc)  {a0 : Value} {Q : Unit → (Nat → Nat → Int32) → Prop} {fr lo : Nat} {rest : List Value} (h : Ct l D (tyC cI cG cR) 32 A (ceC A n cI cG cR) X yX1_remember cX1_remember 4 none fr lo [.ref (A 1), a0] S rU Q) (hR : fr + 1 ≤ R.frames ∧ 8 + (4 + 11) + lo ≤ R.locals) (hcat : (rest.map fun v => v.category).sum ≤ 8) (hcs : cells ≤ R.cells ∧ slots ≤ R.slots) (d : decode cc pc = .ok (.invokevirtual 120, 3)) (q : Nat) (hq : pc + 3 = q) (K : ∀ S1, Q () S1 → J p l e R s m args below meth c cells slots Qf D 32 A (ceC A n cI cG cR) Acc nL S1 q L rest) : J p l e R s m args below meth c cells slots Qf D 32 A (ceC A n cI cG cR) Acc nL S pc L (a0 :: .ref (A 1) :: rest) := r_callV C (ci := 1) (T := TX1) (nF := 13) 1 rest h (Nat.le_of_ble_eq_true rfl) (heC_1 (S 1)) rfl b_357 b_45 b_356 b_2 b_354 ⟨by decide +kernel, by decide +kernel, (show (parseMethodDescriptor yX1_remember.desc).map (fun d => d.parameters.length) = some 1 by decide +kernel)⟩ hR rfl hcat hcs d q hq (fun _ => K)
theorem b_361 : Cond.code yX1_homeOf cX1_homeOf 3 (some (.object "StoreNotes$Generation")) ∈ BIG := List.mem_filter.mpr ⟨List.mem_of_getElem? (i := 361) (by decide +kernel), by decide +kernel⟩
theorem b_358 : Cond.methodLink RX1 70 yX1_homeOf ∈ BIG := List.mem_filter.mpr ⟨List.mem_of_getElem? (i := 358) (by decide +kernel), by decide +kernel⟩
theorem b_359 : Cond.instanceMethod yX1_homeOf ∈ BIG := List.mem_filter.mpr ⟨List.mem_of_getElem? (i := 359) (by decide +kernel), by decide +kernel⟩
theorem b_360 : Cond.selects RX1 yX1_homeOf yX1_homeOf ∈ BIG := List.mem_filter.mpr ⟨List.mem_of_getElem? (i := 360) (by decide +kernel), by decide +kernel⟩
theorem k_RX1_70 (C : Cx p s m args c cc nL RX1 D (tyC cI cG cR) 32 A X Acc)  {a0 : Value} {Q : Nat → (Nat → Nat → Int32) → Prop} {fr lo : Nat} {rest : List Value} (h : Ct l D (tyC cI cG cR) 32 A (ceC A n cI cG cR) X yX1_homeOf cX1_homeOf 3 (some (.object "StoreNotes$Generation")) fr lo [.ref (A 1), a0] S (rA A 3) Q) (hR : fr + 1 ≤ R.frames ∧ 8 + (3 + 11) + lo ≤ R.locals) (hcat : (rest.map fun v => v.category).sum ≤ 8) (hcs : cells ≤ R.cells ∧ slots ≤ R.slots) (d : decode cc pc = .ok (.invokevirtual 70, 3)) (q : Nat) (hq : pc + 3 = q) (K : ∀ (g : Nat) S1, Q g S1 → J p l e R s m args below meth c cells slots Qf D 32 A (ceC A n cI cG cR) Acc nL S1 q L (.ref (A (3 + g)) :: rest)) : J p l e R s m args below meth c cells slots Qf D 32 A (ceC A n cI cG cR) Acc nL S pc L (a0 :: .ref (A 1) :: rest) := r_callV C (ci := 1) (T := TX1) (nF := 13) 1 rest h (Nat.le_of_ble_eq_true rfl) (heC_1 (S 1)) rfl b_361 b_45 b_359 b_360 b_358 ⟨by decide +kernel, by decide +kernel, (show (parseMethodDescriptor yX1_homeOf.desc).map (fun d => d.parameters.length) = some 1 by decide +kernel)⟩ hR rfl hcat hcs d q hq K
theorem b_365 : Cond.code yX3_has cX3_has 3 (some .boolean) ∈ BIG := List.mem_filter.mpr ⟨List.mem_of_getElem? (i := 365) (by decide +kernel), by decide +kernel⟩
theorem b_47 : Cond.initialized RX3 ∈ BIG := List.mem_filter.mpr ⟨List.mem_of_getElem? (i := 47) (by decide +kernel), by decide +kernel⟩
theorem b_362 : Cond.methodLink RX1 126 yX3_has ∈ BIG := List.mem_filter.mpr ⟨List.mem_of_getElem? (i := 362) (by decide +kernel), by decide +kernel⟩
theorem b_363 : Cond.instanceMethod yX3_has ∈ BIG := List.mem_filter.mpr ⟨List.mem_of_getElem? (i := 363) (by decide +kernel), by decide +kernel⟩
theorem b_364 : Cond.selects RX3 yX3_has yX3_has ∈ BIG := List.mem_filter.mpr ⟨List.mem_of_getElem? (i := 364) (by decide +kernel), by decide +kernel⟩
theorem k_RX1_126 (C : Cx p s m args c cc nL RX1 D (tyC cI cG cR) 32 A X Acc) {k : Nat} (h0 : 6 ≤ k) (h1 : k < 16) {a0 : Value} {Q : Bool → (Nat → Nat → Int32) → Prop} {fr lo : Nat} {rest : List Value} (h : Ct l D (tyC cI cG cR) 32 A (ceC A n cI cG cR) X yX3_has cX3_has 3 (some .boolean) fr lo [.ref (A k), a0] S rZ Q) (hR : fr + 1 ≤ R.frames ∧ 8 + (3 + 11) + lo ≤ R.locals) (hcat : (rest.map fun v => v.category).sum ≤ 8) (hcs : cells ≤ R.cells ∧ slots ≤ R.slots) (d : decode cc pc = .ok (.invokevirtual 126, 3)) (q : Nat) (hq : pc + 3 = q) (K : ∀ (r : Bool) S1, Q r S1 → J p l e R s m args below meth c cells slots Qf D 32 A (ceC A n cI cG cR) Acc nL S1 q L (.int (bI r) :: rest)) : J p l e R s m args below meth c cells slots Qf D 32 A (ceC A n cI cG cR) Acc nL S pc L (a0 :: .ref (A k) :: rest) := r_callV C (ci := 3) (T := TX3) (nF := 2) k rest h (by omega) (heC_3 h0 h1 (S k)) rfl b_365 b_47 b_363 b_364 b_362 ⟨by decide +kernel, by decide +kernel, (show (parseMethodDescriptor yX3_has.desc).map (fun d => d.parameters.length) = some 1 by decide +kernel)⟩ hR rfl hcat hcs d q hq K
theorem b_369 : Cond.code yX3_add cX3_add 2 none ∈ BIG := List.mem_filter.mpr ⟨List.mem_of_getElem? (i := 369) (by decide +kernel), by decide +kernel⟩
theorem b_366 : Cond.methodLink RX1 109 yX3_add ∈ BIG := List.mem_filter.mpr ⟨List.mem_of_getElem? (i := 366) (by decide +kernel), by decide +kernel⟩
theorem b_367 : Cond.instanceMethod yX3_add ∈ BIG := List.mem_filter.mpr ⟨List.mem_of_getElem? (i := 367) (by decide +kernel), by decide +kernel⟩
theorem b_368 : Cond.selects RX3 yX3_add yX3_add ∈ BIG := List.mem_filter.mpr ⟨List.mem_of_getElem? (i := 368) (by decide +kernel), by decide +kernel⟩
theorem k_RX1_109 (C : Cx p s m args c cc nL RX1 D (tyC cI cG cR) 32 A X Acc) {k : Nat} (h0 : 6 ≤ k) (h1 : k < 16) {a0 : Value} {Q : Unit → (Nat → Nat → Int32) → Prop} {fr lo : Nat} {rest : List Value} (h : Ct l D (tyC cI cG cR) 32 A (ceC A n cI cG cR) X yX3_add cX3_add 2 none fr lo [.ref (A k), a0] S rU Q) (hR : fr + 1 ≤ R.frames ∧ 8 + (2 + 11) + lo ≤ R.locals) (hcat : (rest.map fun v => v.category).sum ≤ 8) (hcs : cells ≤ R.cells ∧ slots ≤ R.slots) (d : decode cc pc = .ok (.invokevirtual 109, 3)) (q : Nat) (hq : pc + 3 = q) (K : ∀ S1, Q () S1 → J p l e R s m args below meth c cells slots Qf D 32 A (ceC A n cI cG cR) Acc nL S1 q L rest) : J p l e R s m args below meth c cells slots Qf D 32 A (ceC A n cI cG cR) Acc nL S pc L (a0 :: .ref (A k) :: rest) := r_callV C (ci := 3) (T := TX3) (nF := 2) k rest h (by omega) (heC_3 h0 h1 (S k)) rfl b_369 b_47 b_367 b_368 b_366 ⟨by decide +kernel, by decide +kernel, (show (parseMethodDescriptor yX3_add.desc).map (fun d => d.parameters.length) = some 1 by decide +kernel)⟩ hR rfl hcat hcs d q hq (fun _ => K)
theorem b_373 : Cond.code yX0_begin cX0_begin 2 none ∈ BIG := List.mem_filter.mpr ⟨List.mem_of_getElem? (i := 373) (by decide +kernel), by decide +kernel⟩
theorem b_370 : Cond.methodLink RX1 129 yX0_begin ∈ BIG := List.mem_filter.mpr ⟨List.mem_of_getElem? (i := 370) (by decide +kernel), by decide +kernel⟩
theorem b_371 : Cond.instanceMethod yX0_begin ∈ BIG := List.mem_filter.mpr ⟨List.mem_of_getElem? (i := 371) (by decide +kernel), by decide +kernel⟩
theorem b_372 : Cond.selects RX0 yX0_begin yX0_begin ∈ BIG := List.mem_filter.mpr ⟨List.mem_of_getElem? (i := 372) (by decide +kernel), by decide +kernel⟩
theorem k_RX1_129 (C : Cx p s m args c cc nL RX1 D (tyC cI cG cR) 32 A X Acc) {k : Nat} (h0 : 3 ≤ k) (h1 : k < 6) {a0 : Value} {Q : Unit → (Nat → Nat → Int32) → Prop} {fr lo : Nat} {rest : List Value} (h : Ct l D (tyC cI cG cR) 32 A (ceC A n cI cG cR) X yX0_begin cX0_begin 2 none fr lo [.ref (A k), a0] S rU Q) (hR : fr + 1 ≤ R.frames ∧ 8 + (2 + 11) + lo ≤ R.locals) (hcat : (rest.map fun v => v.category).sum ≤ 8) (hcs : cells ≤ R.cells ∧ slots ≤ R.slots) (d : decode cc pc = .ok (.invokevirtual 129, 3)) (q : Nat) (hq : pc + 3 = q) (K : ∀ S1, Q () S1 → J p l e R s m args below meth c cells slots Qf D 32 A (ceC A n cI cG cR) Acc nL S1 q L rest) : J p l e R s m args below meth c cells slots Qf D 32 A (ceC A n cI cG cR) Acc nL S pc L (a0 :: .ref (A k) :: rest) := r_callV C (ci := 0) (T := TX0) (nF := 10) k rest h (by omega) (heC_0 h0 h1 (S k)) rfl b_373 b_48 b_371 b_372 b_370 ⟨by decide +kernel, by decide +kernel, (show (parseMethodDescriptor yX0_begin.desc).map (fun d => d.parameters.length) = some 1 by decide +kernel)⟩ hR rfl hcat hcs d q hq (fun _ => K)
theorem b_377 : Cond.code yX1_putRowsAside cX1_putRowsAside 2 none ∈ BIG := List.mem_filter.mpr ⟨List.mem_of_getElem? (i := 377) (by decide +kernel), by decide +kernel⟩
theorem b_374 : Cond.methodLink RX1 133 yX1_putRowsAside ∈ BIG := List.mem_filter.mpr ⟨List.mem_of_getElem? (i := 374) (by decide +kernel), by decide +kernel⟩
theorem b_376 : Cond.instanceMethod yX1_putRowsAside ∈ BIG := List.mem_filter.mpr ⟨List.mem_of_getElem? (i := 376) (by decide +kernel), by decide +kernel⟩
theorem b_3 : Cond.selects RX1 yX1_putRowsAside yX1_putRowsAside ∈ BIG := List.mem_filter.mpr ⟨List.mem_of_getElem? (i := 3) (by decide +kernel), by decide +kernel⟩
theorem k_RX1_133 (C : Cx p s m args c cc nL RX1 D (tyC cI cG cR) 32 A X Acc)  {Q : Unit → (Nat → Nat → Int32) → Prop} {fr lo : Nat} {rest : List Value} (h : Ct l D (tyC cI cG cR) 32 A (ceC A n cI cG cR) X yX1_putRowsAside cX1_putRowsAside 2 none fr lo [.ref (A 1)] S rU Q) (hR : fr + 1 ≤ R.frames ∧ 8 + (2 + 11) + lo ≤ R.locals) (hcat : (rest.map fun v => v.category).sum ≤ 8) (hcs : cells ≤ R.cells ∧ slots ≤ R.slots) (d : decode cc pc = .ok (.invokevirtual 133, 3)) (q : Nat) (hq : pc + 3 = q) (K : ∀ S1, Q () S1 → J p l e R s m args below meth c cells slots Qf D 32 A (ceC A n cI cG cR) Acc nL S1 q L rest) : J p l e R s m args below meth c cells slots Qf D 32 A (ceC A n cI cG cR) Acc nL S pc L (.ref (A 1) :: rest) := r_callV C (ci := 1) (T := TX1) (nF := 13) 1 rest h (Nat.le_of_ble_eq_true rfl) (heC_1 (S 1)) rfl b_377 b_45 b_376 b_3 b_374 ⟨by decide +kernel, by decide +kernel, (show (parseMethodDescriptor yX1_putRowsAside.desc).map (fun d => d.parameters.length) = some 0 by decide +kernel)⟩ hR rfl hcat hcs d q hq (fun _ => K)
theorem b_381 : Cond.code yX1_bringAll cX1_bringAll 3 none ∈ BIG := List.mem_filter.mpr ⟨List.mem_of_getElem? (i := 381) (by decide +kernel), by decide +kernel⟩
theorem b_378 : Cond.methodLink RX1 136 yX1_bringAll ∈ BIG := List.mem_filter.mpr ⟨List.mem_of_getElem? (i := 378) (by decide +kernel), by decide +kernel⟩
theorem b_380 : Cond.instanceMethod yX1_bringAll ∈ BIG := List.mem_filter.mpr ⟨List.mem_of_getElem? (i := 380) (by decide +kernel), by decide +kernel⟩
theorem b_4 : Cond.selects RX1 yX1_bringAll yX1_bringAll ∈ BIG := List.mem_filter.mpr ⟨List.mem_of_getElem? (i := 4) (by decide +kernel), by decide +kernel⟩
theorem k_RX1_136 (C : Cx p s m args c cc nL RX1 D (tyC cI cG cR) 32 A X Acc)  {a0 : Value} {Q : Unit → (Nat → Nat → Int32) → Prop} {fr lo : Nat} {rest : List Value} (h : Ct l D (tyC cI cG cR) 32 A (ceC A n cI cG cR) X yX1_bringAll cX1_bringAll 3 none fr lo [.ref (A 1), a0] S rU Q) (hR : fr + 1 ≤ R.frames ∧ 8 + (3 + 11) + lo ≤ R.locals) (hcat : (rest.map fun v => v.category).sum ≤ 8) (hcs : cells ≤ R.cells ∧ slots ≤ R.slots) (d : decode cc pc = .ok (.invokevirtual 136, 3)) (q : Nat) (hq : pc + 3 = q) (K : ∀ S1, Q () S1 → J p l e R s m args below meth c cells slots Qf D 32 A (ceC A n cI cG cR) Acc nL S1 q L rest) : J p l e R s m args below meth c cells slots Qf D 32 A (ceC A n cI cG cR) Acc nL S pc L (a0 :: .ref (A 1) :: rest) := r_callV C (ci := 1) (T := TX1) (nF := 13) 1 rest h (Nat.le_of_ble_eq_true rfl) (heC_1 (S 1)) rfl b_381 b_45 b_380 b_4 b_378 ⟨by decide +kernel, by decide +kernel, (show (parseMethodDescriptor yX1_bringAll.desc).map (fun d => d.parameters.length) = some 1 by decide +kernel)⟩ hR rfl hcat hcs d q hq (fun _ => K)
theorem b_385 : Cond.code yX1_brought cX1_brought 6 (some .int) ∈ BIG := List.mem_filter.mpr ⟨List.mem_of_getElem? (i := 385) (by decide +kernel), by decide +kernel⟩
theorem b_382 : Cond.methodLink RX1 156 yX1_brought ∈ BIG := List.mem_filter.mpr ⟨List.mem_of_getElem? (i := 382) (by decide +kernel), by decide +kernel⟩
theorem b_384 : Cond.instanceMethod yX1_brought ∈ BIG := List.mem_filter.mpr ⟨List.mem_of_getElem? (i := 384) (by decide +kernel), by decide +kernel⟩
theorem b_5 : Cond.selects RX1 yX1_brought yX1_brought ∈ BIG := List.mem_filter.mpr ⟨List.mem_of_getElem? (i := 5) (by decide +kernel), by decide +kernel⟩
theorem k_RX1_156 (C : Cx p s m args c cc nL RX1 D (tyC cI cG cR) 32 A X Acc)  {a0 : Value} {Q : Int32 → (Nat → Nat → Int32) → Prop} {fr lo : Nat} {rest : List Value} (h : Ct l D (tyC cI cG cR) 32 A (ceC A n cI cG cR) X yX1_brought cX1_brought 6 (some .int) fr lo [.ref (A 1), a0] S rI Q) (hR : fr + 1 ≤ R.frames ∧ 8 + (6 + 11) + lo ≤ R.locals) (hcat : (rest.map fun v => v.category).sum ≤ 8) (hcs : cells ≤ R.cells ∧ slots ≤ R.slots) (d : decode cc pc = .ok (.invokevirtual 156, 3)) (q : Nat) (hq : pc + 3 = q) (K : ∀ (r : Int32) S1, Q r S1 → J p l e R s m args below meth c cells slots Qf D 32 A (ceC A n cI cG cR) Acc nL S1 q L (.int r :: rest)) : J p l e R s m args below meth c cells slots Qf D 32 A (ceC A n cI cG cR) Acc nL S pc L (a0 :: .ref (A 1) :: rest) := r_callV C (ci := 1) (T := TX1) (nF := 13) 1 rest h (Nat.le_of_ble_eq_true rfl) (heC_1 (S 1)) rfl b_385 b_45 b_384 b_5 b_382 ⟨by decide +kernel, by decide +kernel, (show (parseMethodDescriptor yX1_brought.desc).map (fun d => d.parameters.length) = some 1 by decide +kernel)⟩ hR rfl hcat hcs d q hq K
theorem b_389 : Cond.code yX0_isInFrom cX0_isInFrom 2 (some .boolean) ∈ BIG := List.mem_filter.mpr ⟨List.mem_of_getElem? (i := 389) (by decide +kernel), by decide +kernel⟩
theorem b_386 : Cond.methodLink RX1 159 yX0_isInFrom ∈ BIG := List.mem_filter.mpr ⟨List.mem_of_getElem? (i := 386) (by decide +kernel), by decide +kernel⟩
theorem b_387 : Cond.instanceMethod yX0_isInFrom ∈ BIG := List.mem_filter.mpr ⟨List.mem_of_getElem? (i := 387) (by decide +kernel), by decide +kernel⟩
theorem b_388 : Cond.selects RX0 yX0_isInFrom yX0_isInFrom ∈ BIG := List.mem_filter.mpr ⟨List.mem_of_getElem? (i := 388) (by decide +kernel), by decide +kernel⟩
theorem k_RX1_159 (C : Cx p s m args c cc nL RX1 D (tyC cI cG cR) 32 A X Acc) {k : Nat} (h0 : 3 ≤ k) (h1 : k < 6) {a0 : Value} {Q : Bool → (Nat → Nat → Int32) → Prop} {fr lo : Nat} {rest : List Value} (h : Ct l D (tyC cI cG cR) 32 A (ceC A n cI cG cR) X yX0_isInFrom cX0_isInFrom 2 (some .boolean) fr lo [.ref (A k), a0] S rZ Q) (hR : fr + 1 ≤ R.frames ∧ 8 + (2 + 11) + lo ≤ R.locals) (hcat : (rest.map fun v => v.category).sum ≤ 8) (hcs : cells ≤ R.cells ∧ slots ≤ R.slots) (d : decode cc pc = .ok (.invokevirtual 159, 3)) (q : Nat) (hq : pc + 3 = q) (K : ∀ (r : Bool) S1, Q r S1 → J p l e R s m args below meth c cells slots Qf D 32 A (ceC A n cI cG cR) Acc nL S1 q L (.int (bI r) :: rest)) : J p l e R s m args below meth c cells slots Qf D 32 A (ceC A n cI cG cR) Acc nL S pc L (a0 :: .ref (A k) :: rest) := r_callV C (ci := 0) (T := TX0) (nF := 10) k rest h (by omega) (heC_0 h0 h1 (S k)) rfl b_389 b_48 b_387 b_388 b_386 ⟨by decide +kernel, by decide +kernel, (show (parseMethodDescriptor yX0_isInFrom.desc).map (fun d => d.parameters.length) = some 1 by decide +kernel)⟩ hR rfl hcat hcs d q hq K
theorem b_393 : Cond.code yX1_fieldsOf cX1_fieldsOf 2 (some .int) ∈ BIG := List.mem_filter.mpr ⟨List.mem_of_getElem? (i := 393) (by decide +kernel), by decide +kernel⟩
theorem b_390 : Cond.methodLink RX1 59 yX1_fieldsOf ∈ BIG := List.mem_filter.mpr ⟨List.mem_of_getElem? (i := 390) (by decide +kernel), by decide +kernel⟩
theorem b_391 : Cond.instanceMethod yX1_fieldsOf ∈ BIG := List.mem_filter.mpr ⟨List.mem_of_getElem? (i := 391) (by decide +kernel), by decide +kernel⟩
theorem b_392 : Cond.selects RX1 yX1_fieldsOf yX1_fieldsOf ∈ BIG := List.mem_filter.mpr ⟨List.mem_of_getElem? (i := 392) (by decide +kernel), by decide +kernel⟩
theorem k_RX1_59 (C : Cx p s m args c cc nL RX1 D (tyC cI cG cR) 32 A X Acc)  {a0 : Value} {Q : Int32 → (Nat → Nat → Int32) → Prop} {fr lo : Nat} {rest : List Value} (h : Ct l D (tyC cI cG cR) 32 A (ceC A n cI cG cR) X yX1_fieldsOf cX1_fieldsOf 2 (some .int) fr lo [.ref (A 1), a0] S rI Q) (hR : fr + 1 ≤ R.frames ∧ 8 + (2 + 11) + lo ≤ R.locals) (hcat : (rest.map fun v => v.category).sum ≤ 8) (hcs : cells ≤ R.cells ∧ slots ≤ R.slots) (d : decode cc pc = .ok (.invokevirtual 59, 3)) (q : Nat) (hq : pc + 3 = q) (K : ∀ (r : Int32) S1, Q r S1 → J p l e R s m args below meth c cells slots Qf D 32 A (ceC A n cI cG cR) Acc nL S1 q L (.int r :: rest)) : J p l e R s m args below meth c cells slots Qf D 32 A (ceC A n cI cG cR) Acc nL S pc L (a0 :: .ref (A 1) :: rest) := r_callV C (ci := 1) (T := TX1) (nF := 13) 1 rest h (Nat.le_of_ble_eq_true rfl) (heC_1 (S 1)) rfl b_393 b_45 b_391 b_392 b_390 ⟨by decide +kernel, by decide +kernel, (show (parseMethodDescriptor yX1_fieldsOf.desc).map (fun d => d.parameters.length) = some 1 by decide +kernel)⟩ hR rfl hcat hcs d q hq K
theorem b_397 : Cond.code yX1_ageOf cX1_ageOf 2 (some .int) ∈ BIG := List.mem_filter.mpr ⟨List.mem_of_getElem? (i := 397) (by decide +kernel), by decide +kernel⟩
theorem b_394 : Cond.methodLink RX1 162 yX1_ageOf ∈ BIG := List.mem_filter.mpr ⟨List.mem_of_getElem? (i := 394) (by decide +kernel), by decide +kernel⟩
theorem b_395 : Cond.instanceMethod yX1_ageOf ∈ BIG := List.mem_filter.mpr ⟨List.mem_of_getElem? (i := 395) (by decide +kernel), by decide +kernel⟩
theorem b_396 : Cond.selects RX1 yX1_ageOf yX1_ageOf ∈ BIG := List.mem_filter.mpr ⟨List.mem_of_getElem? (i := 396) (by decide +kernel), by decide +kernel⟩
theorem k_RX1_162 (C : Cx p s m args c cc nL RX1 D (tyC cI cG cR) 32 A X Acc)  {a0 : Value} {Q : Int32 → (Nat → Nat → Int32) → Prop} {fr lo : Nat} {rest : List Value} (h : Ct l D (tyC cI cG cR) 32 A (ceC A n cI cG cR) X yX1_ageOf cX1_ageOf 2 (some .int) fr lo [.ref (A 1), a0] S rI Q) (hR : fr + 1 ≤ R.frames ∧ 8 + (2 + 11) + lo ≤ R.locals) (hcat : (rest.map fun v => v.category).sum ≤ 8) (hcs : cells ≤ R.cells ∧ slots ≤ R.slots) (d : decode cc pc = .ok (.invokevirtual 162, 3)) (q : Nat) (hq : pc + 3 = q) (K : ∀ (r : Int32) S1, Q r S1 → J p l e R s m args below meth c cells slots Qf D 32 A (ceC A n cI cG cR) Acc nL S1 q L (.int r :: rest)) : J p l e R s m args below meth c cells slots Qf D 32 A (ceC A n cI cG cR) Acc nL S pc L (a0 :: .ref (A 1) :: rest) := r_callV C (ci := 1) (T := TX1) (nF := 13) 1 rest h (Nat.le_of_ble_eq_true rfl) (heC_1 (S 1)) rfl b_397 b_45 b_395 b_396 b_394 ⟨by decide +kernel, by decide +kernel, (show (parseMethodDescriptor yX1_ageOf.desc).map (fun d => d.parameters.length) = some 1 by decide +kernel)⟩ hR rfl hcat hcs d q hq K
theorem b_402 : Cond.code yX0_take cX0_take 3 (some .int) ∈ BIG := List.mem_filter.mpr ⟨List.mem_of_getElem? (i := 402) (by decide +kernel), by decide +kernel⟩
theorem b_399 : Cond.methodLink RX1 106 yX0_take ∈ BIG := List.mem_filter.mpr ⟨List.mem_of_getElem? (i := 399) (by decide +kernel), by decide +kernel⟩
theorem b_400 : Cond.instanceMethod yX0_take ∈ BIG := List.mem_filter.mpr ⟨List.mem_of_getElem? (i := 400) (by decide +kernel), by decide +kernel⟩
theorem b_401 : Cond.selects RX0 yX0_take yX0_take ∈ BIG := List.mem_filter.mpr ⟨List.mem_of_getElem? (i := 401) (by decide +kernel), by decide +kernel⟩
theorem k_RX1_106 (C : Cx p s m args c cc nL RX1 D (tyC cI cG cR) 32 A X Acc) {k : Nat} (h0 : 3 ≤ k) (h1 : k < 6) {a0 : Value} {Q : Int32 → (Nat → Nat → Int32) → Prop} {fr lo : Nat} {rest : List Value} (h : Ct l D (tyC cI cG cR) 32 A (ceC A n cI cG cR) X yX0_take cX0_take 3 (some .int) fr lo [.ref (A k), a0] S rI Q) (hR : fr + 1 ≤ R.frames ∧ 8 + (3 + 11) + lo ≤ R.locals) (hcat : (rest.map fun v => v.category).sum ≤ 8) (hcs : cells ≤ R.cells ∧ slots ≤ R.slots) (d : decode cc pc = .ok (.invokevirtual 106, 3)) (q : Nat) (hq : pc + 3 = q) (K : ∀ (r : Int32) S1, Q r S1 → J p l e R s m args below meth c cells slots Qf D 32 A (ceC A n cI cG cR) Acc nL S1 q L (.int r :: rest)) : J p l e R s m args below meth c cells slots Qf D 32 A (ceC A n cI cG cR) Acc nL S pc L (a0 :: .ref (A k) :: rest) := r_callV C (ci := 0) (T := TX0) (nF := 10) k rest h (by omega) (heC_0 h0 h1 (S k)) rfl b_402 b_48 b_400 b_401 b_399 ⟨by decide +kernel, by decide +kernel, (show (parseMethodDescriptor yX0_take.desc).map (fun d => d.parameters.length) = some 1 by decide +kernel)⟩ hR rfl hcat hcs d q hq K
theorem b_409 : Cond.code yX1_bringRemembered cX1_bringRemembered 5 none ∈ BIG := List.mem_filter.mpr ⟨List.mem_of_getElem? (i := 409) (by decide +kernel), by decide +kernel⟩
theorem b_406 : Cond.methodLink RX1 140 yX1_bringRemembered ∈ BIG := List.mem_filter.mpr ⟨List.mem_of_getElem? (i := 406) (by decide +kernel), by decide +kernel⟩
theorem b_408 : Cond.instanceMethod yX1_bringRemembered ∈ BIG := List.mem_filter.mpr ⟨List.mem_of_getElem? (i := 408) (by decide +kernel), by decide +kernel⟩
theorem b_6 : Cond.selects RX1 yX1_bringRemembered yX1_bringRemembered ∈ BIG := List.mem_filter.mpr ⟨List.mem_of_getElem? (i := 6) (by decide +kernel), by decide +kernel⟩
theorem k_RX1_140 (C : Cx p s m args c cc nL RX1 D (tyC cI cG cR) 32 A X Acc)  {a0 a1 : Value} {Q : Unit → (Nat → Nat → Int32) → Prop} {fr lo : Nat} {rest : List Value} (h : Ct l D (tyC cI cG cR) 32 A (ceC A n cI cG cR) X yX1_bringRemembered cX1_bringRemembered 5 none fr lo [.ref (A 1), a0, a1] S rU Q) (hR : fr + 1 ≤ R.frames ∧ 8 + (5 + 11) + lo ≤ R.locals) (hcat : (rest.map fun v => v.category).sum ≤ 8) (hcs : cells ≤ R.cells ∧ slots ≤ R.slots) (d : decode cc pc = .ok (.invokevirtual 140, 3)) (q : Nat) (hq : pc + 3 = q) (K : ∀ S1, Q () S1 → J p l e R s m args below meth c cells slots Qf D 32 A (ceC A n cI cG cR) Acc nL S1 q L rest) : J p l e R s m args below meth c cells slots Qf D 32 A (ceC A n cI cG cR) Acc nL S pc L (a1 :: a0 :: .ref (A 1) :: rest) := r_callV C (ci := 1) (T := TX1) (nF := 13) 1 rest h (Nat.le_of_ble_eq_true rfl) (heC_1 (S 1)) rfl b_409 b_45 b_408 b_6 b_406 ⟨by decide +kernel, by decide +kernel, (show (parseMethodDescriptor yX1_bringRemembered.desc).map (fun d => d.parameters.length) = some 2 by decide +kernel)⟩ hR rfl hcat hcs d q hq (fun _ => K)
theorem b_413 : Cond.code yX1_scan cX1_scan 6 none ∈ BIG := List.mem_filter.mpr ⟨List.mem_of_getElem? (i := 413) (by decide +kernel), by decide +kernel⟩
theorem b_410 : Cond.methodLink RX1 144 yX1_scan ∈ BIG := List.mem_filter.mpr ⟨List.mem_of_getElem? (i := 410) (by decide +kernel), by decide +kernel⟩
theorem b_412 : Cond.instanceMethod yX1_scan ∈ BIG := List.mem_filter.mpr ⟨List.mem_of_getElem? (i := 412) (by decide +kernel), by decide +kernel⟩
theorem b_7 : Cond.selects RX1 yX1_scan yX1_scan ∈ BIG := List.mem_filter.mpr ⟨List.mem_of_getElem? (i := 7) (by decide +kernel), by decide +kernel⟩
theorem k_RX1_144 (C : Cx p s m args c cc nL RX1 D (tyC cI cG cR) 32 A X Acc)  {Q : Unit → (Nat → Nat → Int32) → Prop} {fr lo : Nat} {rest : List Value} (h : Ct l D (tyC cI cG cR) 32 A (ceC A n cI cG cR) X yX1_scan cX1_scan 6 none fr lo [.ref (A 1)] S rU Q) (hR : fr + 1 ≤ R.frames ∧ 8 + (6 + 11) + lo ≤ R.locals) (hcat : (rest.map fun v => v.category).sum ≤ 8) (hcs : cells ≤ R.cells ∧ slots ≤ R.slots) (d : decode cc pc = .ok (.invokevirtual 144, 3)) (q : Nat) (hq : pc + 3 = q) (K : ∀ S1, Q () S1 → J p l e R s m args below meth c cells slots Qf D 32 A (ceC A n cI cG cR) Acc nL S1 q L rest) : J p l e R s m args below meth c cells slots Qf D 32 A (ceC A n cI cG cR) Acc nL S pc L (.ref (A 1) :: rest) := r_callV C (ci := 1) (T := TX1) (nF := 13) 1 rest h (Nat.le_of_ble_eq_true rfl) (heC_1 (S 1)) rfl b_413 b_45 b_412 b_7 b_410 ⟨by decide +kernel, by decide +kernel, (show (parseMethodDescriptor yX1_scan.desc).map (fun d => d.parameters.length) = some 0 by decide +kernel)⟩ hR rfl hcat hcs d q hq (fun _ => K)
theorem b_417 : Cond.code yX1_leastUnscanned cX1_leastUnscanned 2 (some (.object "StoreNotes$Generation")) ∈ BIG := List.mem_filter.mpr ⟨List.mem_of_getElem? (i := 417) (by decide +kernel), by decide +kernel⟩
theorem b_414 : Cond.methodLink RX1 183 yX1_leastUnscanned ∈ BIG := List.mem_filter.mpr ⟨List.mem_of_getElem? (i := 414) (by decide +kernel), by decide +kernel⟩
theorem b_416 : Cond.instanceMethod yX1_leastUnscanned ∈ BIG := List.mem_filter.mpr ⟨List.mem_of_getElem? (i := 416) (by decide +kernel), by decide +kernel⟩
theorem b_8 : Cond.selects RX1 yX1_leastUnscanned yX1_leastUnscanned ∈ BIG := List.mem_filter.mpr ⟨List.mem_of_getElem? (i := 8) (by decide +kernel), by decide +kernel⟩
theorem k_RX1_183 (C : Cx p s m args c cc nL RX1 D (tyC cI cG cR) 32 A X Acc)  {Q : Option Nat → (Nat → Nat → Int32) → Prop} {fr lo : Nat} {rest : List Value} (h : Ct l D (tyC cI cG cR) 32 A (ceC A n cI cG cR) X yX1_leastUnscanned cX1_leastUnscanned 2 (some (.object "StoreNotes$Generation")) fr lo [.ref (A 1)] S (rO A 3) Q) (hR : fr + 1 ≤ R.frames ∧ 8 + (2 + 11) + lo ≤ R.locals) (hcat : (rest.map fun v => v.category).sum ≤ 8) (hcs : cells ≤ R.cells ∧ slots ≤ R.slots) (d : decode cc pc = .ok (.invokevirtual 183, 3)) (q : Nat) (hq : pc + 3 = q) (K : ∀ (o : Option Nat) S1, Q o S1 → J p l e R s m args below meth c cells slots Qf D 32 A (ceC A n cI cG cR) Acc nL S1 q L (rO' A 3 o :: rest)) : J p l e R s m args below meth c cells slots Qf D 32 A (ceC A n cI cG cR) Acc nL S pc L (.ref (A 1) :: rest) := r_callV C (ci := 1) (T := TX1) (nF := 13) 1 rest h (Nat.le_of_ble_eq_true rfl) (heC_1 (S 1)) rfl b_417 b_45 b_416 b_8 b_414 ⟨by decide +kernel, by decide +kernel, (show (parseMethodDescriptor yX1_leastUnscanned.desc).map (fun d => d.parameters.length) = some 0 by decide +kernel)⟩ hR rfl hcat hcs d q hq K
theorem b_421 : Cond.code yX1_grantWishes cX1_grantWishes 6 none ∈ BIG := List.mem_filter.mpr ⟨List.mem_of_getElem? (i := 421) (by decide +kernel), by decide +kernel⟩
theorem b_418 : Cond.methodLink RX1 147 yX1_grantWishes ∈ BIG := List.mem_filter.mpr ⟨List.mem_of_getElem? (i := 418) (by decide +kernel), by decide +kernel⟩
theorem b_420 : Cond.instanceMethod yX1_grantWishes ∈ BIG := List.mem_filter.mpr ⟨List.mem_of_getElem? (i := 420) (by decide +kernel), by decide +kernel⟩
theorem b_9 : Cond.selects RX1 yX1_grantWishes yX1_grantWishes ∈ BIG := List.mem_filter.mpr ⟨List.mem_of_getElem? (i := 9) (by decide +kernel), by decide +kernel⟩
theorem k_RX1_147 (C : Cx p s m args c cc nL RX1 D (tyC cI cG cR) 32 A X Acc)  {Q : Unit → (Nat → Nat → Int32) → Prop} {fr lo : Nat} {rest : List Value} (h : Ct l D (tyC cI cG cR) 32 A (ceC A n cI cG cR) X yX1_grantWishes cX1_grantWishes 6 none fr lo [.ref (A 1)] S rU Q) (hR : fr + 1 ≤ R.frames ∧ 8 + (6 + 11) + lo ≤ R.locals) (hcat : (rest.map fun v => v.category).sum ≤ 8) (hcs : cells ≤ R.cells ∧ slots ≤ R.slots) (d : decode cc pc = .ok (.invokevirtual 147, 3)) (q : Nat) (hq : pc + 3 = q) (K : ∀ S1, Q () S1 → J p l e R s m args below meth c cells slots Qf D 32 A (ceC A n cI cG cR) Acc nL S1 q L rest) : J p l e R s m args below meth c cells slots Qf D 32 A (ceC A n cI cG cR) Acc nL S pc L (.ref (A 1) :: rest) := r_callV C (ci := 1) (T := TX1) (nF := 13) 1 rest h (Nat.le_of_ble_eq_true rfl) (heC_1 (S 1)) rfl b_421 b_45 b_420 b_9 b_418 ⟨by decide +kernel, by decide +kernel, (show (parseMethodDescriptor yX1_grantWishes.desc).map (fun d => d.parameters.length) = some 0 by decide +kernel)⟩ hR rfl hcat hcs d q hq (fun _ => K)
theorem b_425 : Cond.code yX1_clearWeakPlaces cX1_clearWeakPlaces 3 none ∈ BIG := List.mem_filter.mpr ⟨List.mem_of_getElem? (i := 425) (by decide +kernel), by decide +kernel⟩
theorem b_422 : Cond.methodLink RX1 150 yX1_clearWeakPlaces ∈ BIG := List.mem_filter.mpr ⟨List.mem_of_getElem? (i := 422) (by decide +kernel), by decide +kernel⟩
theorem b_424 : Cond.instanceMethod yX1_clearWeakPlaces ∈ BIG := List.mem_filter.mpr ⟨List.mem_of_getElem? (i := 424) (by decide +kernel), by decide +kernel⟩
theorem b_10 : Cond.selects RX1 yX1_clearWeakPlaces yX1_clearWeakPlaces ∈ BIG := List.mem_filter.mpr ⟨List.mem_of_getElem? (i := 10) (by decide +kernel), by decide +kernel⟩
theorem k_RX1_150 (C : Cx p s m args c cc nL RX1 D (tyC cI cG cR) 32 A X Acc)  {Q : Unit → (Nat → Nat → Int32) → Prop} {fr lo : Nat} {rest : List Value} (h : Ct l D (tyC cI cG cR) 32 A (ceC A n cI cG cR) X yX1_clearWeakPlaces cX1_clearWeakPlaces 3 none fr lo [.ref (A 1)] S rU Q) (hR : fr + 1 ≤ R.frames ∧ 8 + (3 + 11) + lo ≤ R.locals) (hcat : (rest.map fun v => v.category).sum ≤ 8) (hcs : cells ≤ R.cells ∧ slots ≤ R.slots) (d : decode cc pc = .ok (.invokevirtual 150, 3)) (q : Nat) (hq : pc + 3 = q) (K : ∀ S1, Q () S1 → J p l e R s m args below meth c cells slots Qf D 32 A (ceC A n cI cG cR) Acc nL S1 q L rest) : J p l e R s m args below meth c cells slots Qf D 32 A (ceC A n cI cG cR) Acc nL S pc L (.ref (A 1) :: rest) := r_callV C (ci := 1) (T := TX1) (nF := 13) 1 rest h (Nat.le_of_ble_eq_true rfl) (heC_1 (S 1)) rfl b_425 b_45 b_424 b_10 b_422 ⟨by decide +kernel, by decide +kernel, (show (parseMethodDescriptor yX1_clearWeakPlaces.desc).map (fun d => d.parameters.length) = some 0 by decide +kernel)⟩ hR rfl hcat hcs d q hq (fun _ => K)
theorem b_429 : Cond.code yX0_end cX0_end 1 none ∈ BIG := List.mem_filter.mpr ⟨List.mem_of_getElem? (i := 429) (by decide +kernel), by decide +kernel⟩
theorem b_426 : Cond.methodLink RX1 153 yX0_end ∈ BIG := List.mem_filter.mpr ⟨List.mem_of_getElem? (i := 426) (by decide +kernel), by decide +kernel⟩
theorem b_427 : Cond.instanceMethod yX0_end ∈ BIG := List.mem_filter.mpr ⟨List.mem_of_getElem? (i := 427) (by decide +kernel), by decide +kernel⟩
theorem b_428 : Cond.selects RX0 yX0_end yX0_end ∈ BIG := List.mem_filter.mpr ⟨List.mem_of_getElem? (i := 428) (by decide +kernel), by decide +kernel⟩
theorem k_RX1_153 (C : Cx p s m args c cc nL RX1 D (tyC cI cG cR) 32 A X Acc) {k : Nat} (h0 : 3 ≤ k) (h1 : k < 6) {Q : Unit → (Nat → Nat → Int32) → Prop} {fr lo : Nat} {rest : List Value} (h : Ct l D (tyC cI cG cR) 32 A (ceC A n cI cG cR) X yX0_end cX0_end 1 none fr lo [.ref (A k)] S rU Q) (hR : fr + 1 ≤ R.frames ∧ 8 + (1 + 11) + lo ≤ R.locals) (hcat : (rest.map fun v => v.category).sum ≤ 8) (hcs : cells ≤ R.cells ∧ slots ≤ R.slots) (d : decode cc pc = .ok (.invokevirtual 153, 3)) (q : Nat) (hq : pc + 3 = q) (K : ∀ S1, Q () S1 → J p l e R s m args below meth c cells slots Qf D 32 A (ceC A n cI cG cR) Acc nL S1 q L rest) : J p l e R s m args below meth c cells slots Qf D 32 A (ceC A n cI cG cR) Acc nL S pc L (.ref (A k) :: rest) := r_callV C (ci := 0) (T := TX0) (nF := 10) k rest h (by omega) (heC_0 h0 h1 (S k)) rfl b_429 b_48 b_427 b_428 b_426 ⟨by decide +kernel, by decide +kernel, (show (parseMethodDescriptor yX0_end.desc).map (fun d => d.parameters.length) = some 0 by decide +kernel)⟩ hR rfl hcat hcs d q hq (fun _ => K)
theorem b_440 : Cond.code yX1_store cX1_store 5 none ∈ BIG := List.mem_filter.mpr ⟨List.mem_of_getElem? (i := 440) (by decide +kernel), by decide +kernel⟩
theorem b_437 : Cond.methodLink RX4 52 yX1_store ∈ BIG := List.mem_filter.mpr ⟨List.mem_of_getElem? (i := 437) (by decide +kernel), by decide +kernel⟩
theorem b_438 : Cond.instanceMethod yX1_store ∈ BIG := List.mem_filter.mpr ⟨List.mem_of_getElem? (i := 438) (by decide +kernel), by decide +kernel⟩
theorem b_439 : Cond.selects RX1 yX1_store yX1_store ∈ BIG := List.mem_filter.mpr ⟨List.mem_of_getElem? (i := 439) (by decide +kernel), by decide +kernel⟩
theorem k_RX4_52 (C : Cx p s m args c cc nL RX4 D (tyC cI cG cR) 32 A X Acc)  {a0 a1 a2 : Value} {Q : Unit → (Nat → Nat → Int32) → Prop} {fr lo : Nat} {rest : List Value} (h : Ct l D (tyC cI cG cR) 32 A (ceC A n cI cG cR) X yX1_store cX1_store 5 none fr lo [.ref (A 1), a0, a1, a2] S rU Q) (hR : fr + 1 ≤ R.frames ∧ 8 + (5 + 11) + lo ≤ R.locals) (hcat : (rest.map fun v => v.category).sum ≤ 8) (hcs : cells ≤ R.cells ∧ slots ≤ R.slots) (d : decode cc pc = .ok (.invokevirtual 52, 3)) (q : Nat) (hq : pc + 3 = q) (K : ∀ S1, Q () S1 → J p l e R s m args below meth c cells slots Qf D 32 A (ceC A n cI cG cR) Acc nL S1 q L rest) : J p l e R s m args below meth c cells slots Qf D 32 A (ceC A n cI cG cR) Acc nL S pc L (a2 :: a1 :: a0 :: .ref (A 1) :: rest) := r_callV C (ci := 1) (T := TX1) (nF := 13) 1 rest h (Nat.le_of_ble_eq_true rfl) (heC_1 (S 1)) rfl b_440 b_45 b_438 b_439 b_437 ⟨by decide +kernel, by decide +kernel, (show (parseMethodDescriptor yX1_store.desc).map (fun d => d.parameters.length) = some 3 by decide +kernel)⟩ hR rfl hcat hcs d q hq (fun _ => K)
theorem b_444 : Cond.code yX3_isFull cX3_isFull 1 (some .boolean) ∈ BIG := List.mem_filter.mpr ⟨List.mem_of_getElem? (i := 444) (by decide +kernel), by decide +kernel⟩
theorem b_441 : Cond.methodLink RX1 113 yX3_isFull ∈ BIG := List.mem_filter.mpr ⟨List.mem_of_getElem? (i := 441) (by decide +kernel), by decide +kernel⟩
theorem b_442 : Cond.instanceMethod yX3_isFull ∈ BIG := List.mem_filter.mpr ⟨List.mem_of_getElem? (i := 442) (by decide +kernel), by decide +kernel⟩
theorem b_443 : Cond.selects RX3 yX3_isFull yX3_isFull ∈ BIG := List.mem_filter.mpr ⟨List.mem_of_getElem? (i := 443) (by decide +kernel), by decide +kernel⟩
theorem k_RX1_113 (C : Cx p s m args c cc nL RX1 D (tyC cI cG cR) 32 A X Acc) {k : Nat} (h0 : 6 ≤ k) (h1 : k < 16) {Q : Bool → (Nat → Nat → Int32) → Prop} {fr lo : Nat} {rest : List Value} (h : Ct l D (tyC cI cG cR) 32 A (ceC A n cI cG cR) X yX3_isFull cX3_isFull 1 (some .boolean) fr lo [.ref (A k)] S rZ Q) (hR : fr + 1 ≤ R.frames ∧ 8 + (1 + 11) + lo ≤ R.locals) (hcat : (rest.map fun v => v.category).sum ≤ 8) (hcs : cells ≤ R.cells ∧ slots ≤ R.slots) (d : decode cc pc = .ok (.invokevirtual 113, 3)) (q : Nat) (hq : pc + 3 = q) (K : ∀ (r : Bool) S1, Q r S1 → J p l e R s m args below meth c cells slots Qf D 32 A (ceC A n cI cG cR) Acc nL S1 q L (.int (bI r) :: rest)) : J p l e R s m args below meth c cells slots Qf D 32 A (ceC A n cI cG cR) Acc nL S pc L (.ref (A k) :: rest) := r_callV C (ci := 3) (T := TX3) (nF := 2) k rest h (by omega) (heC_3 h0 h1 (S k)) rfl b_444 b_47 b_442 b_443 b_441 ⟨by decide +kernel, by decide +kernel, (show (parseMethodDescriptor yX3_isFull.desc).map (fun d => d.parameters.length) = some 0 by decide +kernel)⟩ hR rfl hcat hcs d q hq K
theorem b_482 : Cond.code yX1_hasField cX1_hasField 3 (some .boolean) ∈ BIG := List.mem_filter.mpr ⟨List.mem_of_getElem? (i := 482) (by decide +kernel), by decide +kernel⟩
theorem b_479 : Cond.methodLink RX4 181 yX1_hasField ∈ BIG := List.mem_filter.mpr ⟨List.mem_of_getElem? (i := 479) (by decide +kernel), by decide +kernel⟩
theorem b_480 : Cond.instanceMethod yX1_hasField ∈ BIG := List.mem_filter.mpr ⟨List.mem_of_getElem? (i := 480) (by decide +kernel), by decide +kernel⟩
theorem b_481 : Cond.selects RX1 yX1_hasField yX1_hasField ∈ BIG := List.mem_filter.mpr ⟨List.mem_of_getElem? (i := 481) (by decide +kernel), by decide +kernel⟩
theorem k_RX4_181 (C : Cx p s m args c cc nL RX4 D (tyC cI cG cR) 32 A X Acc)  {a0 a1 : Value} {Q : Bool → (Nat → Nat → Int32) → Prop} {fr lo : Nat} {rest : List Value} (h : Ct l D (tyC cI cG cR) 32 A (ceC A n cI cG cR) X yX1_hasField cX1_hasField 3 (some .boolean) fr lo [.ref (A 1), a0, a1] S rZ Q) (hR : fr + 1 ≤ R.frames ∧ 8 + (3 + 11) + lo ≤ R.locals) (hcat : (rest.map fun v => v.category).sum ≤ 8) (hcs : cells ≤ R.cells ∧ slots ≤ R.slots) (d : decode cc pc = .ok (.invokevirtual 181, 3)) (q : Nat) (hq : pc + 3 = q) (K : ∀ (r : Bool) S1, Q r S1 → J p l e R s m args below meth c cells slots Qf D 32 A (ceC A n cI cG cR) Acc nL S1 q L (.int (bI r) :: rest)) : J p l e R s m args below meth c cells slots Qf D 32 A (ceC A n cI cG cR) Acc nL S pc L (a1 :: a0 :: .ref (A 1) :: rest) := r_callV C (ci := 1) (T := TX1) (nF := 13) 1 rest h (Nat.le_of_ble_eq_true rfl) (heC_1 (S 1)) rfl b_482 b_45 b_480 b_481 b_479 ⟨by decide +kernel, by decide +kernel, (show (parseMethodDescriptor yX1_hasField.desc).map (fun d => d.parameters.length) = some 2 by decide +kernel)⟩ hR rfl hcat hcs d q hq K
theorem b_486 : Cond.code yX1_fieldOf cX1_fieldOf 3 (some .int) ∈ BIG := List.mem_filter.mpr ⟨List.mem_of_getElem? (i := 486) (by decide +kernel), by decide +kernel⟩
theorem b_483 : Cond.methodLink RX4 67 yX1_fieldOf ∈ BIG := List.mem_filter.mpr ⟨List.mem_of_getElem? (i := 483) (by decide +kernel), by decide +kernel⟩
theorem b_484 : Cond.instanceMethod yX1_fieldOf ∈ BIG := List.mem_filter.mpr ⟨List.mem_of_getElem? (i := 484) (by decide +kernel), by decide +kernel⟩
theorem b_485 : Cond.selects RX1 yX1_fieldOf yX1_fieldOf ∈ BIG := List.mem_filter.mpr ⟨List.mem_of_getElem? (i := 485) (by decide +kernel), by decide +kernel⟩
theorem k_RX4_67 (C : Cx p s m args c cc nL RX4 D (tyC cI cG cR) 32 A X Acc)  {a0 a1 : Value} {Q : Int32 → (Nat → Nat → Int32) → Prop} {fr lo : Nat} {rest : List Value} (h : Ct l D (tyC cI cG cR) 32 A (ceC A n cI cG cR) X yX1_fieldOf cX1_fieldOf 3 (some .int) fr lo [.ref (A 1), a0, a1] S rI Q) (hR : fr + 1 ≤ R.frames ∧ 8 + (3 + 11) + lo ≤ R.locals) (hcat : (rest.map fun v => v.category).sum ≤ 8) (hcs : cells ≤ R.cells ∧ slots ≤ R.slots) (d : decode cc pc = .ok (.invokevirtual 67, 3)) (q : Nat) (hq : pc + 3 = q) (K : ∀ (r : Int32) S1, Q r S1 → J p l e R s m args below meth c cells slots Qf D 32 A (ceC A n cI cG cR) Acc nL S1 q L (.int r :: rest)) : J p l e R s m args below meth c cells slots Qf D 32 A (ceC A n cI cG cR) Acc nL S pc L (a1 :: a0 :: .ref (A 1) :: rest) := r_callV C (ci := 1) (T := TX1) (nF := 13) 1 rest h (Nat.le_of_ble_eq_true rfl) (heC_1 (S 1)) rfl b_486 b_45 b_484 b_485 b_483 ⟨by decide +kernel, by decide +kernel, (show (parseMethodDescriptor yX1_fieldOf.desc).map (fun d => d.parameters.length) = some 2 by decide +kernel)⟩ hR rfl hcat hcs d q hq K
theorem b_490 : Cond.code yX1_rootOrNull cX1_rootOrNull 2 (some .int) ∈ BIG := List.mem_filter.mpr ⟨List.mem_of_getElem? (i := 490) (by decide +kernel), by decide +kernel⟩
theorem b_487 : Cond.methodLink RX4 71 yX1_rootOrNull ∈ BIG := List.mem_filter.mpr ⟨List.mem_of_getElem? (i := 487) (by decide +kernel), by decide +kernel⟩
theorem b_488 : Cond.instanceMethod yX1_rootOrNull ∈ BIG := List.mem_filter.mpr ⟨List.mem_of_getElem? (i := 488) (by decide +kernel), by decide +kernel⟩
theorem b_489 : Cond.selects RX1 yX1_rootOrNull yX1_rootOrNull ∈ BIG := List.mem_filter.mpr ⟨List.mem_of_getElem? (i := 489) (by decide +kernel), by decide +kernel⟩
theorem k_RX4_71 (C : Cx p s m args c cc nL RX4 D (tyC cI cG cR) 32 A X Acc)  {a0 : Value} {Q : Int32 → (Nat → Nat → Int32) → Prop} {fr lo : Nat} {rest : List Value} (h : Ct l D (tyC cI cG cR) 32 A (ceC A n cI cG cR) X yX1_rootOrNull cX1_rootOrNull 2 (some .int) fr lo [.ref (A 1), a0] S rI Q) (hR : fr + 1 ≤ R.frames ∧ 8 + (2 + 11) + lo ≤ R.locals) (hcat : (rest.map fun v => v.category).sum ≤ 8) (hcs : cells ≤ R.cells ∧ slots ≤ R.slots) (d : decode cc pc = .ok (.invokevirtual 71, 3)) (q : Nat) (hq : pc + 3 = q) (K : ∀ (r : Int32) S1, Q r S1 → J p l e R s m args below meth c cells slots Qf D 32 A (ceC A n cI cG cR) Acc nL S1 q L (.int r :: rest)) : J p l e R s m args below meth c cells slots Qf D 32 A (ceC A n cI cG cR) Acc nL S pc L (a0 :: .ref (A 1) :: rest) := r_callV C (ci := 1) (T := TX1) (nF := 13) 1 rest h (Nat.le_of_ble_eq_true rfl) (heC_1 (S 1)) rfl b_490 b_45 b_488 b_489 b_487 ⟨by decide +kernel, by decide +kernel, (show (parseMethodDescriptor yX1_rootOrNull.desc).map (fun d => d.parameters.length) = some 1 by decide +kernel)⟩ hR rfl hcat hcs d q hq K
theorem b_512 : Cond.methodLink RX4 77 yX3_isFull ∈ BIG := List.mem_filter.mpr ⟨List.mem_of_getElem? (i := 512) (by decide +kernel), by decide +kernel⟩
theorem k_RX4_77 (C : Cx p s m args c cc nL RX4 D (tyC cI cG cR) 32 A X Acc) {k : Nat} (h0 : 6 ≤ k) (h1 : k < 16) {Q : Bool → (Nat → Nat → Int32) → Prop} {fr lo : Nat} {rest : List Value} (h : Ct l D (tyC cI cG cR) 32 A (ceC A n cI cG cR) X yX3_isFull cX3_isFull 1 (some .boolean) fr lo [.ref (A k)] S rZ Q) (hR : fr + 1 ≤ R.frames ∧ 8 + (1 + 11) + lo ≤ R.locals) (hcat : (rest.map fun v => v.category).sum ≤ 8) (hcs : cells ≤ R.cells ∧ slots ≤ R.slots) (d : decode cc pc = .ok (.invokevirtual 77, 3)) (q : Nat) (hq : pc + 3 = q) (K : ∀ (r : Bool) S1, Q r S1 → J p l e R s m args below meth c cells slots Qf D 32 A (ceC A n cI cG cR) Acc nL S1 q L (.int (bI r) :: rest)) : J p l e R s m args below meth c cells slots Qf D 32 A (ceC A n cI cG cR) Acc nL S pc L (.ref (A k) :: rest) := r_callV C (ci := 3) (T := TX3) (nF := 2) k rest h (by omega) (heC_3 h0 h1 (S k)) rfl b_444 b_47 b_442 b_443 b_512 ⟨by decide +kernel, by decide +kernel, (show (parseMethodDescriptor yX3_isFull.desc).map (fun d => d.parameters.length) = some 0 by decide +kernel)⟩ hR rfl hcat hcs d q hq K
theorem b_513 : Cond.methodLink RX4 84 yX3_add ∈ BIG := List.mem_filter.mpr ⟨List.mem_of_getElem? (i := 513) (by decide +kernel), by decide +kernel⟩
theorem k_RX4_84 (C : Cx p s m args c cc nL RX4 D (tyC cI cG cR) 32 A X Acc) {k : Nat} (h0 : 6 ≤ k) (h1 : k < 16) {a0 : Value} {Q : Unit → (Nat → Nat → Int32) → Prop} {fr lo : Nat} {rest : List Value} (h : Ct l D (tyC cI cG cR) 32 A (ceC A n cI cG cR) X yX3_add cX3_add 2 none fr lo [.ref (A k), a0] S rU Q) (hR : fr + 1 ≤ R.frames ∧ 8 + (2 + 11) + lo ≤ R.locals) (hcat : (rest.map fun v => v.category).sum ≤ 8) (hcs : cells ≤ R.cells ∧ slots ≤ R.slots) (d : decode cc pc = .ok (.invokevirtual 84, 3)) (q : Nat) (hq : pc + 3 = q) (K : ∀ S1, Q () S1 → J p l e R s m args below meth c cells slots Qf D 32 A (ceC A n cI cG cR) Acc nL S1 q L rest) : J p l e R s m args below meth c cells slots Qf D 32 A (ceC A n cI cG cR) Acc nL S pc L (a0 :: .ref (A k) :: rest) := r_callV C (ci := 3) (T := TX3) (nF := 2) k rest h (by omega) (heC_3 h0 h1 (S k)) rfl b_369 b_47 b_367 b_368 b_513 ⟨by decide +kernel, by decide +kernel, (show (parseMethodDescriptor yX3_add.desc).map (fun d => d.parameters.length) = some 1 by decide +kernel)⟩ hR rfl hcat hcs d q hq (fun _ => K)
theorem b_524 : Cond.code yX3_takeLast cX3_takeLast 1 (some .int) ∈ BIG := List.mem_filter.mpr ⟨List.mem_of_getElem? (i := 524) (by decide +kernel), by decide +kernel⟩
theorem b_521 : Cond.methodLink RX4 91 yX3_takeLast ∈ BIG := List.mem_filter.mpr ⟨List.mem_of_getElem? (i := 521) (by decide +kernel), by decide +kernel⟩
theorem b_522 : Cond.instanceMethod yX3_takeLast ∈ BIG := List.mem_filter.mpr ⟨List.mem_of_getElem? (i := 522) (by decide +kernel), by decide +kernel⟩
theorem b_523 : Cond.selects RX3 yX3_takeLast yX3_takeLast ∈ BIG := List.mem_filter.mpr ⟨List.mem_of_getElem? (i := 523) (by decide +kernel), by decide +kernel⟩
theorem k_RX4_91 (C : Cx p s m args c cc nL RX4 D (tyC cI cG cR) 32 A X Acc) {k : Nat} (h0 : 6 ≤ k) (h1 : k < 16) {Q : Int32 → (Nat → Nat → Int32) → Prop} {fr lo : Nat} {rest : List Value} (h : Ct l D (tyC cI cG cR) 32 A (ceC A n cI cG cR) X yX3_takeLast cX3_takeLast 1 (some .int) fr lo [.ref (A k)] S rI Q) (hR : fr + 1 ≤ R.frames ∧ 8 + (1 + 11) + lo ≤ R.locals) (hcat : (rest.map fun v => v.category).sum ≤ 8) (hcs : cells ≤ R.cells ∧ slots ≤ R.slots) (d : decode cc pc = .ok (.invokevirtual 91, 3)) (q : Nat) (hq : pc + 3 = q) (K : ∀ (r : Int32) S1, Q r S1 → J p l e R s m args below meth c cells slots Qf D 32 A (ceC A n cI cG cR) Acc nL S1 q L (.int r :: rest)) : J p l e R s m args below meth c cells slots Qf D 32 A (ceC A n cI cG cR) Acc nL S pc L (.ref (A k) :: rest) := r_callV C (ci := 3) (T := TX3) (nF := 2) k rest h (by omega) (heC_3 h0 h1 (S k)) rfl b_524 b_47 b_522 b_523 b_521 ⟨by decide +kernel, by decide +kernel, (show (parseMethodDescriptor yX3_takeLast.desc).map (fun d => d.parameters.length) = some 0 by decide +kernel)⟩ hR rfl hcat hcs d q hq K
theorem b_552 : Cond.code yX3_takeFirst cX3_takeFirst 2 (some .int) ∈ BIG := List.mem_filter.mpr ⟨List.mem_of_getElem? (i := 552) (by decide +kernel), by decide +kernel⟩
theorem b_549 : Cond.methodLink RX4 104 yX3_takeFirst ∈ BIG := List.mem_filter.mpr ⟨List.mem_of_getElem? (i := 549) (by decide +kernel), by decide +kernel⟩
theorem b_550 : Cond.instanceMethod yX3_takeFirst ∈ BIG := List.mem_filter.mpr ⟨List.mem_of_getElem? (i := 550) (by decide +kernel), by decide +kernel⟩
theorem b_551 : Cond.selects RX3 yX3_takeFirst yX3_takeFirst ∈ BIG := List.mem_filter.mpr ⟨List.mem_of_getElem? (i := 551) (by decide +kernel), by decide +kernel⟩
theorem k_RX4_104 (C : Cx p s m args c cc nL RX4 D (tyC cI cG cR) 32 A X Acc) {k : Nat} (h0 : 6 ≤ k) (h1 : k < 16) {Q : Int32 → (Nat → Nat → Int32) → Prop} {fr lo : Nat} {rest : List Value} (h : Ct l D (tyC cI cG cR) 32 A (ceC A n cI cG cR) X yX3_takeFirst cX3_takeFirst 2 (some .int) fr lo [.ref (A k)] S rI Q) (hR : fr + 1 ≤ R.frames ∧ 8 + (2 + 11) + lo ≤ R.locals) (hcat : (rest.map fun v => v.category).sum ≤ 8) (hcs : cells ≤ R.cells ∧ slots ≤ R.slots) (d : decode cc pc = .ok (.invokevirtual 104, 3)) (q : Nat) (hq : pc + 3 = q) (K : ∀ (r : Int32) S1, Q r S1 → J p l e R s m args below meth c cells slots Qf D 32 A (ceC A n cI cG cR) Acc nL S1 q L (.int r :: rest)) : J p l e R s m args below meth c cells slots Qf D 32 A (ceC A n cI cG cR) Acc nL S pc L (.ref (A k) :: rest) := r_callV C (ci := 3) (T := TX3) (nF := 2) k rest h (by omega) (heC_3 h0 h1 (S k)) rfl b_552 b_47 b_550 b_551 b_549 ⟨by decide +kernel, by decide +kernel, (show (parseMethodDescriptor yX3_takeFirst.desc).map (fun d => d.parameters.length) = some 0 by decide +kernel)⟩ hR rfl hcat hcs d q hq K
theorem b_561 : Cond.methodLink RX4 107 yX1_gather ∈ BIG := List.mem_filter.mpr ⟨List.mem_of_getElem? (i := 561) (by decide +kernel), by decide +kernel⟩
theorem k_RX4_107 (C : Cx p s m args c cc nL RX4 D (tyC cI cG cR) 32 A X Acc)  {a0 : Value} {Q : Int32 → (Nat → Nat → Int32) → Prop} {fr lo : Nat} {rest : List Value} (h : Ct l D (tyC cI cG cR) 32 A (ceC A n cI cG cR) X yX1_gather cX1_gather 4 (some .int) fr lo [.ref (A 1), a0] S rI Q) (hR : fr + 1 ≤ R.frames ∧ 8 + (4 + 11) + lo ≤ R.locals) (hcat : (rest.map fun v => v.category).sum ≤ 8) (hcs : cells ≤ R.cells ∧ slots ≤ R.slots) (d : decode cc pc = .ok (.invokevirtual 107, 3)) (q : Nat) (hq : pc + 3 = q) (K : ∀ (r : Int32) S1, Q r S1 → J p l e R s m args below meth c cells slots Qf D 32 A (ceC A n cI cG cR) Acc nL S1 q L (.int r :: rest)) : J p l e R s m args below meth c cells slots Qf D 32 A (ceC A n cI cG cR) Acc nL S pc L (a0 :: .ref (A 1) :: rest) := r_callV C (ci := 1) (T := TX1) (nF := 13) 1 rest h (Nat.le_of_ble_eq_true rfl) (heC_1 (S 1)) rfl b_349 b_45 b_347 b_348 b_561 ⟨by decide +kernel, by decide +kernel, (show (parseMethodDescriptor yX1_gather.desc).map (fun d => d.parameters.length) = some 1 by decide +kernel)⟩ hR rfl hcat hcs d q hq K
theorem b_576 : Cond.methodLink RX4 110 yX1_fieldsOf ∈ BIG := List.mem_filter.mpr ⟨List.mem_of_getElem? (i := 576) (by decide +kernel), by decide +kernel⟩
theorem k_RX4_110 (C : Cx p s m args c cc nL RX4 D (tyC cI cG cR) 32 A X Acc)  {a0 : Value} {Q : Int32 → (Nat → Nat → Int32) → Prop} {fr lo : Nat} {rest : List Value} (h : Ct l D (tyC cI cG cR) 32 A (ceC A n cI cG cR) X yX1_fieldsOf cX1_fieldsOf 2 (some .int) fr lo [.ref (A 1), a0] S rI Q) (hR : fr + 1 ≤ R.frames ∧ 8 + (2 + 11) + lo ≤ R.locals) (hcat : (rest.map fun v => v.category).sum ≤ 8) (hcs : cells ≤ R.cells ∧ slots ≤ R.slots) (d : decode cc pc = .ok (.invokevirtual 110, 3)) (q : Nat) (hq : pc + 3 = q) (K : ∀ (r : Int32) S1, Q r S1 → J p l e R s m args below meth c cells slots Qf D 32 A (ceC A n cI cG cR) Acc nL S1 q L (.int r :: rest)) : J p l e R s m args below meth c cells slots Qf D 32 A (ceC A n cI cG cR) Acc nL S pc L (a0 :: .ref (A 1) :: rest) := r_callV C (ci := 1) (T := TX1) (nF := 13) 1 rest h (Nat.le_of_ble_eq_true rfl) (heC_1 (S 1)) rfl b_393 b_45 b_391 b_392 b_576 ⟨by decide +kernel, by decide +kernel, (show (parseMethodDescriptor yX1_fieldsOf.desc).map (fun d => d.parameters.length) = some 1 by decide +kernel)⟩ hR rfl hcat hcs d q hq K
theorem b_577 : Cond.methodLink RX4 113 yX1_ageOf ∈ BIG := List.mem_filter.mpr ⟨List.mem_of_getElem? (i := 577) (by decide +kernel), by decide +kernel⟩
theorem k_RX4_113 (C : Cx p s m args c cc nL RX4 D (tyC cI cG cR) 32 A X Acc)  {a0 : Value} {Q : Int32 → (Nat → Nat → Int32) → Prop} {fr lo : Nat} {rest : List Value} (h : Ct l D (tyC cI cG cR) 32 A (ceC A n cI cG cR) X yX1_ageOf cX1_ageOf 2 (some .int) fr lo [.ref (A 1), a0] S rI Q) (hR : fr + 1 ≤ R.frames ∧ 8 + (2 + 11) + lo ≤ R.locals) (hcat : (rest.map fun v => v.category).sum ≤ 8) (hcs : cells ≤ R.cells ∧ slots ≤ R.slots) (d : decode cc pc = .ok (.invokevirtual 113, 3)) (q : Nat) (hq : pc + 3 = q) (K : ∀ (r : Int32) S1, Q r S1 → J p l e R s m args below meth c cells slots Qf D 32 A (ceC A n cI cG cR) Acc nL S1 q L (.int r :: rest)) : J p l e R s m args below meth c cells slots Qf D 32 A (ceC A n cI cG cR) Acc nL S pc L (a0 :: .ref (A 1) :: rest) := r_callV C (ci := 1) (T := TX1) (nF := 13) 1 rest h (Nat.le_of_ble_eq_true rfl) (heC_1 (S 1)) rfl b_397 b_45 b_395 b_396 b_577 ⟨by decide +kernel, by decide +kernel, (show (parseMethodDescriptor yX1_ageOf.desc).map (fun d => d.parameters.length) = some 1 by decide +kernel)⟩ hR rfl hcat hcs d q hq K
theorem b_581 : Cond.code yX1_isKeen cX1_isKeen 2 (some .boolean) ∈ BIG := List.mem_filter.mpr ⟨List.mem_of_getElem? (i := 581) (by decide +kernel), by decide +kernel⟩
theorem b_578 : Cond.methodLink RX4 116 yX1_isKeen ∈ BIG := List.mem_filter.mpr ⟨List.mem_of_getElem? (i := 578) (by decide +kernel), by decide +kernel⟩
theorem b_579 : Cond.instanceMethod yX1_isKeen ∈ BIG := List.mem_filter.mpr ⟨List.mem_of_getElem? (i := 579) (by decide +kernel), by decide +kernel⟩
theorem b_580 : Cond.selects RX1 yX1_isKeen yX1_isKeen ∈ BIG := List.mem_filter.mpr ⟨List.mem_of_getElem? (i := 580) (by decide +kernel), by decide +kernel⟩
theorem k_RX4_116 (C : Cx p s m args c cc nL RX4 D (tyC cI cG cR) 32 A X Acc)  {a0 : Value} {Q : Bool → (Nat → Nat → Int32) → Prop} {fr lo : Nat} {rest : List Value} (h : Ct l D (tyC cI cG cR) 32 A (ceC A n cI cG cR) X yX1_isKeen cX1_isKeen 2 (some .boolean) fr lo [.ref (A 1), a0] S rZ Q) (hR : fr + 1 ≤ R.frames ∧ 8 + (2 + 11) + lo ≤ R.locals) (hcat : (rest.map fun v => v.category).sum ≤ 8) (hcs : cells ≤ R.cells ∧ slots ≤ R.slots) (d : decode cc pc = .ok (.invokevirtual 116, 3)) (q : Nat) (hq : pc + 3 = q) (K : ∀ (r : Bool) S1, Q r S1 → J p l e R s m args below meth c cells slots Qf D 32 A (ceC A n cI cG cR) Acc nL S1 q L (.int (bI r) :: rest)) : J p l e R s m args below meth c cells slots Qf D 32 A (ceC A n cI cG cR) Acc nL S pc L (a0 :: .ref (A 1) :: rest) := r_callV C (ci := 1) (T := TX1) (nF := 13) 1 rest h (Nat.le_of_ble_eq_true rfl) (heC_1 (S 1)) rfl b_581 b_45 b_579 b_580 b_578 ⟨by decide +kernel, by decide +kernel, (show (parseMethodDescriptor yX1_isKeen.desc).map (fun d => d.parameters.length) = some 1 by decide +kernel)⟩ hR rfl hcat hcs d q hq K
theorem b_585 : Cond.code yX1_labelOf cX1_labelOf 2 (some .int) ∈ BIG := List.mem_filter.mpr ⟨List.mem_of_getElem? (i := 585) (by decide +kernel), by decide +kernel⟩
theorem b_582 : Cond.methodLink RX4 120 yX1_labelOf ∈ BIG := List.mem_filter.mpr ⟨List.mem_of_getElem? (i := 582) (by decide +kernel), by decide +kernel⟩
theorem b_583 : Cond.instanceMethod yX1_labelOf ∈ BIG := List.mem_filter.mpr ⟨List.mem_of_getElem? (i := 583) (by decide +kernel), by decide +kernel⟩
theorem b_584 : Cond.selects RX1 yX1_labelOf yX1_labelOf ∈ BIG := List.mem_filter.mpr ⟨List.mem_of_getElem? (i := 584) (by decide +kernel), by decide +kernel⟩
theorem k_RX4_120 (C : Cx p s m args c cc nL RX4 D (tyC cI cG cR) 32 A X Acc)  {a0 : Value} {Q : Int32 → (Nat → Nat → Int32) → Prop} {fr lo : Nat} {rest : List Value} (h : Ct l D (tyC cI cG cR) 32 A (ceC A n cI cG cR) X yX1_labelOf cX1_labelOf 2 (some .int) fr lo [.ref (A 1), a0] S rI Q) (hR : fr + 1 ≤ R.frames ∧ 8 + (2 + 11) + lo ≤ R.locals) (hcat : (rest.map fun v => v.category).sum ≤ 8) (hcs : cells ≤ R.cells ∧ slots ≤ R.slots) (d : decode cc pc = .ok (.invokevirtual 120, 3)) (q : Nat) (hq : pc + 3 = q) (K : ∀ (r : Int32) S1, Q r S1 → J p l e R s m args below meth c cells slots Qf D 32 A (ceC A n cI cG cR) Acc nL S1 q L (.int r :: rest)) : J p l e R s m args below meth c cells slots Qf D 32 A (ceC A n cI cG cR) Acc nL S pc L (a0 :: .ref (A 1) :: rest) := r_callV C (ci := 1) (T := TX1) (nF := 13) 1 rest h (Nat.le_of_ble_eq_true rfl) (heC_1 (S 1)) rfl b_585 b_45 b_583 b_584 b_582 ⟨by decide +kernel, by decide +kernel, (show (parseMethodDescriptor yX1_labelOf.desc).map (fun d => d.parameters.length) = some 1 by decide +kernel)⟩ hR rfl hcat hcs d q hq K
theorem b_586 : Cond.methodLink RX4 123 yX1_homeOf ∈ BIG := List.mem_filter.mpr ⟨List.mem_of_getElem? (i := 586) (by decide +kernel), by decide +kernel⟩
theorem k_RX4_123 (C : Cx p s m args c cc nL RX4 D (tyC cI cG cR) 32 A X Acc)  {a0 : Value} {Q : Nat → (Nat → Nat → Int32) → Prop} {fr lo : Nat} {rest : List Value} (h : Ct l D (tyC cI cG cR) 32 A (ceC A n cI cG cR) X yX1_homeOf cX1_homeOf 3 (some (.object "StoreNotes$Generation")) fr lo [.ref (A 1), a0] S (rA A 3) Q) (hR : fr + 1 ≤ R.frames ∧ 8 + (3 + 11) + lo ≤ R.locals) (hcat : (rest.map fun v => v.category).sum ≤ 8) (hcs : cells ≤ R.cells ∧ slots ≤ R.slots) (d : decode cc pc = .ok (.invokevirtual 123, 3)) (q : Nat) (hq : pc + 3 = q) (K : ∀ (g : Nat) S1, Q g S1 → J p l e R s m args below meth c cells slots Qf D 32 A (ceC A n cI cG cR) Acc nL S1 q L (.ref (A (3 + g)) :: rest)) : J p l e R s m args below meth c cells slots Qf D 32 A (ceC A n cI cG cR) Acc nL S pc L (a0 :: .ref (A 1) :: rest) := r_callV C (ci := 1) (T := TX1) (nF := 13) 1 rest h (Nat.le_of_ble_eq_true rfl) (heC_1 (S 1)) rfl b_361 b_45 b_359 b_360 b_586 ⟨by decide +kernel, by decide +kernel, (show (parseMethodDescriptor yX1_homeOf.desc).map (fun d => d.parameters.length) = some 1 by decide +kernel)⟩ hR rfl hcat hcs d q hq K
theorem b_597 : Cond.code yX1_isTaken cX1_isTaken 2 (some .boolean) ∈ BIG := List.mem_filter.mpr ⟨List.mem_of_getElem? (i := 597) (by decide +kernel), by decide +kernel⟩
theorem b_594 : Cond.methodLink RX4 135 yX1_isTaken ∈ BIG := List.mem_filter.mpr ⟨List.mem_of_getElem? (i := 594) (by decide +kernel), by decide +kernel⟩
theorem b_595 : Cond.instanceMethod yX1_isTaken ∈ BIG := List.mem_filter.mpr ⟨List.mem_of_getElem? (i := 595) (by decide +kernel), by decide +kernel⟩
theorem b_596 : Cond.selects RX1 yX1_isTaken yX1_isTaken ∈ BIG := List.mem_filter.mpr ⟨List.mem_of_getElem? (i := 596) (by decide +kernel), by decide +kernel⟩
theorem k_RX4_135 (C : Cx p s m args c cc nL RX4 D (tyC cI cG cR) 32 A X Acc)  {a0 : Value} {Q : Bool → (Nat → Nat → Int32) → Prop} {fr lo : Nat} {rest : List Value} (h : Ct l D (tyC cI cG cR) 32 A (ceC A n cI cG cR) X yX1_isTaken cX1_isTaken 2 (some .boolean) fr lo [.ref (A 1), a0] S rZ Q) (hR : fr + 1 ≤ R.frames ∧ 8 + (2 + 11) + lo ≤ R.locals) (hcat : (rest.map fun v => v.category).sum ≤ 8) (hcs : cells ≤ R.cells ∧ slots ≤ R.slots) (d : decode cc pc = .ok (.invokevirtual 135, 3)) (q : Nat) (hq : pc + 3 = q) (K : ∀ (r : Bool) S1, Q r S1 → J p l e R s m args below meth c cells slots Qf D 32 A (ceC A n cI cG cR) Acc nL S1 q L (.int (bI r) :: rest)) : J p l e R s m args below meth c cells slots Qf D 32 A (ceC A n cI cG cR) Acc nL S pc L (a0 :: .ref (A 1) :: rest) := r_callV C (ci := 1) (T := TX1) (nF := 13) 1 rest h (Nat.le_of_ble_eq_true rfl) (heC_1 (S 1)) rfl b_597 b_45 b_595 b_596 b_594 ⟨by decide +kernel, by decide +kernel, (show (parseMethodDescriptor yX1_isTaken.desc).map (fun d => d.parameters.length) = some 1 by decide +kernel)⟩ hR rfl hcat hcs d q hq K
theorem b_601 : Cond.code yX0_isTaken cX0_isTaken 2 (some .boolean) ∈ BIG := List.mem_filter.mpr ⟨List.mem_of_getElem? (i := 601) (by decide +kernel), by decide +kernel⟩
theorem b_598 : Cond.methodLink RX1 74 yX0_isTaken ∈ BIG := List.mem_filter.mpr ⟨List.mem_of_getElem? (i := 598) (by decide +kernel), by decide +kernel⟩
theorem b_599 : Cond.instanceMethod yX0_isTaken ∈ BIG := List.mem_filter.mpr ⟨List.mem_of_getElem? (i := 599) (by decide +kernel), by decide +kernel⟩
theorem b_600 : Cond.selects RX0 yX0_isTaken yX0_isTaken ∈ BIG := List.mem_filter.mpr ⟨List.mem_of_getElem? (i := 600) (by decide +kernel), by decide +kernel⟩
theorem k_RX1_74 (C : Cx p s m args c cc nL RX1 D (tyC cI cG cR) 32 A X Acc) {k : Nat} (h0 : 3 ≤ k) (h1 : k < 6) {a0 : Value} {Q : Bool → (Nat → Nat → Int32) → Prop} {fr lo : Nat} {rest : List Value} (h : Ct l D (tyC cI cG cR) 32 A (ceC A n cI cG cR) X yX0_isTaken cX0_isTaken 2 (some .boolean) fr lo [.ref (A k), a0] S rZ Q) (hR : fr + 1 ≤ R.frames ∧ 8 + (2 + 11) + lo ≤ R.locals) (hcat : (rest.map fun v => v.category).sum ≤ 8) (hcs : cells ≤ R.cells ∧ slots ≤ R.slots) (d : decode cc pc = .ok (.invokevirtual 74, 3)) (q : Nat) (hq : pc + 3 = q) (K : ∀ (r : Bool) S1, Q r S1 → J p l e R s m args below meth c cells slots Qf D 32 A (ceC A n cI cG cR) Acc nL S1 q L (.int (bI r) :: rest)) : J p l e R s m args below meth c cells slots Qf D 32 A (ceC A n cI cG cR) Acc nL S pc L (a0 :: .ref (A k) :: rest) := r_callV C (ci := 0) (T := TX0) (nF := 10) k rest h (by omega) (heC_0 h0 h1 (S k)) rfl b_601 b_48 b_599 b_600 b_598 ⟨by decide +kernel, by decide +kernel, (show (parseMethodDescriptor yX0_isTaken.desc).map (fun d => d.parameters.length) = some 1 by decide +kernel)⟩ hR rfl hcat hcs d q hq K
theorem b_612 : Cond.code yX1_rowOf cX1_rowOf 2 (some (.object "StoreNotes$Row")) ∈ BIG := List.mem_filter.mpr ⟨List.mem_of_getElem? (i := 612) (by decide +kernel), by decide +kernel⟩
theorem b_609 : Cond.methodLink RX4 141 yX1_rowOf ∈ BIG := List.mem_filter.mpr ⟨List.mem_of_getElem? (i := 609) (by decide +kernel), by decide +kernel⟩
theorem b_610 : Cond.instanceMethod yX1_rowOf ∈ BIG := List.mem_filter.mpr ⟨List.mem_of_getElem? (i := 610) (by decide +kernel), by decide +kernel⟩
theorem b_611 : Cond.selects RX1 yX1_rowOf yX1_rowOf ∈ BIG := List.mem_filter.mpr ⟨List.mem_of_getElem? (i := 611) (by decide +kernel), by decide +kernel⟩
theorem k_RX4_141 (C : Cx p s m args c cc nL RX4 D (tyC cI cG cR) 32 A X Acc)  {a0 : Value} {Q : Option Nat → (Nat → Nat → Int32) → Prop} {fr lo : Nat} {rest : List Value} (h : Ct l D (tyC cI cG cR) 32 A (ceC A n cI cG cR) X yX1_rowOf cX1_rowOf 2 (some (.object "StoreNotes$Row")) fr lo [.ref (A 1), a0] S (rO A 0) Q) (hR : fr + 1 ≤ R.frames ∧ 8 + (2 + 11) + lo ≤ R.locals) (hcat : (rest.map fun v => v.category).sum ≤ 8) (hcs : cells ≤ R.cells ∧ slots ≤ R.slots) (d : decode cc pc = .ok (.invokevirtual 141, 3)) (q : Nat) (hq : pc + 3 = q) (K : ∀ (o : Option Nat) S1, Q o S1 → J p l e R s m args below meth c cells slots Qf D 32 A (ceC A n cI cG cR) Acc nL S1 q L (rO' A 0 o :: rest)) : J p l e R s m args below meth c cells slots Qf D 32 A (ceC A n cI cG cR) Acc nL S pc L (a0 :: .ref (A 1) :: rest) := r_callV C (ci := 1) (T := TX1) (nF := 13) 1 rest h (Nat.le_of_ble_eq_true rfl) (heC_1 (S 1)) rfl b_612 b_45 b_610 b_611 b_609 ⟨by decide +kernel, by decide +kernel, (show (parseMethodDescriptor yX1_rowOf.desc).map (fun d => d.parameters.length) = some 1 by decide +kernel)⟩ hR rfl hcat hcs d q hq K
theorem b_623 : Cond.code yX2_append cX2_append 6 none ∈ BIG := List.mem_filter.mpr ⟨List.mem_of_getElem? (i := 623) (by decide +kernel), by decide +kernel⟩
theorem b_49 : Cond.initialized RX2 ∈ BIG := List.mem_filter.mpr ⟨List.mem_of_getElem? (i := 49) (by decide +kernel), by decide +kernel⟩
theorem b_620 : Cond.methodLink RX4 148 yX2_append ∈ BIG := List.mem_filter.mpr ⟨List.mem_of_getElem? (i := 620) (by decide +kernel), by decide +kernel⟩
theorem b_621 : Cond.instanceMethod yX2_append ∈ BIG := List.mem_filter.mpr ⟨List.mem_of_getElem? (i := 621) (by decide +kernel), by decide +kernel⟩
theorem b_622 : Cond.selects RX2 yX2_append yX2_append ∈ BIG := List.mem_filter.mpr ⟨List.mem_of_getElem? (i := 622) (by decide +kernel), by decide +kernel⟩
theorem k_RX4_148 (C : Cx p s m args c cc nL RX4 D (tyC cI cG cR) 32 A X Acc)  {a0 a1 a2 a3 : Value} {Q : Unit → (Nat → Nat → Int32) → Prop} {fr lo : Nat} {rest : List Value} (h : Ct l D (tyC cI cG cR) 32 A (ceC A n cI cG cR) X yX2_append cX2_append 6 none fr lo [.ref (A 2), a0, a1, a2, a3] S rU Q) (hR : fr + 1 ≤ R.frames ∧ 8 + (6 + 11) + lo ≤ R.locals) (hcat : (rest.map fun v => v.category).sum ≤ 8) (hcs : cells ≤ R.cells ∧ slots ≤ R.slots) (d : decode cc pc = .ok (.invokevirtual 148, 3)) (q : Nat) (hq : pc + 3 = q) (K : ∀ S1, Q () S1 → J p l e R s m args below meth c cells slots Qf D 32 A (ceC A n cI cG cR) Acc nL S1 q L rest) : J p l e R s m args below meth c cells slots Qf D 32 A (ceC A n cI cG cR) Acc nL S pc L (a3 :: a2 :: a1 :: a0 :: .ref (A 2) :: rest) := r_callV C (ci := 2) (T := TX2) (nF := 6) 2 rest h (Nat.le_of_ble_eq_true rfl) (heC_2 (S 2)) rfl b_623 b_49 b_621 b_622 b_620 ⟨by decide +kernel, by decide +kernel, (show (parseMethodDescriptor yX2_append.desc).map (fun d => d.parameters.length) = some 4 by decide +kernel)⟩ hR rfl hcat hcs d q hq (fun _ => K)
theorem b_634 : Cond.code yX2_endBefore cX2_endBefore 2 (some .int) ∈ BIG := List.mem_filter.mpr ⟨List.mem_of_getElem? (i := 634) (by decide +kernel), by decide +kernel⟩
theorem b_631 : Cond.methodLink RX4 154 yX2_endBefore ∈ BIG := List.mem_filter.mpr ⟨List.mem_of_getElem? (i := 631) (by decide +kernel), by decide +kernel⟩
theorem b_632 : Cond.instanceMethod yX2_endBefore ∈ BIG := List.mem_filter.mpr ⟨List.mem_of_getElem? (i := 632) (by decide +kernel), by decide +kernel⟩
theorem b_633 : Cond.selects RX2 yX2_endBefore yX2_endBefore ∈ BIG := List.mem_filter.mpr ⟨List.mem_of_getElem? (i := 633) (by decide +kernel), by decide +kernel⟩
theorem k_RX4_154 (C : Cx p s m args c cc nL RX4 D (tyC cI cG cR) 32 A X Acc)  {a0 : Value} {Q : Int32 → (Nat → Nat → Int32) → Prop} {fr lo : Nat} {rest : List Value} (h : Ct l D (tyC cI cG cR) 32 A (ceC A n cI cG cR) X yX2_endBefore cX2_endBefore 2 (some .int) fr lo [.ref (A 2), a0] S rI Q) (hR : fr + 1 ≤ R.frames ∧ 8 + (2 + 11) + lo ≤ R.locals) (hcat : (rest.map fun v => v.category).sum ≤ 8) (hcs : cells ≤ R.cells ∧ slots ≤ R.slots) (d : decode cc pc = .ok (.invokevirtual 154, 3)) (q : Nat) (hq : pc + 3 = q) (K : ∀ (r : Int32) S1, Q r S1 → J p l e R s m args below meth c cells slots Qf D 32 A (ceC A n cI cG cR) Acc nL S1 q L (.int r :: rest)) : J p l e R s m args below meth c cells slots Qf D 32 A (ceC A n cI cG cR) Acc nL S pc L (a0 :: .ref (A 2) :: rest) := r_callV C (ci := 2) (T := TX2) (nF := 6) 2 rest h (Nat.le_of_ble_eq_true rfl) (heC_2 (S 2)) rfl b_634 b_49 b_632 b_633 b_631 ⟨by decide +kernel, by decide +kernel, (show (parseMethodDescriptor yX2_endBefore.desc).map (fun d => d.parameters.length) = some 1 by decide +kernel)⟩ hR rfl hcat hcs d q hq K
theorem b_638 : Cond.code yX2_isWrong cX2_isWrong 3 (some .boolean) ∈ BIG := List.mem_filter.mpr ⟨List.mem_of_getElem? (i := 638) (by decide +kernel), by decide +kernel⟩
theorem b_635 : Cond.methodLink RX2 29 yX2_isWrong ∈ BIG := List.mem_filter.mpr ⟨List.mem_of_getElem? (i := 635) (by decide +kernel), by decide +kernel⟩
theorem b_637 : Cond.instanceMethod yX2_isWrong ∈ BIG := List.mem_filter.mpr ⟨List.mem_of_getElem? (i := 637) (by decide +kernel), by decide +kernel⟩
theorem b_13 : Cond.selects RX2 yX2_isWrong yX2_isWrong ∈ BIG := List.mem_filter.mpr ⟨List.mem_of_getElem? (i := 13) (by decide +kernel), by decide +kernel⟩
theorem k_RX2_29 (C : Cx p s m args c cc nL RX2 D (tyC cI cG cR) 32 A X Acc)  {Q : Bool → (Nat → Nat → Int32) → Prop} {fr lo : Nat} {rest : List Value} (h : Ct l D (tyC cI cG cR) 32 A (ceC A n cI cG cR) X yX2_isWrong cX2_isWrong 3 (some .boolean) fr lo [.ref (A 2)] S rZ Q) (hR : fr + 1 ≤ R.frames ∧ 8 + (3 + 11) + lo ≤ R.locals) (hcat : (rest.map fun v => v.category).sum ≤ 8) (hcs : cells ≤ R.cells ∧ slots ≤ R.slots) (d : decode cc pc = .ok (.invokevirtual 29, 3)) (q : Nat) (hq : pc + 3 = q) (K : ∀ (r : Bool) S1, Q r S1 → J p l e R s m args below meth c cells slots Qf D 32 A (ceC A n cI cG cR) Acc nL S1 q L (.int (bI r) :: rest)) : J p l e R s m args below meth c cells slots Qf D 32 A (ceC A n cI cG cR) Acc nL S pc L (.ref (A 2) :: rest) := r_callV C (ci := 2) (T := TX2) (nF := 6) 2 rest h (Nat.le_of_ble_eq_true rfl) (heC_2 (S 2)) rfl b_638 b_49 b_637 b_13 b_635 ⟨by decide +kernel, by decide +kernel, (show (parseMethodDescriptor yX2_isWrong.desc).map (fun d => d.parameters.length) = some 0 by decide +kernel)⟩ hR rfl hcat hcs d q hq K
theorem b_683 : Cond.code yX2_isAsTold cX2_isAsTold 3 (some .boolean) ∈ BIG := List.mem_filter.mpr ⟨List.mem_of_getElem? (i := 683) (by decide +kernel), by decide +kernel⟩
theorem b_680 : Cond.methodLink RX2 65 yX2_isAsTold ∈ BIG := List.mem_filter.mpr ⟨List.mem_of_getElem? (i := 680) (by decide +kernel), by decide +kernel⟩
theorem b_682 : Cond.instanceMethod yX2_isAsTold ∈ BIG := List.mem_filter.mpr ⟨List.mem_of_getElem? (i := 682) (by decide +kernel), by decide +kernel⟩
theorem b_14 : Cond.selects RX2 yX2_isAsTold yX2_isAsTold ∈ BIG := List.mem_filter.mpr ⟨List.mem_of_getElem? (i := 14) (by decide +kernel), by decide +kernel⟩
theorem k_RX2_65 (C : Cx p s m args c cc nL RX2 D (tyC cI cG cR) 32 A X Acc)  {a0 a1 : Value} {Q : Bool → (Nat → Nat → Int32) → Prop} {fr lo : Nat} {rest : List Value} (h : Ct l D (tyC cI cG cR) 32 A (ceC A n cI cG cR) X yX2_isAsTold cX2_isAsTold 3 (some .boolean) fr lo [.ref (A 2), a0, a1] S rZ Q) (hR : fr + 1 ≤ R.frames ∧ 8 + (3 + 11) + lo ≤ R.locals) (hcat : (rest.map fun v => v.category).sum ≤ 8) (hcs : cells ≤ R.cells ∧ slots ≤ R.slots) (d : decode cc pc = .ok (.invokevirtual 65, 3)) (q : Nat) (hq : pc + 3 = q) (K : ∀ (r : Bool) S1, Q r S1 → J p l e R s m args below meth c cells slots Qf D 32 A (ceC A n cI cG cR) Acc nL S1 q L (.int (bI r) :: rest)) : J p l e R s m args below meth c cells slots Qf D 32 A (ceC A n cI cG cR) Acc nL S pc L (a1 :: a0 :: .ref (A 2) :: rest) := r_callV C (ci := 2) (T := TX2) (nF := 6) 2 rest h (Nat.le_of_ble_eq_true rfl) (heC_2 (S 2)) rfl b_683 b_49 b_682 b_14 b_680 ⟨by decide +kernel, by decide +kernel, (show (parseMethodDescriptor yX2_isAsTold.desc).map (fun d => d.parameters.length) = some 2 by decide +kernel)⟩ hR rfl hcat hcs d q hq K
theorem b_688 : Cond.code yX2_endOfObject cX2_endOfObject 4 (some .int) ∈ BIG := List.mem_filter.mpr ⟨List.mem_of_getElem? (i := 688) (by decide +kernel), by decide +kernel⟩
theorem b_685 : Cond.methodLink RX2 33 yX2_endOfObject ∈ BIG := List.mem_filter.mpr ⟨List.mem_of_getElem? (i := 685) (by decide +kernel), by decide +kernel⟩
theorem b_687 : Cond.instanceMethod yX2_endOfObject ∈ BIG := List.mem_filter.mpr ⟨List.mem_of_getElem? (i := 687) (by decide +kernel), by decide +kernel⟩
theorem b_15 : Cond.selects RX2 yX2_endOfObject yX2_endOfObject ∈ BIG := List.mem_filter.mpr ⟨List.mem_of_getElem? (i := 15) (by decide +kernel), by decide +kernel⟩
theorem k_RX2_33 (C : Cx p s m args c cc nL RX2 D (tyC cI cG cR) 32 A X Acc)  {a0 a1 : Value} {Q : Int32 → (Nat → Nat → Int32) → Prop} {fr lo : Nat} {rest : List Value} (h : Ct l D (tyC cI cG cR) 32 A (ceC A n cI cG cR) X yX2_endOfObject cX2_endOfObject 4 (some .int) fr lo [.ref (A 2), a0, a1] S rI Q) (hR : fr + 1 ≤ R.frames ∧ 8 + (4 + 11) + lo ≤ R.locals) (hcat : (rest.map fun v => v.category).sum ≤ 8) (hcs : cells ≤ R.cells ∧ slots ≤ R.slots) (d : decode cc pc = .ok (.invokevirtual 33, 3)) (q : Nat) (hq : pc + 3 = q) (K : ∀ (r : Int32) S1, Q r S1 → J p l e R s m args below meth c cells slots Qf D 32 A (ceC A n cI cG cR) Acc nL S1 q L (.int r :: rest)) : J p l e R s m args below meth c cells slots Qf D 32 A (ceC A n cI cG cR) Acc nL S pc L (a1 :: a0 :: .ref (A 2) :: rest) := r_callV C (ci := 2) (T := TX2) (nF := 6) 2 rest h (Nat.le_of_ble_eq_true rfl) (heC_2 (S 2)) rfl b_688 b_49 b_687 b_15 b_685 ⟨by decide +kernel, by decide +kernel, (show (parseMethodDescriptor yX2_endOfObject.desc).map (fun d => d.parameters.length) = some 2 by decide +kernel)⟩ hR rfl hcat hcs d q hq K
theorem b_689 : Cond.methodLink RX2 73 yX1_hasField ∈ BIG := List.mem_filter.mpr ⟨List.mem_of_getElem? (i := 689) (by decide +kernel), by decide +kernel⟩
theorem k_RX2_73 (C : Cx p s m args c cc nL RX2 D (tyC cI cG cR) 32 A X Acc)  {a0 a1 : Value} {Q : Bool → (Nat → Nat → Int32) → Prop} {fr lo : Nat} {rest : List Value} (h : Ct l D (tyC cI cG cR) 32 A (ceC A n cI cG cR) X yX1_hasField cX1_hasField 3 (some .boolean) fr lo [.ref (A 1), a0, a1] S rZ Q) (hR : fr + 1 ≤ R.frames ∧ 8 + (3 + 11) + lo ≤ R.locals) (hcat : (rest.map fun v => v.category).sum ≤ 8) (hcs : cells ≤ R.cells ∧ slots ≤ R.slots) (d : decode cc pc = .ok (.invokevirtual 73, 3)) (q : Nat) (hq : pc + 3 = q) (K : ∀ (r : Bool) S1, Q r S1 → J p l e R s m args below meth c cells slots Qf D 32 A (ceC A n cI cG cR) Acc nL S1 q L (.int (bI r) :: rest)) : J p l e R s m args below meth c cells slots Qf D 32 A (ceC A n cI cG cR) Acc nL S pc L (a1 :: a0 :: .ref (A 1) :: rest) := r_callV C (ci := 1) (T := TX1) (nF := 13) 1 rest h (Nat.le_of_ble_eq_true rfl) (heC_1 (S 1)) rfl b_482 b_45 b_480 b_481 b_689 ⟨by decide +kernel, by decide +kernel, (show (parseMethodDescriptor yX1_hasField.desc).map (fun d => d.parameters.length) = some 2 by decide +kernel)⟩ hR rfl hcat hcs d q hq K
theorem b_690 : Cond.methodLink RX2 51 yX3_isFull ∈ BIG := List.mem_filter.mpr ⟨List.mem_of_getElem? (i := 690) (by decide +kernel), by decide +kernel⟩
theorem k_RX2_51 (C : Cx p s m args c cc nL RX2 D (tyC cI cG cR) 32 A X Acc) {k : Nat} (h0 : 6 ≤ k) (h1 : k < 16) {Q : Bool → (Nat → Nat → Int32) → Prop} {fr lo : Nat} {rest : List Value} (h : Ct l D (tyC cI cG cR) 32 A (ceC A n cI cG cR) X yX3_isFull cX3_isFull 1 (some .boolean) fr lo [.ref (A k)] S rZ Q) (hR : fr + 1 ≤ R.frames ∧ 8 + (1 + 11) + lo ≤ R.locals) (hcat : (rest.map fun v => v.category).sum ≤ 8) (hcs : cells ≤ R.cells ∧ slots ≤ R.slots) (d : decode cc pc = .ok (.invokevirtual 51, 3)) (q : Nat) (hq : pc + 3 = q) (K : ∀ (r : Bool) S1, Q r S1 → J p l e R s m args below meth c cells slots Qf D 32 A (ceC A n cI cG cR) Acc nL S1 q L (.int (bI r) :: rest)) : J p l e R s m args below meth c cells slots Qf D 32 A (ceC A n cI cG cR) Acc nL S pc L (.ref (A k) :: rest) := r_callV C (ci := 3) (T := TX3) (nF := 2) k rest h (by omega) (heC_3 h0 h1 (S k)) rfl b_444 b_47 b_442 b_443 b_690 ⟨by decide +kernel, by decide +kernel, (show (parseMethodDescriptor yX3_isFull.desc).map (fun d => d.parameters.length) = some 0 by decide +kernel)⟩ hR rfl hcat hcs d q hq K
theorem b_694 : Cond.code yX2_step cX2_step 6 (some .int) ∈ BIG := List.mem_filter.mpr ⟨List.mem_of_getElem? (i := 694) (by decide +kernel), by decide +kernel⟩
theorem b_691 : Cond.methodLink RX4 158 yX2_step ∈ BIG := List.mem_filter.mpr ⟨List.mem_of_getElem? (i := 691) (by decide +kernel), by decide +kernel⟩
theorem b_692 : Cond.instanceMethod yX2_step ∈ BIG := List.mem_filter.mpr ⟨List.mem_of_getElem? (i := 692) (by decide +kernel), by decide +kernel⟩
theorem b_693 : Cond.selects RX2 yX2_step yX2_step ∈ BIG := List.mem_filter.mpr ⟨List.mem_of_getElem? (i := 693) (by decide +kernel), by decide +kernel⟩
theorem k_RX4_158 (C : Cx p s m args c cc nL RX4 D (tyC cI cG cR) 32 A X Acc)  {Q : Int32 → (Nat → Nat → Int32) → Prop} {fr lo : Nat} {rest : List Value} (h : Ct l D (tyC cI cG cR) 32 A (ceC A n cI cG cR) X yX2_step cX2_step 6 (some .int) fr lo [.ref (A 2)] S rI Q) (hR : fr + 1 ≤ R.frames ∧ 8 + (6 + 11) + lo ≤ R.locals) (hcat : (rest.map fun v => v.category).sum ≤ 8) (hcs : cells ≤ R.cells ∧ slots ≤ R.slots) (d : decode cc pc = .ok (.invokevirtual 158, 3)) (q : Nat) (hq : pc + 3 = q) (K : ∀ (r : Int32) S1, Q r S1 → J p l e R s m args below meth c cells slots Qf D 32 A (ceC A n cI cG cR) Acc nL S1 q L (.int r :: rest)) : J p l e R s m args below meth c cells slots Qf D 32 A (ceC A n cI cG cR) Acc nL S pc L (.ref (A 2) :: rest) := r_callV C (ci := 2) (T := TX2) (nF := 6) 2 rest h (Nat.le_of_ble_eq_true rfl) (heC_2 (S 2)) rfl b_694 b_49 b_692 b_693 b_691 ⟨by decide +kernel, by decide +kernel, (show (parseMethodDescriptor yX2_step.desc).map (fun d => d.parameters.length) = some 0 by decide +kernel)⟩ hR rfl hcat hcs d q hq K
theorem b_695 : Cond.methodLink RX2 77 yX1_newObject ∈ BIG := List.mem_filter.mpr ⟨List.mem_of_getElem? (i := 695) (by decide +kernel), by decide +kernel⟩
theorem k_RX2_77 (C : Cx p s m args c cc nL RX2 D (tyC cI cG cR) 32 A X Acc)  {a0 a1 a2 : Value} {Q : Int32 → (Nat → Nat → Int32) → Prop} {fr lo : Nat} {rest : List Value} (h : Ct l D (tyC cI cG cR) 32 A (ceC A n cI cG cR) X yX1_newObject cX1_newObject 8 (some .int) fr lo [.ref (A 1), a0, a1, a2] S rI Q) (hR : fr + 1 ≤ R.frames ∧ 8 + (8 + 11) + lo ≤ R.locals) (hcat : (rest.map fun v => v.category).sum ≤ 8) (hcs : cells ≤ R.cells ∧ slots ≤ R.slots) (d : decode cc pc = .ok (.invokevirtual 77, 3)) (q : Nat) (hq : pc + 3 = q) (K : ∀ (r : Int32) S1, Q r S1 → J p l e R s m args below meth c cells slots Qf D 32 A (ceC A n cI cG cR) Acc nL S1 q L (.int r :: rest)) : J p l e R s m args below meth c cells slots Qf D 32 A (ceC A n cI cG cR) Acc nL S pc L (a2 :: a1 :: a0 :: .ref (A 1) :: rest) := r_callV C (ci := 1) (T := TX1) (nF := 13) 1 rest h (Nat.le_of_ble_eq_true rfl) (heC_1 (S 1)) rfl b_341 b_45 b_339 b_340 b_695 ⟨by decide +kernel, by decide +kernel, (show (parseMethodDescriptor yX1_newObject.desc).map (fun d => d.parameters.length) = some 3 by decide +kernel)⟩ hR rfl hcat hcs d q hq K
theorem b_699 : Cond.code yX2_change cX2_change 6 none ∈ BIG := List.mem_filter.mpr ⟨List.mem_of_getElem? (i := 699) (by decide +kernel), by decide +kernel⟩
theorem b_696 : Cond.methodLink RX2 84 yX2_change ∈ BIG := List.mem_filter.mpr ⟨List.mem_of_getElem? (i := 696) (by decide +kernel), by decide +kernel⟩
theorem b_698 : Cond.instanceMethod yX2_change ∈ BIG := List.mem_filter.mpr ⟨List.mem_of_getElem? (i := 698) (by decide +kernel), by decide +kernel⟩
theorem b_16 : Cond.selects RX2 yX2_change yX2_change ∈ BIG := List.mem_filter.mpr ⟨List.mem_of_getElem? (i := 16) (by decide +kernel), by decide +kernel⟩
theorem k_RX2_84 (C : Cx p s m args c cc nL RX2 D (tyC cI cG cR) 32 A X Acc)  {a0 a1 a2 a3 : Value} {Q : Unit → (Nat → Nat → Int32) → Prop} {fr lo : Nat} {rest : List Value} (h : Ct l D (tyC cI cG cR) 32 A (ceC A n cI cG cR) X yX2_change cX2_change 6 none fr lo [.ref (A 2), a0, a1, a2, a3] S rU Q) (hR : fr + 1 ≤ R.frames ∧ 8 + (6 + 11) + lo ≤ R.locals) (hcat : (rest.map fun v => v.category).sum ≤ 8) (hcs : cells ≤ R.cells ∧ slots ≤ R.slots) (d : decode cc pc = .ok (.invokevirtual 84, 3)) (q : Nat) (hq : pc + 3 = q) (K : ∀ S1, Q () S1 → J p l e R s m args below meth c cells slots Qf D 32 A (ceC A n cI cG cR) Acc nL S1 q L rest) : J p l e R s m args below meth c cells slots Qf D 32 A (ceC A n cI cG cR) Acc nL S pc L (a3 :: a2 :: a1 :: a0 :: .ref (A 2) :: rest) := r_callV C (ci := 2) (T := TX2) (nF := 6) 2 rest h (Nat.le_of_ble_eq_true rfl) (heC_2 (S 2)) rfl b_699 b_49 b_698 b_16 b_696 ⟨by decide +kernel, by decide +kernel, (show (parseMethodDescriptor yX2_change.desc).map (fun d => d.parameters.length) = some 4 by decide +kernel)⟩ hR rfl hcat hcs d q hq (fun _ => K)
theorem b_700 : Cond.methodLink RX2 92 yX1_rootOrNull ∈ BIG := List.mem_filter.mpr ⟨List.mem_of_getElem? (i := 700) (by decide +kernel), by decide +kernel⟩
theorem k_RX2_92 (C : Cx p s m args c cc nL RX2 D (tyC cI cG cR) 32 A X Acc)  {a0 : Value} {Q : Int32 → (Nat → Nat → Int32) → Prop} {fr lo : Nat} {rest : List Value} (h : Ct l D (tyC cI cG cR) 32 A (ceC A n cI cG cR) X yX1_rootOrNull cX1_rootOrNull 2 (some .int) fr lo [.ref (A 1), a0] S rI Q) (hR : fr + 1 ≤ R.frames ∧ 8 + (2 + 11) + lo ≤ R.locals) (hcat : (rest.map fun v => v.category).sum ≤ 8) (hcs : cells ≤ R.cells ∧ slots ≤ R.slots) (d : decode cc pc = .ok (.invokevirtual 92, 3)) (q : Nat) (hq : pc + 3 = q) (K : ∀ (r : Int32) S1, Q r S1 → J p l e R s m args below meth c cells slots Qf D 32 A (ceC A n cI cG cR) Acc nL S1 q L (.int r :: rest)) : J p l e R s m args below meth c cells slots Qf D 32 A (ceC A n cI cG cR) Acc nL S pc L (a0 :: .ref (A 1) :: rest) := r_callV C (ci := 1) (T := TX1) (nF := 13) 1 rest h (Nat.le_of_ble_eq_true rfl) (heC_1 (S 1)) rfl b_490 b_45 b_488 b_489 b_700 ⟨by decide +kernel, by decide +kernel, (show (parseMethodDescriptor yX1_rootOrNull.desc).map (fun d => d.parameters.length) = some 1 by decide +kernel)⟩ hR rfl hcat hcs d q hq K
theorem b_701 : Cond.methodLink RX2 96 yX1_store ∈ BIG := List.mem_filter.mpr ⟨List.mem_of_getElem? (i := 701) (by decide +kernel), by decide +kernel⟩
theorem k_RX2_96 (C : Cx p s m args c cc nL RX2 D (tyC cI cG cR) 32 A X Acc)  {a0 a1 a2 : Value} {Q : Unit → (Nat → Nat → Int32) → Prop} {fr lo : Nat} {rest : List Value} (h : Ct l D (tyC cI cG cR) 32 A (ceC A n cI cG cR) X yX1_store cX1_store 5 none fr lo [.ref (A 1), a0, a1, a2] S rU Q) (hR : fr + 1 ≤ R.frames ∧ 8 + (5 + 11) + lo ≤ R.locals) (hcat : (rest.map fun v => v.category).sum ≤ 8) (hcs : cells ≤ R.cells ∧ slots ≤ R.slots) (d : decode cc pc = .ok (.invokevirtual 96, 3)) (q : Nat) (hq : pc + 3 = q) (K : ∀ S1, Q () S1 → J p l e R s m args below meth c cells slots Qf D 32 A (ceC A n cI cG cR) Acc nL S1 q L rest) : J p l e R s m args below meth c cells slots Qf D 32 A (ceC A n cI cG cR) Acc nL S pc L (a2 :: a1 :: a0 :: .ref (A 1) :: rest) := r_callV C (ci := 1) (T := TX1) (nF := 13) 1 rest h (Nat.le_of_ble_eq_true rfl) (heC_1 (S 1)) rfl b_440 b_45 b_438 b_439 b_701 ⟨by decide +kernel, by decide +kernel, (show (parseMethodDescriptor yX1_store.desc).map (fun d => d.parameters.length) = some 3 by decide +kernel)⟩ hR rfl hcat hcs d q hq (fun _ => K)
theorem b_702 : Cond.methodLink RX2 100 yX1_fieldOf ∈ BIG := List.mem_filter.mpr ⟨List.mem_of_getElem? (i := 702) (by decide +kernel), by decide +kernel⟩
theorem k_RX2_100 (C : Cx p s m args c cc nL RX2 D (tyC cI cG cR) 32 A X Acc)  {a0 a1 : Value} {Q : Int32 → (Nat → Nat → Int32) → Prop} {fr lo : Nat} {rest : List Value} (h : Ct l D (tyC cI cG cR) 32 A (ceC A n cI cG cR) X yX1_fieldOf cX1_fieldOf 3 (some .int) fr lo [.ref (A 1), a0, a1] S rI Q) (hR : fr + 1 ≤ R.frames ∧ 8 + (3 + 11) + lo ≤ R.locals) (hcat : (rest.map fun v => v.category).sum ≤ 8) (hcs : cells ≤ R.cells ∧ slots ≤ R.slots) (d : decode cc pc = .ok (.invokevirtual 100, 3)) (q : Nat) (hq : pc + 3 = q) (K : ∀ (r : Int32) S1, Q r S1 → J p l e R s m args below meth c cells slots Qf D 32 A (ceC A n cI cG cR) Acc nL S1 q L (.int r :: rest)) : J p l e R s m args below meth c cells slots Qf D 32 A (ceC A n cI cG cR) Acc nL S pc L (a1 :: a0 :: .ref (A 1) :: rest) := r_callV C (ci := 1) (T := TX1) (nF := 13) 1 rest h (Nat.le_of_ble_eq_true rfl) (heC_1 (S 1)) rfl b_486 b_45 b_484 b_485 b_702 ⟨by decide +kernel, by decide +kernel, (show (parseMethodDescriptor yX1_fieldOf.desc).map (fun d => d.parameters.length) = some 2 by decide +kernel)⟩ hR rfl hcat hcs d q hq K
theorem b_703 : Cond.methodLink RX2 103 yX3_add ∈ BIG := List.mem_filter.mpr ⟨List.mem_of_getElem? (i := 703) (by decide +kernel), by decide +kernel⟩
theorem k_RX2_103 (C : Cx p s m args c cc nL RX2 D (tyC cI cG cR) 32 A X Acc) {k : Nat} (h0 : 6 ≤ k) (h1 : k < 16) {a0 : Value} {Q : Unit → (Nat → Nat → Int32) → Prop} {fr lo : Nat} {rest : List Value} (h : Ct l D (tyC cI cG cR) 32 A (ceC A n cI cG cR) X yX3_add cX3_add 2 none fr lo [.ref (A k), a0] S rU Q) (hR : fr + 1 ≤ R.frames ∧ 8 + (2 + 11) + lo ≤ R.locals) (hcat : (rest.map fun v => v.category).sum ≤ 8) (hcs : cells ≤ R.cells ∧ slots ≤ R.slots) (d : decode cc pc = .ok (.invokevirtual 103, 3)) (q : Nat) (hq : pc + 3 = q) (K : ∀ S1, Q () S1 → J p l e R s m args below meth c cells slots Qf D 32 A (ceC A n cI cG cR) Acc nL S1 q L rest) : J p l e R s m args below meth c cells slots Qf D 32 A (ceC A n cI cG cR) Acc nL S pc L (a0 :: .ref (A k) :: rest) := r_callV C (ci := 3) (T := TX3) (nF := 2) k rest h (by omega) (heC_3 h0 h1 (S k)) rfl b_369 b_47 b_367 b_368 b_703 ⟨by decide +kernel, by decide +kernel, (show (parseMethodDescriptor yX3_add.desc).map (fun d => d.parameters.length) = some 1 by decide +kernel)⟩ hR rfl hcat hcs d q hq (fun _ => K)
theorem b_704 : Cond.methodLink RX2 107 yX3_takeLast ∈ BIG := List.mem_filter.mpr ⟨List.mem_of_getElem? (i := 704) (by decide +kernel), by decide +kernel⟩
theorem k_RX2_107 (C : Cx p s m args c cc nL RX2 D (tyC cI cG cR) 32 A X Acc) {k : Nat} (h0 : 6 ≤ k) (h1 : k < 16) {Q : Int32 → (Nat → Nat → Int32) → Prop} {fr lo : Nat} {rest : List Value} (h : Ct l D (tyC cI cG cR) 32 A (ceC A n cI cG cR) X yX3_takeLast cX3_takeLast 1 (some .int) fr lo [.ref (A k)] S rI Q) (hR : fr + 1 ≤ R.frames ∧ 8 + (1 + 11) + lo ≤ R.locals) (hcat : (rest.map fun v => v.category).sum ≤ 8) (hcs : cells ≤ R.cells ∧ slots ≤ R.slots) (d : decode cc pc = .ok (.invokevirtual 107, 3)) (q : Nat) (hq : pc + 3 = q) (K : ∀ (r : Int32) S1, Q r S1 → J p l e R s m args below meth c cells slots Qf D 32 A (ceC A n cI cG cR) Acc nL S1 q L (.int r :: rest)) : J p l e R s m args below meth c cells slots Qf D 32 A (ceC A n cI cG cR) Acc nL S pc L (.ref (A k) :: rest) := r_callV C (ci := 3) (T := TX3) (nF := 2) k rest h (by omega) (heC_3 h0 h1 (S k)) rfl b_524 b_47 b_522 b_523 b_704 ⟨by decide +kernel, by decide +kernel, (show (parseMethodDescriptor yX3_takeLast.desc).map (fun d => d.parameters.length) = some 0 by decide +kernel)⟩ hR rfl hcat hcs d q hq K
theorem b_705 : Cond.methodLink RX2 111 yX1_labelOf ∈ BIG := List.mem_filter.mpr ⟨List.mem_of_getElem? (i := 705) (by decide +kernel), by decide +kernel⟩
theorem k_RX2_111 (C : Cx p s m args c cc nL RX2 D (tyC cI cG cR) 32 A X Acc)  {a0 : Value} {Q : Int32 → (Nat → Nat → Int32) → Prop} {fr lo : Nat} {rest : List Value} (h : Ct l D (tyC cI cG cR) 32 A (ceC A n cI cG cR) X yX1_labelOf cX1_labelOf 2 (some .int) fr lo [.ref (A 1), a0] S rI Q) (hR : fr + 1 ≤ R.frames ∧ 8 + (2 + 11) + lo ≤ R.locals) (hcat : (rest.map fun v => v.category).sum ≤ 8) (hcs : cells ≤ R.cells ∧ slots ≤ R.slots) (d : decode cc pc = .ok (.invokevirtual 111, 3)) (q : Nat) (hq : pc + 3 = q) (K : ∀ (r : Int32) S1, Q r S1 → J p l e R s m args below meth c cells slots Qf D 32 A (ceC A n cI cG cR) Acc nL S1 q L (.int r :: rest)) : J p l e R s m args below meth c cells slots Qf D 32 A (ceC A n cI cG cR) Acc nL S pc L (a0 :: .ref (A 1) :: rest) := r_callV C (ci := 1) (T := TX1) (nF := 13) 1 rest h (Nat.le_of_ble_eq_true rfl) (heC_1 (S 1)) rfl b_585 b_45 b_583 b_584 b_705 ⟨by decide +kernel, by decide +kernel, (show (parseMethodDescriptor yX1_labelOf.desc).map (fun d => d.parameters.length) = some 1 by decide +kernel)⟩ hR rfl hcat hcs d q hq K
theorem b_709 : Cond.code yX2_goesOnAt cX2_goesOnAt 6 (some .int) ∈ BIG := List.mem_filter.mpr ⟨List.mem_of_getElem? (i := 709) (by decide +kernel), by decide +kernel⟩
theorem b_706 : Cond.methodLink RX2 88 yX2_goesOnAt ∈ BIG := List.mem_filter.mpr ⟨List.mem_of_getElem? (i := 706) (by decide +kernel), by decide +kernel⟩
theorem b_708 : Cond.instanceMethod yX2_goesOnAt ∈ BIG := List.mem_filter.mpr ⟨List.mem_of_getElem? (i := 708) (by decide +kernel), by decide +kernel⟩
theorem b_17 : Cond.selects RX2 yX2_goesOnAt yX2_goesOnAt ∈ BIG := List.mem_filter.mpr ⟨List.mem_of_getElem? (i := 17) (by decide +kernel), by decide +kernel⟩
theorem k_RX2_88 (C : Cx p s m args c cc nL RX2 D (tyC cI cG cR) 32 A X Acc)  {a0 a1 a2 a3 : Value} {Q : Int32 → (Nat → Nat → Int32) → Prop} {fr lo : Nat} {rest : List Value} (h : Ct l D (tyC cI cG cR) 32 A (ceC A n cI cG cR) X yX2_goesOnAt cX2_goesOnAt 6 (some .int) fr lo [.ref (A 2), a0, a1, a2, a3] S rI Q) (hR : fr + 1 ≤ R.frames ∧ 8 + (6 + 11) + lo ≤ R.locals) (hcat : (rest.map fun v => v.category).sum ≤ 8) (hcs : cells ≤ R.cells ∧ slots ≤ R.slots) (d : decode cc pc = .ok (.invokevirtual 88, 3)) (q : Nat) (hq : pc + 3 = q) (K : ∀ (r : Int32) S1, Q r S1 → J p l e R s m args below meth c cells slots Qf D 32 A (ceC A n cI cG cR) Acc nL S1 q L (.int r :: rest)) : J p l e R s m args below meth c cells slots Qf D 32 A (ceC A n cI cG cR) Acc nL S pc L (a3 :: a2 :: a1 :: a0 :: .ref (A 2) :: rest) := r_callV C (ci := 2) (T := TX2) (nF := 6) 2 rest h (Nat.le_of_ble_eq_true rfl) (heC_2 (S 2)) rfl b_709 b_49 b_708 b_17 b_706 ⟨by decide +kernel, by decide +kernel, (show (parseMethodDescriptor yX2_goesOnAt.desc).map (fun d => d.parameters.length) = some 4 by decide +kernel)⟩ hR rfl hcat hcs d q hq K
theorem b_721 : Cond.code yX1_countOf cX1_countOf 3 (some .int) ∈ BIG := List.mem_filter.mpr ⟨List.mem_of_getElem? (i := 721) (by decide +kernel), by decide +kernel⟩
theorem b_718 : Cond.methodLink RX4 167 yX1_countOf ∈ BIG := List.mem_filter.mpr ⟨List.mem_of_getElem? (i := 718) (by decide +kernel), by decide +kernel⟩
theorem b_719 : Cond.instanceMethod yX1_countOf ∈ BIG := List.mem_filter.mpr ⟨List.mem_of_getElem? (i := 719) (by decide +kernel), by decide +kernel⟩
theorem b_720 : Cond.selects RX1 yX1_countOf yX1_countOf ∈ BIG := List.mem_filter.mpr ⟨List.mem_of_getElem? (i := 720) (by decide +kernel), by decide +kernel⟩
theorem k_RX4_167 (C : Cx p s m args c cc nL RX4 D (tyC cI cG cR) 32 A X Acc)  {a0 : Value} {Q : Int32 → (Nat → Nat → Int32) → Prop} {fr lo : Nat} {rest : List Value} (h : Ct l D (tyC cI cG cR) 32 A (ceC A n cI cG cR) X yX1_countOf cX1_countOf 3 (some .int) fr lo [.ref (A 1), a0] S rI Q) (hR : fr + 1 ≤ R.frames ∧ 8 + (3 + 11) + lo ≤ R.locals) (hcat : (rest.map fun v => v.category).sum ≤ 8) (hcs : cells ≤ R.cells ∧ slots ≤ R.slots) (d : decode cc pc = .ok (.invokevirtual 167, 3)) (q : Nat) (hq : pc + 3 = q) (K : ∀ (r : Int32) S1, Q r S1 → J p l e R s m args below meth c cells slots Qf D 32 A (ceC A n cI cG cR) Acc nL S1 q L (.int r :: rest)) : J p l e R s m args below meth c cells slots Qf D 32 A (ceC A n cI cG cR) Acc nL S pc L (a0 :: .ref (A 1) :: rest) := r_callV C (ci := 1) (T := TX1) (nF := 13) 1 rest h (Nat.le_of_ble_eq_true rfl) (heC_1 (S 1)) rfl b_721 b_45 b_719 b_720 b_718 ⟨by decide +kernel, by decide +kernel, (show (parseMethodDescriptor yX1_countOf.desc).map (fun d => d.parameters.length) = some 1 by decide +kernel)⟩ hR rfl hcat hcs d q hq K
theorem b_722 : Cond.methodLink RX1 93 yX1_rowOf ∈ BIG := List.mem_filter.mpr ⟨List.mem_of_getElem? (i := 722) (by decide +kernel), by decide +kernel⟩
theorem k_RX1_93 (C : Cx p s m args c cc nL RX1 D (tyC cI cG cR) 32 A X Acc)  {a0 : Value} {Q : Option Nat → (Nat → Nat → Int32) → Prop} {fr lo : Nat} {rest : List Value} (h : Ct l D (tyC cI cG cR) 32 A (ceC A n cI cG cR) X yX1_rowOf cX1_rowOf 2 (some (.object "StoreNotes$Row")) fr lo [.ref (A 1), a0] S (rO A 0) Q) (hR : fr + 1 ≤ R.frames ∧ 8 + (2 + 11) + lo ≤ R.locals) (hcat : (rest.map fun v => v.category).sum ≤ 8) (hcs : cells ≤ R.cells ∧ slots ≤ R.slots) (d : decode cc pc = .ok (.invokevirtual 93, 3)) (q : Nat) (hq : pc + 3 = q) (K : ∀ (o : Option Nat) S1, Q o S1 → J p l e R s m args below meth c cells slots Qf D 32 A (ceC A n cI cG cR) Acc nL S1 q L (rO' A 0 o :: rest)) : J p l e R s m args below meth c cells slots Qf D 32 A (ceC A n cI cG cR) Acc nL S pc L (a0 :: .ref (A 1) :: rest) := r_callV C (ci := 1) (T := TX1) (nF := 13) 1 rest h (Nat.le_of_ble_eq_true rfl) (heC_1 (S 1)) rfl b_612 b_45 b_610 b_611 b_722 ⟨by decide +kernel, by decide +kernel, (show (parseMethodDescriptor yX1_rowOf.desc).map (fun d => d.parameters.length) = some 1 by decide +kernel)⟩ hR rfl hcat hcs d q hq K
theorem b_731 : Cond.code yX5_near cX5_near 3 (some .int) ∈ BIG := List.mem_filter.mpr ⟨List.mem_of_getElem? (i := 731) (by decide +kernel), by decide +kernel⟩
theorem b_50 : Cond.initialized RX5 ∈ BIG := List.mem_filter.mpr ⟨List.mem_of_getElem? (i := 50) (by decide +kernel), by decide +kernel⟩
theorem b_729 : Cond.methodLink RX5 76 yX5_near ∈ BIG := List.mem_filter.mpr ⟨List.mem_of_getElem? (i := 729) (by decide +kernel), by decide +kernel⟩
theorem b_730 : Cond.static yX5_near ∈ BIG := List.mem_filter.mpr ⟨List.mem_of_getElem? (i := 730) (by decide +kernel), by decide +kernel⟩
theorem k_RX5_76 (C : Cx p s m args c cc nL RX5 D (tyM cI) 23 A X Acc)  {a0 a1 a2 : Value} {Q : Int32 → (Nat → Nat → Int32) → Prop} {fr lo : Nat} {rest : List Value} (h : Ct l D (tyM cI) 23 A (ceM A cI) X yX5_near cX5_near 3 (some .int) fr lo [a0, a1, a2] S rI Q) (hR : fr + 1 ≤ R.frames ∧ 8 + (3 + 11) + lo ≤ R.locals) (hcat : (rest.map fun v => v.category).sum ≤ 8) (hcs : cells ≤ R.cells ∧ slots ≤ R.slots) (d : decode cc pc = .ok (.invokestatic 76, 3)) (q : Nat) (hq : pc + 3 = q) (K : ∀ (r : Int32) S1, Q r S1 → J p l e R s m args below meth c cells slots Qf D 23 A (ceM A cI) Acc nL S1 q L (.int r :: rest)) : J p l e R s m args below meth c cells slots Qf D 23 A (ceM A cI) Acc nL S pc L (a2 :: a1 :: a0 :: rest) := r_callS C rest h b_731 b_50 b_730 b_729 ⟨by decide +kernel, by decide +kernel, (show (parseMethodDescriptor yX5_near.desc).map (fun d => d.parameters.length) = some 3 by decide +kernel)⟩ hR rfl hcat hcs d q hq K
theorem b_854 : Cond.code yX5_isRoot cX5_isRoot 1 (some .boolean) ∈ BIG := List.mem_filter.mpr ⟨List.mem_of_getElem? (i := 854) (by decide +kernel), by decide +kernel⟩
theorem b_852 : Cond.methodLink RX5 175 yX5_isRoot ∈ BIG := List.mem_filter.mpr ⟨List.mem_of_getElem? (i := 852) (by decide +kernel), by decide +kernel⟩
theorem b_853 : Cond.static yX5_isRoot ∈ BIG := List.mem_filter.mpr ⟨List.mem_of_getElem? (i := 853) (by decide +kernel), by decide +kernel⟩
theorem k_RX5_175 (C : Cx p s m args c cc nL RX5 D (tyM cI) 23 A X Acc)  {a0 : Value} {Q : Bool → (Nat → Nat → Int32) → Prop} {fr lo : Nat} {rest : List Value} (h : Ct l D (tyM cI) 23 A (ceM A cI) X yX5_isRoot cX5_isRoot 1 (some .boolean) fr lo [a0] S rZ Q) (hR : fr + 1 ≤ R.frames ∧ 8 + (1 + 11) + lo ≤ R.locals) (hcat : (rest.map fun v => v.category).sum ≤ 8) (hcs : cells ≤ R.cells ∧ slots ≤ R.slots) (d : decode cc pc = .ok (.invokestatic 175, 3)) (q : Nat) (hq : pc + 3 = q) (K : ∀ (r : Bool) S1, Q r S1 → J p l e R s m args below meth c cells slots Qf D 23 A (ceM A cI) Acc nL S1 q L (.int (bI r) :: rest)) : J p l e R s m args below meth c cells slots Qf D 23 A (ceM A cI) Acc nL S pc L (a0 :: rest) := r_callS C rest h b_854 b_50 b_853 b_852 ⟨by decide +kernel, by decide +kernel, (show (parseMethodDescriptor yX5_isRoot.desc).map (fun d => d.parameters.length) = some 1 by decide +kernel)⟩ hR rfl hcat hcs d q hq K
theorem b_857 : Cond.code yX5_in cX5_in 3 (some .boolean) ∈ BIG := List.mem_filter.mpr ⟨List.mem_of_getElem? (i := 857) (by decide +kernel), by decide +kernel⟩
theorem b_855 : Cond.methodLink RX5 90 yX5_in ∈ BIG := List.mem_filter.mpr ⟨List.mem_of_getElem? (i := 855) (by decide +kernel), by decide +kernel⟩
theorem b_856 : Cond.static yX5_in ∈ BIG := List.mem_filter.mpr ⟨List.mem_of_getElem? (i := 856) (by decide +kernel), by decide +kernel⟩
theorem k_RX5_90 (C : Cx p s m args c cc nL RX5 D (tyM cI) 23 A X Acc)  {a0 a1 a2 : Value} {Q : Bool → (Nat → Nat → Int32) → Prop} {fr lo : Nat} {rest : List Value} (h : Ct l D (tyM cI) 23 A (ceM A cI) X yX5_in cX5_in 3 (some .boolean) fr lo [a0, a1, a2] S rZ Q) (hR : fr + 1 ≤ R.frames ∧ 8 + (3 + 11) + lo ≤ R.locals) (hcat : (rest.map fun v => v.category).sum ≤ 8) (hcs : cells ≤ R.cells ∧ slots ≤ R.slots) (d : decode cc pc = .ok (.invokestatic 90, 3)) (q : Nat) (hq : pc + 3 = q) (K : ∀ (r : Bool) S1, Q r S1 → J p l e R s m args below meth c cells slots Qf D 23 A (ceM A cI) Acc nL S1 q L (.int (bI r) :: rest)) : J p l e R s m args below meth c cells slots Qf D 23 A (ceM A cI) Acc nL S pc L (a2 :: a1 :: a0 :: rest) := r_callS C rest h b_857 b_50 b_856 b_855 ⟨by decide +kernel, by decide +kernel, (show (parseMethodDescriptor yX5_in.desc).map (fun d => d.parameters.length) = some 3 by decide +kernel)⟩ hR rfl hcat hcs d q hq K
theorem b_861 : Cond.code yX5_object cX5_object 6 (some .int) ∈ BIG := List.mem_filter.mpr ⟨List.mem_of_getElem? (i := 861) (by decide +kernel), by decide +kernel⟩
theorem b_858 : Cond.methodLink RX5 178 yX5_object ∈ BIG := List.mem_filter.mpr ⟨List.mem_of_getElem? (i := 858) (by decide +kernel), by decide +kernel⟩
theorem b_860 : Cond.instanceMethod yX5_object ∈ BIG := List.mem_filter.mpr ⟨List.mem_of_getElem? (i := 860) (by decide +kernel), by decide +kernel⟩
theorem b_18 : Cond.selects RX5 yX5_object yX5_object ∈ BIG := List.mem_filter.mpr ⟨List.mem_of_getElem? (i := 18) (by decide +kernel), by decide +kernel⟩
theorem k_RX5_178 (C : Cx p s m args c cc nL RX5 D (tyM cI) 23 A X Acc)  {a0 a1 a2 : Value} {Q : Int32 → (Nat → Nat → Int32) → Prop} {fr lo : Nat} {rest : List Value} (h : Ct l D (tyM cI) 23 A (ceM A cI) X yX5_object cX5_object 6 (some .int) fr lo [.ref (A 0), a0, a1, a2] S rI Q) (hR : fr + 1 ≤ R.frames ∧ 8 + (6 + 11) + lo ≤ R.locals) (hcat : (rest.map fun v => v.category).sum ≤ 8) (hcs : cells ≤ R.cells ∧ slots ≤ R.slots) (d : decode cc pc = .ok (.invokevirtual 178, 3)) (q : Nat) (hq : pc + 3 = q) (K : ∀ (r : Int32) S1, Q r S1 → J p l e R s m args below meth c cells slots Qf D 23 A (ceM A cI) Acc nL S1 q L (.int r :: rest)) : J p l e R s m args below meth c cells slots Qf D 23 A (ceM A cI) Acc nL S pc L (a2 :: a1 :: a0 :: .ref (A 0) :: rest) := r_callV C (ci := 5) (T := TX5) (nF := 37) 0 rest h (Nat.le_of_ble_eq_true rfl) (heM_o (S 0)) rfl b_861 b_50 b_860 b_18 b_858 ⟨by decide +kernel, by decide +kernel, (show (parseMethodDescriptor yX5_object.desc).map (fun d => d.parameters.length) = some 3 by decide +kernel)⟩ hR rfl hcat hcs d q hq K
theorem b_865 : Cond.code yX5_size cX5_size 2 (some .int) ∈ BIG := List.mem_filter.mpr ⟨List.mem_of_getElem? (i := 865) (by decide +kernel), by decide +kernel⟩
theorem b_862 : Cond.methodLink RX5 94 yX5_size ∈ BIG := List.mem_filter.mpr ⟨List.mem_of_getElem? (i := 862) (by decide +kernel), by decide +kernel⟩
theorem b_864 : Cond.instanceMethod yX5_size ∈ BIG := List.mem_filter.mpr ⟨List.mem_of_getElem? (i := 864) (by decide +kernel), by decide +kernel⟩
theorem b_19 : Cond.selects RX5 yX5_size yX5_size ∈ BIG := List.mem_filter.mpr ⟨List.mem_of_getElem? (i := 19) (by decide +kernel), by decide +kernel⟩
theorem k_RX5_94 (C : Cx p s m args c cc nL RX5 D (tyM cI) 23 A X Acc)  {a0 : Value} {Q : Int32 → (Nat → Nat → Int32) → Prop} {fr lo : Nat} {rest : List Value} (h : Ct l D (tyM cI) 23 A (ceM A cI) X yX5_size cX5_size 2 (some .int) fr lo [.ref (A 0), a0] S rI Q) (hR : fr + 1 ≤ R.frames ∧ 8 + (2 + 11) + lo ≤ R.locals) (hcat : (rest.map fun v => v.category).sum ≤ 8) (hcs : cells ≤ R.cells ∧ slots ≤ R.slots) (d : decode cc pc = .ok (.invokevirtual 94, 3)) (q : Nat) (hq : pc + 3 = q) (K : ∀ (r : Int32) S1, Q r S1 → J p l e R s m args below meth c cells slots Qf D 23 A (ceM A cI) Acc nL S1 q L (.int r :: rest)) : J p l e R s m args below meth c cells slots Qf D 23 A (ceM A cI) Acc nL S pc L (a0 :: .ref (A 0) :: rest) := r_callV C (ci := 5) (T := TX5) (nF := 37) 0 rest h (Nat.le_of_ble_eq_true rfl) (heM_o (S 0)) rfl b_865 b_50 b_864 b_19 b_862 ⟨by decide +kernel, by decide +kernel, (show (parseMethodDescriptor yX5_size.desc).map (fun d => d.parameters.length) = some 1 by decide +kernel)⟩ hR rfl hcat hcs d q hq K
theorem b_869 : Cond.code yX5_gather cX5_gather 4 (some .int) ∈ BIG := List.mem_filter.mpr ⟨List.mem_of_getElem? (i := 869) (by decide +kernel), by decide +kernel⟩
theorem b_866 : Cond.methodLink RX5 172 yX5_gather ∈ BIG := List.mem_filter.mpr ⟨List.mem_of_getElem? (i := 866) (by decide +kernel), by decide +kernel⟩
theorem b_868 : Cond.instanceMethod yX5_gather ∈ BIG := List.mem_filter.mpr ⟨List.mem_of_getElem? (i := 868) (by decide +kernel), by decide +kernel⟩
theorem b_20 : Cond.selects RX5 yX5_gather yX5_gather ∈ BIG := List.mem_filter.mpr ⟨List.mem_of_getElem? (i := 20) (by decide +kernel), by decide +kernel⟩
theorem k_RX5_172 (C : Cx p s m args c cc nL RX5 D (tyM cI) 23 A X Acc)  {a0 : Value} {Q : Int32 → (Nat → Nat → Int32) → Prop} {fr lo : Nat} {rest : List Value} (h : Ct l D (tyM cI) 23 A (ceM A cI) X yX5_gather cX5_gather 4 (some .int) fr lo [.ref (A 0), a0] S rI Q) (hR : fr + 1 ≤ R.frames ∧ 8 + (4 + 11) + lo ≤ R.locals) (hcat : (rest.map fun v => v.category).sum ≤ 8) (hcs : cells ≤ R.cells ∧ slots ≤ R.slots) (d : decode cc pc = .ok (.invokevirtual 172, 3)) (q : Nat) (hq : pc + 3 = q) (K : ∀ (r : Int32) S1, Q r S1 → J p l e R s m args below meth c cells slots Qf D 23 A (ceM A cI) Acc nL S1 q L (.int r :: rest)) : J p l e R s m args below meth c cells slots Qf D 23 A (ceM A cI) Acc nL S pc L (a0 :: .ref (A 0) :: rest) := r_callV C (ci := 5) (T := TX5) (nF := 37) 0 rest h (Nat.le_of_ble_eq_true rfl) (heM_o (S 0)) rfl b_869 b_50 b_868 b_20 b_866 ⟨by decide +kernel, by decide +kernel, (show (parseMethodDescriptor yX5_gather.desc).map (fun d => d.parameters.length) = some 1 by decide +kernel)⟩ hR rfl hcat hcs d q hq K
theorem b_873 : Cond.code yX5_filter cX5_filter 2 none ∈ BIG := List.mem_filter.mpr ⟨List.mem_of_getElem? (i := 873) (by decide +kernel), by decide +kernel⟩
theorem b_870 : Cond.methodLink RX5 115 yX5_filter ∈ BIG := List.mem_filter.mpr ⟨List.mem_of_getElem? (i := 870) (by decide +kernel), by decide +kernel⟩
theorem b_872 : Cond.instanceMethod yX5_filter ∈ BIG := List.mem_filter.mpr ⟨List.mem_of_getElem? (i := 872) (by decide +kernel), by decide +kernel⟩
theorem b_21 : Cond.selects RX5 yX5_filter yX5_filter ∈ BIG := List.mem_filter.mpr ⟨List.mem_of_getElem? (i := 21) (by decide +kernel), by decide +kernel⟩
theorem k_RX5_115 (C : Cx p s m args c cc nL RX5 D (tyM cI) 23 A X Acc)  {Q : Unit → (Nat → Nat → Int32) → Prop} {fr lo : Nat} {rest : List Value} (h : Ct l D (tyM cI) 23 A (ceM A cI) X yX5_filter cX5_filter 2 none fr lo [.ref (A 0)] S rU Q) (hR : fr + 1 ≤ R.frames ∧ 8 + (2 + 11) + lo ≤ R.locals) (hcat : (rest.map fun v => v.category).sum ≤ 8) (hcs : cells ≤ R.cells ∧ slots ≤ R.slots) (d : decode cc pc = .ok (.invokevirtual 115, 3)) (q : Nat) (hq : pc + 3 = q) (K : ∀ S1, Q () S1 → J p l e R s m args below meth c cells slots Qf D 23 A (ceM A cI) Acc nL S1 q L rest) : J p l e R s m args below meth c cells slots Qf D 23 A (ceM A cI) Acc nL S pc L (.ref (A 0) :: rest) := r_callV C (ci := 5) (T := TX5) (nF := 37) 0 rest h (Nat.le_of_ble_eq_true rfl) (heM_o (S 0)) rfl b_873 b_50 b_872 b_21 b_870 ⟨by decide +kernel, by decide +kernel, (show (parseMethodDescriptor yX5_filter.desc).map (fun d => d.parameters.length) = some 0 by decide +kernel)⟩ hR rfl hcat hcs d q hq (fun _ => K)
theorem b_877 : Cond.code yX5_rememberIf cX5_rememberIf 3 none ∈ BIG := List.mem_filter.mpr ⟨List.mem_of_getElem? (i := 877) (by decide +kernel), by decide +kernel⟩
theorem b_874 : Cond.methodLink RX5 108 yX5_rememberIf ∈ BIG := List.mem_filter.mpr ⟨List.mem_of_getElem? (i := 874) (by decide +kernel), by decide +kernel⟩
theorem b_876 : Cond.instanceMethod yX5_rememberIf ∈ BIG := List.mem_filter.mpr ⟨List.mem_of_getElem? (i := 876) (by decide +kernel), by decide +kernel⟩
theorem b_22 : Cond.selects RX5 yX5_rememberIf yX5_rememberIf ∈ BIG := List.mem_filter.mpr ⟨List.mem_of_getElem? (i := 22) (by decide +kernel), by decide +kernel⟩
theorem k_RX5_108 (C : Cx p s m args c cc nL RX5 D (tyM cI) 23 A X Acc)  {a0 : Value} {Q : Unit → (Nat → Nat → Int32) → Prop} {fr lo : Nat} {rest : List Value} (h : Ct l D (tyM cI) 23 A (ceM A cI) X yX5_rememberIf cX5_rememberIf 3 none fr lo [.ref (A 0), a0] S rU Q) (hR : fr + 1 ≤ R.frames ∧ 8 + (3 + 11) + lo ≤ R.locals) (hcat : (rest.map fun v => v.category).sum ≤ 8) (hcs : cells ≤ R.cells ∧ slots ≤ R.slots) (d : decode cc pc = .ok (.invokevirtual 108, 3)) (q : Nat) (hq : pc + 3 = q) (K : ∀ S1, Q () S1 → J p l e R s m args below meth c cells slots Qf D 23 A (ceM A cI) Acc nL S1 q L rest) : J p l e R s m args below meth c cells slots Qf D 23 A (ceM A cI) Acc nL S pc L (a0 :: .ref (A 0) :: rest) := r_callV C (ci := 5) (T := TX5) (nF := 37) 0 rest h (Nat.le_of_ble_eq_true rfl) (heM_o (S 0)) rfl b_877 b_50 b_876 b_22 b_874 ⟨by decide +kernel, by decide +kernel, (show (parseMethodDescriptor yX5_rememberIf.desc).map (fun d => d.parameters.length) = some 1 by decide +kernel)⟩ hR rfl hcat hcs d q hq (fun _ => K)
theorem b_881 : Cond.code yX5_generation cX5_generation 2 (some .int) ∈ BIG := List.mem_filter.mpr ⟨List.mem_of_getElem? (i := 881) (by decide +kernel), by decide +kernel⟩
theorem b_878 : Cond.methodLink RX5 98 yX5_generation ∈ BIG := List.mem_filter.mpr ⟨List.mem_of_getElem? (i := 878) (by decide +kernel), by decide +kernel⟩
theorem b_880 : Cond.instanceMethod yX5_generation ∈ BIG := List.mem_filter.mpr ⟨List.mem_of_getElem? (i := 880) (by decide +kernel), by decide +kernel⟩
theorem b_23 : Cond.selects RX5 yX5_generation yX5_generation ∈ BIG := List.mem_filter.mpr ⟨List.mem_of_getElem? (i := 23) (by decide +kernel), by decide +kernel⟩
theorem k_RX5_98 (C : Cx p s m args c cc nL RX5 D (tyM cI) 23 A X Acc)  {a0 : Value} {Q : Int32 → (Nat → Nat → Int32) → Prop} {fr lo : Nat} {rest : List Value} (h : Ct l D (tyM cI) 23 A (ceM A cI) X yX5_generation cX5_generation 2 (some .int) fr lo [.ref (A 0), a0] S rI Q) (hR : fr + 1 ≤ R.frames ∧ 8 + (2 + 11) + lo ≤ R.locals) (hcat : (rest.map fun v => v.category).sum ≤ 8) (hcs : cells ≤ R.cells ∧ slots ≤ R.slots) (d : decode cc pc = .ok (.invokevirtual 98, 3)) (q : Nat) (hq : pc + 3 = q) (K : ∀ (r : Int32) S1, Q r S1 → J p l e R s m args below meth c cells slots Qf D 23 A (ceM A cI) Acc nL S1 q L (.int r :: rest)) : J p l e R s m args below meth c cells slots Qf D 23 A (ceM A cI) Acc nL S pc L (a0 :: .ref (A 0) :: rest) := r_callV C (ci := 5) (T := TX5) (nF := 37) 0 rest h (Nat.le_of_ble_eq_true rfl) (heM_o (S 0)) rfl b_881 b_50 b_880 b_23 b_878 ⟨by decide +kernel, by decide +kernel, (show (parseMethodDescriptor yX5_generation.desc).map (fun d => d.parameters.length) = some 1 by decide +kernel)⟩ hR rfl hcat hcs d q hq K
theorem b_885 : Cond.code yX5_remember cX5_remember 4 none ∈ BIG := List.mem_filter.mpr ⟨List.mem_of_getElem? (i := 885) (by decide +kernel), by decide +kernel⟩
theorem b_882 : Cond.methodLink RX5 101 yX5_remember ∈ BIG := List.mem_filter.mpr ⟨List.mem_of_getElem? (i := 882) (by decide +kernel), by decide +kernel⟩
theorem b_884 : Cond.instanceMethod yX5_remember ∈ BIG := List.mem_filter.mpr ⟨List.mem_of_getElem? (i := 884) (by decide +kernel), by decide +kernel⟩
theorem b_24 : Cond.selects RX5 yX5_remember yX5_remember ∈ BIG := List.mem_filter.mpr ⟨List.mem_of_getElem? (i := 24) (by decide +kernel), by decide +kernel⟩
theorem k_RX5_101 (C : Cx p s m args c cc nL RX5 D (tyM cI) 23 A X Acc)  {a0 a1 : Value} {Q : Unit → (Nat → Nat → Int32) → Prop} {fr lo : Nat} {rest : List Value} (h : Ct l D (tyM cI) 23 A (ceM A cI) X yX5_remember cX5_remember 4 none fr lo [.ref (A 0), a0, a1] S rU Q) (hR : fr + 1 ≤ R.frames ∧ 8 + (4 + 11) + lo ≤ R.locals) (hcat : (rest.map fun v => v.category).sum ≤ 8) (hcs : cells ≤ R.cells ∧ slots ≤ R.slots) (d : decode cc pc = .ok (.invokevirtual 101, 3)) (q : Nat) (hq : pc + 3 = q) (K : ∀ S1, Q () S1 → J p l e R s m args below meth c cells slots Qf D 23 A (ceM A cI) Acc nL S1 q L rest) : J p l e R s m args below meth c cells slots Qf D 23 A (ceM A cI) Acc nL S pc L (a1 :: a0 :: .ref (A 0) :: rest) := r_callV C (ci := 5) (T := TX5) (nF := 37) 0 rest h (Nat.le_of_ble_eq_true rfl) (heM_o (S 0)) rfl b_885 b_50 b_884 b_24 b_882 ⟨by decide +kernel, by decide +kernel, (show (parseMethodDescriptor yX5_remember.desc).map (fun d => d.parameters.length) = some 2 by decide +kernel)⟩ hR rfl hcat hcs d q hq (fun _ => K)
theorem b_889 : Cond.code yX5_begin cX5_begin 3 (some .int) ∈ BIG := List.mem_filter.mpr ⟨List.mem_of_getElem? (i := 889) (by decide +kernel), by decide +kernel⟩
theorem b_886 : Cond.methodLink RX5 131 yX5_begin ∈ BIG := List.mem_filter.mpr ⟨List.mem_of_getElem? (i := 886) (by decide +kernel), by decide +kernel⟩
theorem b_888 : Cond.instanceMethod yX5_begin ∈ BIG := List.mem_filter.mpr ⟨List.mem_of_getElem? (i := 888) (by decide +kernel), by decide +kernel⟩
theorem b_25 : Cond.selects RX5 yX5_begin yX5_begin ∈ BIG := List.mem_filter.mpr ⟨List.mem_of_getElem? (i := 25) (by decide +kernel), by decide +kernel⟩
theorem k_RX5_131 (C : Cx p s m args c cc nL RX5 D (tyM cI) 23 A X Acc)  {a0 a1 : Value} {Q : Int32 → (Nat → Nat → Int32) → Prop} {fr lo : Nat} {rest : List Value} (h : Ct l D (tyM cI) 23 A (ceM A cI) X yX5_begin cX5_begin 3 (some .int) fr lo [.ref (A 0), a0, a1] S rI Q) (hR : fr + 1 ≤ R.frames ∧ 8 + (3 + 11) + lo ≤ R.locals) (hcat : (rest.map fun v => v.category).sum ≤ 8) (hcs : cells ≤ R.cells ∧ slots ≤ R.slots) (d : decode cc pc = .ok (.invokevirtual 131, 3)) (q : Nat) (hq : pc + 3 = q) (K : ∀ (r : Int32) S1, Q r S1 → J p l e R s m args below meth c cells slots Qf D 23 A (ceM A cI) Acc nL S1 q L (.int r :: rest)) : J p l e R s m args below meth c cells slots Qf D 23 A (ceM A cI) Acc nL S pc L (a1 :: a0 :: .ref (A 0) :: rest) := r_callV C (ci := 5) (T := TX5) (nF := 37) 0 rest h (Nat.le_of_ble_eq_true rfl) (heM_o (S 0)) rfl b_889 b_50 b_888 b_25 b_886 ⟨by decide +kernel, by decide +kernel, (show (parseMethodDescriptor yX5_begin.desc).map (fun d => d.parameters.length) = some 2 by decide +kernel)⟩ hR rfl hcat hcs d q hq K
theorem b_893 : Cond.code yX5_bring cX5_bring 2 (some .int) ∈ BIG := List.mem_filter.mpr ⟨List.mem_of_getElem? (i := 893) (by decide +kernel), by decide +kernel⟩
theorem b_890 : Cond.methodLink RX5 148 yX5_bring ∈ BIG := List.mem_filter.mpr ⟨List.mem_of_getElem? (i := 890) (by decide +kernel), by decide +kernel⟩
theorem b_892 : Cond.instanceMethod yX5_bring ∈ BIG := List.mem_filter.mpr ⟨List.mem_of_getElem? (i := 892) (by decide +kernel), by decide +kernel⟩
theorem b_26 : Cond.selects RX5 yX5_bring yX5_bring ∈ BIG := List.mem_filter.mpr ⟨List.mem_of_getElem? (i := 26) (by decide +kernel), by decide +kernel⟩
theorem k_RX5_148 (C : Cx p s m args c cc nL RX5 D (tyM cI) 23 A X Acc)  {a0 : Value} {Q : Int32 → (Nat → Nat → Int32) → Prop} {fr lo : Nat} {rest : List Value} (h : Ct l D (tyM cI) 23 A (ceM A cI) X yX5_bring cX5_bring 2 (some .int) fr lo [.ref (A 0), a0] S rI Q) (hR : fr + 1 ≤ R.frames ∧ 8 + (2 + 11) + lo ≤ R.locals) (hcat : (rest.map fun v => v.category).sum ≤ 8) (hcs : cells ≤ R.cells ∧ slots ≤ R.slots) (d : decode cc pc = .ok (.invokevirtual 148, 3)) (q : Nat) (hq : pc + 3 = q) (K : ∀ (r : Int32) S1, Q r S1 → J p l e R s m args below meth c cells slots Qf D 23 A (ceM A cI) Acc nL S1 q L (.int r :: rest)) : J p l e R s m args below meth c cells slots Qf D 23 A (ceM A cI) Acc nL S pc L (a0 :: .ref (A 0) :: rest) := r_callV C (ci := 5) (T := TX5) (nF := 37) 0 rest h (Nat.le_of_ble_eq_true rfl) (heM_o (S 0)) rfl b_893 b_50 b_892 b_26 b_890 ⟨by decide +kernel, by decide +kernel, (show (parseMethodDescriptor yX5_bring.desc).map (fun d => d.parameters.length) = some 1 by decide +kernel)⟩ hR rfl hcat hcs d q hq K
theorem b_897 : Cond.code yX5_isFrom cX5_isFrom 3 (some .boolean) ∈ BIG := List.mem_filter.mpr ⟨List.mem_of_getElem? (i := 897) (by decide +kernel), by decide +kernel⟩
theorem b_894 : Cond.methodLink RX5 141 yX5_isFrom ∈ BIG := List.mem_filter.mpr ⟨List.mem_of_getElem? (i := 894) (by decide +kernel), by decide +kernel⟩
theorem b_896 : Cond.instanceMethod yX5_isFrom ∈ BIG := List.mem_filter.mpr ⟨List.mem_of_getElem? (i := 896) (by decide +kernel), by decide +kernel⟩
theorem b_27 : Cond.selects RX5 yX5_isFrom yX5_isFrom ∈ BIG := List.mem_filter.mpr ⟨List.mem_of_getElem? (i := 27) (by decide +kernel), by decide +kernel⟩
theorem k_RX5_141 (C : Cx p s m args c cc nL RX5 D (tyM cI) 23 A X Acc)  {a0 : Value} {Q : Bool → (Nat → Nat → Int32) → Prop} {fr lo : Nat} {rest : List Value} (h : Ct l D (tyM cI) 23 A (ceM A cI) X yX5_isFrom cX5_isFrom 3 (some .boolean) fr lo [.ref (A 0), a0] S rZ Q) (hR : fr + 1 ≤ R.frames ∧ 8 + (3 + 11) + lo ≤ R.locals) (hcat : (rest.map fun v => v.category).sum ≤ 8) (hcs : cells ≤ R.cells ∧ slots ≤ R.slots) (d : decode cc pc = .ok (.invokevirtual 141, 3)) (q : Nat) (hq : pc + 3 = q) (K : ∀ (r : Bool) S1, Q r S1 → J p l e R s m args below meth c cells slots Qf D 23 A (ceM A cI) Acc nL S1 q L (.int (bI r) :: rest)) : J p l e R s m args below meth c cells slots Qf D 23 A (ceM A cI) Acc nL S pc L (a0 :: .ref (A 0) :: rest) := r_callV C (ci := 5) (T := TX5) (nF := 37) 0 rest h (Nat.le_of_ble_eq_true rfl) (heM_o (S 0)) rfl b_897 b_50 b_896 b_27 b_894 ⟨by decide +kernel, by decide +kernel, (show (parseMethodDescriptor yX5_isFrom.desc).map (fun d => d.parameters.length) = some 1 by decide +kernel)⟩ hR rfl hcat hcs d q hq K
theorem b_901 : Cond.code yX5_copy cX5_copy 8 (some .int) ∈ BIG := List.mem_filter.mpr ⟨List.mem_of_getElem? (i := 901) (by decide +kernel), by decide +kernel⟩
theorem b_898 : Cond.methodLink RX5 145 yX5_copy ∈ BIG := List.mem_filter.mpr ⟨List.mem_of_getElem? (i := 898) (by decide +kernel), by decide +kernel⟩
theorem b_900 : Cond.instanceMethod yX5_copy ∈ BIG := List.mem_filter.mpr ⟨List.mem_of_getElem? (i := 900) (by decide +kernel), by decide +kernel⟩
theorem b_28 : Cond.selects RX5 yX5_copy yX5_copy ∈ BIG := List.mem_filter.mpr ⟨List.mem_of_getElem? (i := 28) (by decide +kernel), by decide +kernel⟩
theorem k_RX5_145 (C : Cx p s m args c cc nL RX5 D (tyM cI) 23 A X Acc)  {a0 : Value} {Q : Int32 → (Nat → Nat → Int32) → Prop} {fr lo : Nat} {rest : List Value} (h : Ct l D (tyM cI) 23 A (ceM A cI) X yX5_copy cX5_copy 8 (some .int) fr lo [.ref (A 0), a0] S rI Q) (hR : fr + 1 ≤ R.frames ∧ 8 + (8 + 11) + lo ≤ R.locals) (hcat : (rest.map fun v => v.category).sum ≤ 8) (hcs : cells ≤ R.cells ∧ slots ≤ R.slots) (d : decode cc pc = .ok (.invokevirtual 145, 3)) (q : Nat) (hq : pc + 3 = q) (K : ∀ (r : Int32) S1, Q r S1 → J p l e R s m args below meth c cells slots Qf D 23 A (ceM A cI) Acc nL S1 q L (.int r :: rest)) : J p l e R s m args below meth c cells slots Qf D 23 A (ceM A cI) Acc nL S pc L (a0 :: .ref (A 0) :: rest) := r_callV C (ci := 5) (T := TX5) (nF := 37) 0 rest h (Nat.le_of_ble_eq_true rfl) (heM_o (S 0)) rfl b_901 b_50 b_900 b_28 b_898 ⟨by decide +kernel, by decide +kernel, (show (parseMethodDescriptor yX5_copy.desc).map (fun d => d.parameters.length) = some 1 by decide +kernel)⟩ hR rfl hcat hcs d q hq K
theorem b_905 : Cond.code yX5_fields cX5_fields 2 (some .int) ∈ BIG := List.mem_filter.mpr ⟨List.mem_of_getElem? (i := 905) (by decide +kernel), by decide +kernel⟩
theorem b_902 : Cond.methodLink RX5 121 yX5_fields ∈ BIG := List.mem_filter.mpr ⟨List.mem_of_getElem? (i := 902) (by decide +kernel), by decide +kernel⟩
theorem b_904 : Cond.instanceMethod yX5_fields ∈ BIG := List.mem_filter.mpr ⟨List.mem_of_getElem? (i := 904) (by decide +kernel), by decide +kernel⟩
theorem b_29 : Cond.selects RX5 yX5_fields yX5_fields ∈ BIG := List.mem_filter.mpr ⟨List.mem_of_getElem? (i := 29) (by decide +kernel), by decide +kernel⟩
theorem k_RX5_121 (C : Cx p s m args c cc nL RX5 D (tyM cI) 23 A X Acc)  {a0 : Value} {Q : Int32 → (Nat → Nat → Int32) → Prop} {fr lo : Nat} {rest : List Value} (h : Ct l D (tyM cI) 23 A (ceM A cI) X yX5_fields cX5_fields 2 (some .int) fr lo [.ref (A 0), a0] S rI Q) (hR : fr + 1 ≤ R.frames ∧ 8 + (2 + 11) + lo ≤ R.locals) (hcat : (rest.map fun v => v.category).sum ≤ 8) (hcs : cells ≤ R.cells ∧ slots ≤ R.slots) (d : decode cc pc = .ok (.invokevirtual 121, 3)) (q : Nat) (hq : pc + 3 = q) (K : ∀ (r : Int32) S1, Q r S1 → J p l e R s m args below meth c cells slots Qf D 23 A (ceM A cI) Acc nL S1 q L (.int r :: rest)) : J p l e R s m args below meth c cells slots Qf D 23 A (ceM A cI) Acc nL S pc L (a0 :: .ref (A 0) :: rest) := r_callV C (ci := 5) (T := TX5) (nF := 37) 0 rest h (Nat.le_of_ble_eq_true rfl) (heM_o (S 0)) rfl b_905 b_50 b_904 b_29 b_902 ⟨by decide +kernel, by decide +kernel, (show (parseMethodDescriptor yX5_fields.desc).map (fun d => d.parameters.length) = some 1 by decide +kernel)⟩ hR rfl hcat hcs d q hq K
theorem b_909 : Cond.code yX5_age cX5_age 2 (some .int) ∈ BIG := List.mem_filter.mpr ⟨List.mem_of_getElem? (i := 909) (by decide +kernel), by decide +kernel⟩
theorem b_906 : Cond.methodLink RX5 124 yX5_age ∈ BIG := List.mem_filter.mpr ⟨List.mem_of_getElem? (i := 906) (by decide +kernel), by decide +kernel⟩
theorem b_908 : Cond.instanceMethod yX5_age ∈ BIG := List.mem_filter.mpr ⟨List.mem_of_getElem? (i := 908) (by decide +kernel), by decide +kernel⟩
theorem b_30 : Cond.selects RX5 yX5_age yX5_age ∈ BIG := List.mem_filter.mpr ⟨List.mem_of_getElem? (i := 30) (by decide +kernel), by decide +kernel⟩
theorem k_RX5_124 (C : Cx p s m args c cc nL RX5 D (tyM cI) 23 A X Acc)  {a0 : Value} {Q : Int32 → (Nat → Nat → Int32) → Prop} {fr lo : Nat} {rest : List Value} (h : Ct l D (tyM cI) 23 A (ceM A cI) X yX5_age cX5_age 2 (some .int) fr lo [.ref (A 0), a0] S rI Q) (hR : fr + 1 ≤ R.frames ∧ 8 + (2 + 11) + lo ≤ R.locals) (hcat : (rest.map fun v => v.category).sum ≤ 8) (hcs : cells ≤ R.cells ∧ slots ≤ R.slots) (d : decode cc pc = .ok (.invokevirtual 124, 3)) (q : Nat) (hq : pc + 3 = q) (K : ∀ (r : Int32) S1, Q r S1 → J p l e R s m args below meth c cells slots Qf D 23 A (ceM A cI) Acc nL S1 q L (.int r :: rest)) : J p l e R s m args below meth c cells slots Qf D 23 A (ceM A cI) Acc nL S pc L (a0 :: .ref (A 0) :: rest) := r_callV C (ci := 5) (T := TX5) (nF := 37) 0 rest h (Nat.le_of_ble_eq_true rfl) (heM_o (S 0)) rfl b_909 b_50 b_908 b_30 b_906 ⟨by decide +kernel, by decide +kernel, (show (parseMethodDescriptor yX5_age.desc).map (fun d => d.parameters.length) = some 1 by decide +kernel)⟩ hR rfl hcat hcs d q hq K
theorem b_913 : Cond.code yX5_fits cX5_fits 4 (some .boolean) ∈ BIG := List.mem_filter.mpr ⟨List.mem_of_getElem? (i := 913) (by decide +kernel), by decide +kernel⟩
theorem b_910 : Cond.methodLink RX5 127 yX5_fits ∈ BIG := List.mem_filter.mpr ⟨List.mem_of_getElem? (i := 910) (by decide +kernel), by decide +kernel⟩
theorem b_912 : Cond.instanceMethod yX5_fits ∈ BIG := List.mem_filter.mpr ⟨List.mem_of_getElem? (i := 912) (by decide +kernel), by decide +kernel⟩
theorem b_31 : Cond.selects RX5 yX5_fits yX5_fits ∈ BIG := List.mem_filter.mpr ⟨List.mem_of_getElem? (i := 31) (by decide +kernel), by decide +kernel⟩
theorem k_RX5_127 (C : Cx p s m args c cc nL RX5 D (tyM cI) 23 A X Acc)  {a0 a1 : Value} {Q : Bool → (Nat → Nat → Int32) → Prop} {fr lo : Nat} {rest : List Value} (h : Ct l D (tyM cI) 23 A (ceM A cI) X yX5_fits cX5_fits 4 (some .boolean) fr lo [.ref (A 0), a0, a1] S rZ Q) (hR : fr + 1 ≤ R.frames ∧ 8 + (4 + 11) + lo ≤ R.locals) (hcat : (rest.map fun v => v.category).sum ≤ 8) (hcs : cells ≤ R.cells ∧ slots ≤ R.slots) (d : decode cc pc = .ok (.invokevirtual 127, 3)) (q : Nat) (hq : pc + 3 = q) (K : ∀ (r : Bool) S1, Q r S1 → J p l e R s m args below meth c cells slots Qf D 23 A (ceM A cI) Acc nL S1 q L (.int (bI r) :: rest)) : J p l e R s m args below meth c cells slots Qf D 23 A (ceM A cI) Acc nL S pc L (a1 :: a0 :: .ref (A 0) :: rest) := r_callV C (ci := 5) (T := TX5) (nF := 37) 0 rest h (Nat.le_of_ble_eq_true rfl) (heM_o (S 0)) rfl b_913 b_50 b_912 b_31 b_910 ⟨by decide +kernel, by decide +kernel, (show (parseMethodDescriptor yX5_fits.desc).map (fun d => d.parameters.length) = some 2 by decide +kernel)⟩ hR rfl hcat hcs d q hq K
theorem b_917 : Cond.code yX5_bringRows cX5_bringRows 5 none ∈ BIG := List.mem_filter.mpr ⟨List.mem_of_getElem? (i := 917) (by decide +kernel), by decide +kernel⟩
theorem b_914 : Cond.methodLink RX5 160 yX5_bringRows ∈ BIG := List.mem_filter.mpr ⟨List.mem_of_getElem? (i := 914) (by decide +kernel), by decide +kernel⟩
theorem b_916 : Cond.instanceMethod yX5_bringRows ∈ BIG := List.mem_filter.mpr ⟨List.mem_of_getElem? (i := 916) (by decide +kernel), by decide +kernel⟩
theorem b_32 : Cond.selects RX5 yX5_bringRows yX5_bringRows ∈ BIG := List.mem_filter.mpr ⟨List.mem_of_getElem? (i := 32) (by decide +kernel), by decide +kernel⟩
theorem k_RX5_160 (C : Cx p s m args c cc nL RX5 D (tyM cI) 23 A X Acc)  {a0 : Value} {Q : Unit → (Nat → Nat → Int32) → Prop} {fr lo : Nat} {rest : List Value} (h : Ct l D (tyM cI) 23 A (ceM A cI) X yX5_bringRows cX5_bringRows 5 none fr lo [.ref (A 0), a0] S rU Q) (hR : fr + 1 ≤ R.frames ∧ 8 + (5 + 11) + lo ≤ R.locals) (hcat : (rest.map fun v => v.category).sum ≤ 8) (hcs : cells ≤ R.cells ∧ slots ≤ R.slots) (d : decode cc pc = .ok (.invokevirtual 160, 3)) (q : Nat) (hq : pc + 3 = q) (K : ∀ S1, Q () S1 → J p l e R s m args below meth c cells slots Qf D 23 A (ceM A cI) Acc nL S1 q L rest) : J p l e R s m args below meth c cells slots Qf D 23 A (ceM A cI) Acc nL S pc L (a0 :: .ref (A 0) :: rest) := r_callV C (ci := 5) (T := TX5) (nF := 37) 0 rest h (Nat.le_of_ble_eq_true rfl) (heM_o (S 0)) rfl b_917 b_50 b_916 b_32 b_914 ⟨by decide +kernel, by decide +kernel, (show (parseMethodDescriptor yX5_bringRows.desc).map (fun d => d.parameters.length) = some 1 by decide +kernel)⟩ hR rfl hcat hcs d q hq (fun _ => K)
theorem b_921 : Cond.code yX5_scan cX5_scan 5 none ∈ BIG := List.mem_filter.mpr ⟨List.mem_of_getElem? (i := 921) (by decide +kernel), by decide +kernel⟩
theorem b_918 : Cond.methodLink RX5 163 yX5_scan ∈ BIG := List.mem_filter.mpr ⟨List.mem_of_getElem? (i := 918) (by decide +kernel), by decide +kernel⟩
theorem b_920 : Cond.instanceMethod yX5_scan ∈ BIG := List.mem_filter.mpr ⟨List.mem_of_getElem? (i := 920) (by decide +kernel), by decide +kernel⟩
theorem b_33 : Cond.selects RX5 yX5_scan yX5_scan ∈ BIG := List.mem_filter.mpr ⟨List.mem_of_getElem? (i := 33) (by decide +kernel), by decide +kernel⟩
theorem k_RX5_163 (C : Cx p s m args c cc nL RX5 D (tyM cI) 23 A X Acc)  {Q : Unit → (Nat → Nat → Int32) → Prop} {fr lo : Nat} {rest : List Value} (h : Ct l D (tyM cI) 23 A (ceM A cI) X yX5_scan cX5_scan 5 none fr lo [.ref (A 0)] S rU Q) (hR : fr + 1 ≤ R.frames ∧ 8 + (5 + 11) + lo ≤ R.locals) (hcat : (rest.map fun v => v.category).sum ≤ 8) (hcs : cells ≤ R.cells ∧ slots ≤ R.slots) (d : decode cc pc = .ok (.invokevirtual 163, 3)) (q : Nat) (hq : pc + 3 = q) (K : ∀ S1, Q () S1 → J p l e R s m args below meth c cells slots Qf D 23 A (ceM A cI) Acc nL S1 q L rest) : J p l e R s m args below meth c cells slots Qf D 23 A (ceM A cI) Acc nL S pc L (.ref (A 0) :: rest) := r_callV C (ci := 5) (T := TX5) (nF := 37) 0 rest h (Nat.le_of_ble_eq_true rfl) (heM_o (S 0)) rfl b_921 b_50 b_920 b_33 b_918 ⟨by decide +kernel, by decide +kernel, (show (parseMethodDescriptor yX5_scan.desc).map (fun d => d.parameters.length) = some 0 by decide +kernel)⟩ hR rfl hcat hcs d q hq (fun _ => K)
theorem b_925 : Cond.code yX5_grantWishes cX5_grantWishes 5 none ∈ BIG := List.mem_filter.mpr ⟨List.mem_of_getElem? (i := 925) (by decide +kernel), by decide +kernel⟩
theorem b_922 : Cond.methodLink RX5 166 yX5_grantWishes ∈ BIG := List.mem_filter.mpr ⟨List.mem_of_getElem? (i := 922) (by decide +kernel), by decide +kernel⟩
theorem b_924 : Cond.instanceMethod yX5_grantWishes ∈ BIG := List.mem_filter.mpr ⟨List.mem_of_getElem? (i := 924) (by decide +kernel), by decide +kernel⟩
theorem b_34 : Cond.selects RX5 yX5_grantWishes yX5_grantWishes ∈ BIG := List.mem_filter.mpr ⟨List.mem_of_getElem? (i := 34) (by decide +kernel), by decide +kernel⟩
theorem k_RX5_166 (C : Cx p s m args c cc nL RX5 D (tyM cI) 23 A X Acc)  {Q : Unit → (Nat → Nat → Int32) → Prop} {fr lo : Nat} {rest : List Value} (h : Ct l D (tyM cI) 23 A (ceM A cI) X yX5_grantWishes cX5_grantWishes 5 none fr lo [.ref (A 0)] S rU Q) (hR : fr + 1 ≤ R.frames ∧ 8 + (5 + 11) + lo ≤ R.locals) (hcat : (rest.map fun v => v.category).sum ≤ 8) (hcs : cells ≤ R.cells ∧ slots ≤ R.slots) (d : decode cc pc = .ok (.invokevirtual 166, 3)) (q : Nat) (hq : pc + 3 = q) (K : ∀ S1, Q () S1 → J p l e R s m args below meth c cells slots Qf D 23 A (ceM A cI) Acc nL S1 q L rest) : J p l e R s m args below meth c cells slots Qf D 23 A (ceM A cI) Acc nL S pc L (.ref (A 0) :: rest) := r_callV C (ci := 5) (T := TX5) (nF := 37) 0 rest h (Nat.le_of_ble_eq_true rfl) (heM_o (S 0)) rfl b_925 b_50 b_924 b_34 b_922 ⟨by decide +kernel, by decide +kernel, (show (parseMethodDescriptor yX5_grantWishes.desc).map (fun d => d.parameters.length) = some 0 by decide +kernel)⟩ hR rfl hcat hcs d q hq (fun _ => K)
theorem b_933 : Cond.code yX5_store cX5_store 3 none ∈ BIG := List.mem_filter.mpr ⟨List.mem_of_getElem? (i := 933) (by decide +kernel), by decide +kernel⟩
theorem b_930 : Cond.methodLink RX5 182 yX5_store ∈ BIG := List.mem_filter.mpr ⟨List.mem_of_getElem? (i := 930) (by decide +kernel), by decide +kernel⟩
theorem b_932 : Cond.instanceMethod yX5_store ∈ BIG := List.mem_filter.mpr ⟨List.mem_of_getElem? (i := 932) (by decide +kernel), by decide +kernel⟩
theorem b_35 : Cond.selects RX5 yX5_store yX5_store ∈ BIG := List.mem_filter.mpr ⟨List.mem_of_getElem? (i := 35) (by decide +kernel), by decide +kernel⟩
theorem k_RX5_182 (C : Cx p s m args c cc nL RX5 D (tyM cI) 23 A X Acc)  {a0 a1 : Value} {Q : Unit → (Nat → Nat → Int32) → Prop} {fr lo : Nat} {rest : List Value} (h : Ct l D (tyM cI) 23 A (ceM A cI) X yX5_store cX5_store 3 none fr lo [.ref (A 0), a0, a1] S rU Q) (hR : fr + 1 ≤ R.frames ∧ 8 + (3 + 11) + lo ≤ R.locals) (hcat : (rest.map fun v => v.category).sum ≤ 8) (hcs : cells ≤ R.cells ∧ slots ≤ R.slots) (d : decode cc pc = .ok (.invokevirtual 182, 3)) (q : Nat) (hq : pc + 3 = q) (K : ∀ S1, Q () S1 → J p l e R s m args below meth c cells slots Qf D 23 A (ceM A cI) Acc nL S1 q L rest) : J p l e R s m args below meth c cells slots Qf D 23 A (ceM A cI) Acc nL S pc L (a1 :: a0 :: .ref (A 0) :: rest) := r_callV C (ci := 5) (T := TX5) (nF := 37) 0 rest h (Nat.le_of_ble_eq_true rfl) (heM_o (S 0)) rfl b_933 b_50 b_932 b_35 b_930 ⟨by decide +kernel, by decide +kernel, (show (parseMethodDescriptor yX5_store.desc).map (fun d => d.parameters.length) = some 2 by decide +kernel)⟩ hR rfl hcat hcs d q hq (fun _ => K)
theorem b_941 : Cond.code yX5_hasField cX5_hasField 3 (some .boolean) ∈ BIG := List.mem_filter.mpr ⟨List.mem_of_getElem? (i := 941) (by decide +kernel), by decide +kernel⟩
theorem b_938 : Cond.methodLink RX5 185 yX5_hasField ∈ BIG := List.mem_filter.mpr ⟨List.mem_of_getElem? (i := 938) (by decide +kernel), by decide +kernel⟩
theorem b_940 : Cond.instanceMethod yX5_hasField ∈ BIG := List.mem_filter.mpr ⟨List.mem_of_getElem? (i := 940) (by decide +kernel), by decide +kernel⟩
theorem b_36 : Cond.selects RX5 yX5_hasField yX5_hasField ∈ BIG := List.mem_filter.mpr ⟨List.mem_of_getElem? (i := 36) (by decide +kernel), by decide +kernel⟩
theorem k_RX5_185 (C : Cx p s m args c cc nL RX5 D (tyM cI) 23 A X Acc)  {a0 a1 : Value} {Q : Bool → (Nat → Nat → Int32) → Prop} {fr lo : Nat} {rest : List Value} (h : Ct l D (tyM cI) 23 A (ceM A cI) X yX5_hasField cX5_hasField 3 (some .boolean) fr lo [.ref (A 0), a0, a1] S rZ Q) (hR : fr + 1 ≤ R.frames ∧ 8 + (3 + 11) + lo ≤ R.locals) (hcat : (rest.map fun v => v.category).sum ≤ 8) (hcs : cells ≤ R.cells ∧ slots ≤ R.slots) (d : decode cc pc = .ok (.invokevirtual 185, 3)) (q : Nat) (hq : pc + 3 = q) (K : ∀ (r : Bool) S1, Q r S1 → J p l e R s m args below meth c cells slots Qf D 23 A (ceM A cI) Acc nL S1 q L (.int (bI r) :: rest)) : J p l e R s m args below meth c cells slots Qf D 23 A (ceM A cI) Acc nL S pc L (a1 :: a0 :: .ref (A 0) :: rest) := r_callV C (ci := 5) (T := TX5) (nF := 37) 0 rest h (Nat.le_of_ble_eq_true rfl) (heM_o (S 0)) rfl b_941 b_50 b_940 b_36 b_938 ⟨by decide +kernel, by decide +kernel, (show (parseMethodDescriptor yX5_hasField.desc).map (fun d => d.parameters.length) = some 2 by decide +kernel)⟩ hR rfl hcat hcs d q hq K
theorem b_985 : Cond.code yX5_isKeen cX5_isKeen 2 (some .boolean) ∈ BIG := List.mem_filter.mpr ⟨List.mem_of_getElem? (i := 985) (by decide +kernel), by decide +kernel⟩
theorem b_982 : Cond.methodLink RX5 188 yX5_isKeen ∈ BIG := List.mem_filter.mpr ⟨List.mem_of_getElem? (i := 982) (by decide +kernel), by decide +kernel⟩
theorem b_984 : Cond.instanceMethod yX5_isKeen ∈ BIG := List.mem_filter.mpr ⟨List.mem_of_getElem? (i := 984) (by decide +kernel), by decide +kernel⟩
theorem b_37 : Cond.selects RX5 yX5_isKeen yX5_isKeen ∈ BIG := List.mem_filter.mpr ⟨List.mem_of_getElem? (i := 37) (by decide +kernel), by decide +kernel⟩
theorem k_RX5_188 (C : Cx p s m args c cc nL RX5 D (tyM cI) 23 A X Acc)  {a0 : Value} {Q : Bool → (Nat → Nat → Int32) → Prop} {fr lo : Nat} {rest : List Value} (h : Ct l D (tyM cI) 23 A (ceM A cI) X yX5_isKeen cX5_isKeen 2 (some .boolean) fr lo [.ref (A 0), a0] S rZ Q) (hR : fr + 1 ≤ R.frames ∧ 8 + (2 + 11) + lo ≤ R.locals) (hcat : (rest.map fun v => v.category).sum ≤ 8) (hcs : cells ≤ R.cells ∧ slots ≤ R.slots) (d : decode cc pc = .ok (.invokevirtual 188, 3)) (q : Nat) (hq : pc + 3 = q) (K : ∀ (r : Bool) S1, Q r S1 → J p l e R s m args below meth c cells slots Qf D 23 A (ceM A cI) Acc nL S1 q L (.int (bI r) :: rest)) : J p l e R s m args below meth c cells slots Qf D 23 A (ceM A cI) Acc nL S pc L (a0 :: .ref (A 0) :: rest) := r_callV C (ci := 5) (T := TX5) (nF := 37) 0 rest h (Nat.le_of_ble_eq_true rfl) (heM_o (S 0)) rfl b_985 b_50 b_984 b_37 b_982 ⟨by decide +kernel, by decide +kernel, (show (parseMethodDescriptor yX5_isKeen.desc).map (fun d => d.parameters.length) = some 1 by decide +kernel)⟩ hR rfl hcat hcs d q hq K
theorem b_997 : Cond.code yX5_sizeOf cX5_sizeOf 2 (some .int) ∈ BIG := List.mem_filter.mpr ⟨List.mem_of_getElem? (i := 997) (by decide +kernel), by decide +kernel⟩
theorem b_994 : Cond.methodLink RX5 191 yX5_sizeOf ∈ BIG := List.mem_filter.mpr ⟨List.mem_of_getElem? (i := 994) (by decide +kernel), by decide +kernel⟩
theorem b_996 : Cond.instanceMethod yX5_sizeOf ∈ BIG := List.mem_filter.mpr ⟨List.mem_of_getElem? (i := 996) (by decide +kernel), by decide +kernel⟩
theorem b_38 : Cond.selects RX5 yX5_sizeOf yX5_sizeOf ∈ BIG := List.mem_filter.mpr ⟨List.mem_of_getElem? (i := 38) (by decide +kernel), by decide +kernel⟩
theorem k_RX5_191 (C : Cx p s m args c cc nL RX5 D (tyM cI) 23 A X Acc)  {a0 : Value} {Q : Int32 → (Nat → Nat → Int32) → Prop} {fr lo : Nat} {rest : List Value} (h : Ct l D (tyM cI) 23 A (ceM A cI) X yX5_sizeOf cX5_sizeOf 2 (some .int) fr lo [.ref (A 0), a0] S rI Q) (hR : fr + 1 ≤ R.frames ∧ 8 + (2 + 11) + lo ≤ R.locals) (hcat : (rest.map fun v => v.category).sum ≤ 8) (hcs : cells ≤ R.cells ∧ slots ≤ R.slots) (d : decode cc pc = .ok (.invokevirtual 191, 3)) (q : Nat) (hq : pc + 3 = q) (K : ∀ (r : Int32) S1, Q r S1 → J p l e R s m args below meth c cells slots Qf D 23 A (ceM A cI) Acc nL S1 q L (.int r :: rest)) : J p l e R s m args below meth c cells slots Qf D 23 A (ceM A cI) Acc nL S pc L (a0 :: .ref (A 0) :: rest) := r_callV C (ci := 5) (T := TX5) (nF := 37) 0 rest h (Nat.le_of_ble_eq_true rfl) (heM_o (S 0)) rfl b_997 b_50 b_996 b_38 b_994 ⟨by decide +kernel, by decide +kernel, (show (parseMethodDescriptor yX5_sizeOf.desc).map (fun d => d.parameters.length) = some 1 by decide +kernel)⟩ hR rfl hcat hcs d q hq K
theorem b_1013 : Cond.code yX5_isPlace cX5_isPlace 2 (some .boolean) ∈ BIG := List.mem_filter.mpr ⟨List.mem_of_getElem? (i := 1013) (by decide +kernel), by decide +kernel⟩
theorem b_1010 : Cond.methodLink RX5 203 yX5_isPlace ∈ BIG := List.mem_filter.mpr ⟨List.mem_of_getElem? (i := 1010) (by decide +kernel), by decide +kernel⟩
theorem b_1012 : Cond.instanceMethod yX5_isPlace ∈ BIG := List.mem_filter.mpr ⟨List.mem_of_getElem? (i := 1012) (by decide +kernel), by decide +kernel⟩
theorem b_39 : Cond.selects RX5 yX5_isPlace yX5_isPlace ∈ BIG := List.mem_filter.mpr ⟨List.mem_of_getElem? (i := 39) (by decide +kernel), by decide +kernel⟩
theorem k_RX5_203 (C : Cx p s m args c cc nL RX5 D (tyM cI) 23 A X Acc)  {a0 : Value} {Q : Bool → (Nat → Nat → Int32) → Prop} {fr lo : Nat} {rest : List Value} (h : Ct l D (tyM cI) 23 A (ceM A cI) X yX5_isPlace cX5_isPlace 2 (some .boolean) fr lo [.ref (A 0), a0] S rZ Q) (hR : fr + 1 ≤ R.frames ∧ 8 + (2 + 11) + lo ≤ R.locals) (hcat : (rest.map fun v => v.category).sum ≤ 8) (hcs : cells ≤ R.cells ∧ slots ≤ R.slots) (d : decode cc pc = .ok (.invokevirtual 203, 3)) (q : Nat) (hq : pc + 3 = q) (K : ∀ (r : Bool) S1, Q r S1 → J p l e R s m args below meth c cells slots Qf D 23 A (ceM A cI) Acc nL S1 q L (.int (bI r) :: rest)) : J p l e R s m args below meth c cells slots Qf D 23 A (ceM A cI) Acc nL S pc L (a0 :: .ref (A 0) :: rest) := r_callV C (ci := 5) (T := TX5) (nF := 37) 0 rest h (Nat.le_of_ble_eq_true rfl) (heM_o (S 0)) rfl b_1013 b_50 b_1012 b_39 b_1010 ⟨by decide +kernel, by decide +kernel, (show (parseMethodDescriptor yX5_isPlace.desc).map (fun d => d.parameters.length) = some 1 by decide +kernel)⟩ hR rfl hcat hcs d q hq K
theorem b_1017 : Cond.code yX5_isRight cX5_isRight 5 (some .boolean) ∈ BIG := List.mem_filter.mpr ⟨List.mem_of_getElem? (i := 1017) (by decide +kernel), by decide +kernel⟩
theorem b_1014 : Cond.methodLink RX5 209 yX5_isRight ∈ BIG := List.mem_filter.mpr ⟨List.mem_of_getElem? (i := 1014) (by decide +kernel), by decide +kernel⟩
theorem b_1016 : Cond.instanceMethod yX5_isRight ∈ BIG := List.mem_filter.mpr ⟨List.mem_of_getElem? (i := 1016) (by decide +kernel), by decide +kernel⟩
theorem b_40 : Cond.selects RX5 yX5_isRight yX5_isRight ∈ BIG := List.mem_filter.mpr ⟨List.mem_of_getElem? (i := 40) (by decide +kernel), by decide +kernel⟩
theorem k_RX5_209 (C : Cx p s m args c cc nL RX5 D (tyM cI) 23 A X Acc)  {a0 a1 a2 a3 : Value} {Q : Bool → (Nat → Nat → Int32) → Prop} {fr lo : Nat} {rest : List Value} (h : Ct l D (tyM cI) 23 A (ceM A cI) X yX5_isRight cX5_isRight 5 (some .boolean) fr lo [.ref (A 0), a0, a1, a2, a3] S rZ Q) (hR : fr + 1 ≤ R.frames ∧ 8 + (5 + 11) + lo ≤ R.locals) (hcat : (rest.map fun v => v.category).sum ≤ 8) (hcs : cells ≤ R.cells ∧ slots ≤ R.slots) (d : decode cc pc = .ok (.invokevirtual 209, 3)) (q : Nat) (hq : pc + 3 = q) (K : ∀ (r : Bool) S1, Q r S1 → J p l e R s m args below meth c cells slots Qf D 23 A (ceM A cI) Acc nL S1 q L (.int (bI r) :: rest)) : J p l e R s m args below meth c cells slots Qf D 23 A (ceM A cI) Acc nL S pc L (a3 :: a2 :: a1 :: a0 :: .ref (A 0) :: rest) := r_callV C (ci := 5) (T := TX5) (nF := 37) 0 rest h (Nat.le_of_ble_eq_true rfl) (heM_o (S 0)) rfl b_1017 b_50 b_1016 b_40 b_1014 ⟨by decide +kernel, by decide +kernel, (show (parseMethodDescriptor yX5_isRight.desc).map (fun d => d.parameters.length) = some 4 by decide +kernel)⟩ hR rfl hcat hcs d q hq K
theorem b_1020 : Cond.code yX5_isNumber cX5_isNumber 1 (some .boolean) ∈ BIG := List.mem_filter.mpr ⟨List.mem_of_getElem? (i := 1020) (by decide +kernel), by decide +kernel⟩
theorem b_1018 : Cond.methodLink RX5 197 yX5_isNumber ∈ BIG := List.mem_filter.mpr ⟨List.mem_of_getElem? (i := 1018) (by decide +kernel), by decide +kernel⟩
theorem b_1019 : Cond.static yX5_isNumber ∈ BIG := List.mem_filter.mpr ⟨List.mem_of_getElem? (i := 1019) (by decide +kernel), by decide +kernel⟩
theorem k_RX5_197 (C : Cx p s m args c cc nL RX5 D (tyM cI) 23 A X Acc)  {a0 : Value} {Q : Bool → (Nat → Nat → Int32) → Prop} {fr lo : Nat} {rest : List Value} (h : Ct l D (tyM cI) 23 A (ceM A cI) X yX5_isNumber cX5_isNumber 1 (some .boolean) fr lo [a0] S rZ Q) (hR : fr + 1 ≤ R.frames ∧ 8 + (1 + 11) + lo ≤ R.locals) (hcat : (rest.map fun v => v.category).sum ≤ 8) (hcs : cells ≤ R.cells ∧ slots ≤ R.slots) (d : decode cc pc = .ok (.invokestatic 197, 3)) (q : Nat) (hq : pc + 3 = q) (K : ∀ (r : Bool) S1, Q r S1 → J p l e R s m args below meth c cells slots Qf D 23 A (ceM A cI) Acc nL S1 q L (.int (bI r) :: rest)) : J p l e R s m args below meth c cells slots Qf D 23 A (ceM A cI) Acc nL S pc L (a0 :: rest) := r_callS C rest h b_1020 b_50 b_1019 b_1018 ⟨by decide +kernel, by decide +kernel, (show (parseMethodDescriptor yX5_isNumber.desc).map (fun d => d.parameters.length) = some 1 by decide +kernel)⟩ hR rfl hcat hcs d q hq K
theorem b_1023 : Cond.code yX5_isField cX5_isField 1 (some .boolean) ∈ BIG := List.mem_filter.mpr ⟨List.mem_of_getElem? (i := 1023) (by decide +kernel), by decide +kernel⟩
theorem b_1021 : Cond.methodLink RX5 200 yX5_isField ∈ BIG := List.mem_filter.mpr ⟨List.mem_of_getElem? (i := 1021) (by decide +kernel), by decide +kernel⟩
theorem b_1022 : Cond.static yX5_isField ∈ BIG := List.mem_filter.mpr ⟨List.mem_of_getElem? (i := 1022) (by decide +kernel), by decide +kernel⟩
theorem k_RX5_200 (C : Cx p s m args c cc nL RX5 D (tyM cI) 23 A X Acc)  {a0 : Value} {Q : Bool → (Nat → Nat → Int32) → Prop} {fr lo : Nat} {rest : List Value} (h : Ct l D (tyM cI) 23 A (ceM A cI) X yX5_isField cX5_isField 1 (some .boolean) fr lo [a0] S rZ Q) (hR : fr + 1 ≤ R.frames ∧ 8 + (1 + 11) + lo ≤ R.locals) (hcat : (rest.map fun v => v.category).sum ≤ 8) (hcs : cells ≤ R.cells ∧ slots ≤ R.slots) (d : decode cc pc = .ok (.invokestatic 200, 3)) (q : Nat) (hq : pc + 3 = q) (K : ∀ (r : Bool) S1, Q r S1 → J p l e R s m args below meth c cells slots Qf D 23 A (ceM A cI) Acc nL S1 q L (.int (bI r) :: rest)) : J p l e R s m args below meth c cells slots Qf D 23 A (ceM A cI) Acc nL S pc L (a0 :: rest) := r_callS C rest h b_1023 b_50 b_1022 b_1021 ⟨by decide +kernel, by decide +kernel, (show (parseMethodDescriptor yX5_isField.desc).map (fun d => d.parameters.length) = some 1 by decide +kernel)⟩ hR rfl hcat hcs d q hq K
theorem b_1027 : Cond.code yX5_hindered cX5_hindered 6 (some .int) ∈ BIG := List.mem_filter.mpr ⟨List.mem_of_getElem? (i := 1027) (by decide +kernel), by decide +kernel⟩
theorem b_1024 : Cond.methodLink RX5 213 yX5_hindered ∈ BIG := List.mem_filter.mpr ⟨List.mem_of_getElem? (i := 1024) (by decide +kernel), by decide +kernel⟩
theorem b_1026 : Cond.instanceMethod yX5_hindered ∈ BIG := List.mem_filter.mpr ⟨List.mem_of_getElem? (i := 1026) (by decide +kernel), by decide +kernel⟩
theorem b_41 : Cond.selects RX5 yX5_hindered yX5_hindered ∈ BIG := List.mem_filter.mpr ⟨List.mem_of_getElem? (i := 41) (by decide +kernel), by decide +kernel⟩
theorem k_RX5_213 (C : Cx p s m args c cc nL RX5 D (tyM cI) 23 A X Acc)  {a0 a1 a2 a3 : Value} {Q : Int32 → (Nat → Nat → Int32) → Prop} {fr lo : Nat} {rest : List Value} (h : Ct l D (tyM cI) 23 A (ceM A cI) X yX5_hindered cX5_hindered 6 (some .int) fr lo [.ref (A 0), a0, a1, a2, a3] S rI Q) (hR : fr + 1 ≤ R.frames ∧ 8 + (6 + 11) + lo ≤ R.locals) (hcat : (rest.map fun v => v.category).sum ≤ 8) (hcs : cells ≤ R.cells ∧ slots ≤ R.slots) (d : decode cc pc = .ok (.invokevirtual 213, 3)) (q : Nat) (hq : pc + 3 = q) (K : ∀ (r : Int32) S1, Q r S1 → J p l e R s m args below meth c cells slots Qf D 23 A (ceM A cI) Acc nL S1 q L (.int r :: rest)) : J p l e R s m args below meth c cells slots Qf D 23 A (ceM A cI) Acc nL S pc L (a3 :: a2 :: a1 :: a0 :: .ref (A 0) :: rest) := r_callV C (ci := 5) (T := TX5) (nF := 37) 0 rest h (Nat.le_of_ble_eq_true rfl) (heM_o (S 0)) rfl b_1027 b_50 b_1026 b_41 b_1024 ⟨by decide +kernel, by decide +kernel, (show (parseMethodDescriptor yX5_hindered.desc).map (fun d => d.parameters.length) = some 4 by decide +kernel)⟩ hR rfl hcat hcs d q hq K
theorem b_1031 : Cond.code yX5_does cX5_does 8 (some .int) ∈ BIG := List.mem_filter.mpr ⟨List.mem_of_getElem? (i := 1031) (by decide +kernel), by decide +kernel⟩
theorem b_1028 : Cond.methodLink RX5 220 yX5_does ∈ BIG := List.mem_filter.mpr ⟨List.mem_of_getElem? (i := 1028) (by decide +kernel), by decide +kernel⟩
theorem b_1030 : Cond.instanceMethod yX5_does ∈ BIG := List.mem_filter.mpr ⟨List.mem_of_getElem? (i := 1030) (by decide +kernel), by decide +kernel⟩
theorem b_42 : Cond.selects RX5 yX5_does yX5_does ∈ BIG := List.mem_filter.mpr ⟨List.mem_of_getElem? (i := 42) (by decide +kernel), by decide +kernel⟩
theorem k_RX5_220 (C : Cx p s m args c cc nL RX5 D (tyM cI) 23 A X Acc)  {a0 a1 a2 a3 a4 : Value} {Q : Int32 → (Nat → Nat → Int32) → Prop} {fr lo : Nat} {rest : List Value} (h : Ct l D (tyM cI) 23 A (ceM A cI) X yX5_does cX5_does 8 (some .int) fr lo [.ref (A 0), a0, a1, a2, a3, a4] S rI Q) (hR : fr + 1 ≤ R.frames ∧ 8 + (8 + 11) + lo ≤ R.locals) (hcat : (rest.map fun v => v.category).sum ≤ 8) (hcs : cells ≤ R.cells ∧ slots ≤ R.slots) (d : decode cc pc = .ok (.invokevirtual 220, 3)) (q : Nat) (hq : pc + 3 = q) (K : ∀ (r : Int32) S1, Q r S1 → J p l e R s m args below meth c cells slots Qf D 23 A (ceM A cI) Acc nL S1 q L (.int r :: rest)) : J p l e R s m args below meth c cells slots Qf D 23 A (ceM A cI) Acc nL S pc L (a4 :: a3 :: a2 :: a1 :: a0 :: .ref (A 0) :: rest) := r_callV C (ci := 5) (T := TX5) (nF := 37) 0 rest h (Nat.le_of_ble_eq_true rfl) (heM_o (S 0)) rfl b_1031 b_50 b_1030 b_42 b_1028 ⟨by decide +kernel, by decide +kernel, (show (parseMethodDescriptor yX5_does.desc).map (fun d => d.parameters.length) = some 5 by decide +kernel)⟩ hR rfl hcat hcs d q hq K
theorem b_75 : Cond.methodLink RX4 170 Lib.Math.min.name ∈ BIG := List.mem_filter.mpr ⟨List.mem_of_getElem? (i := 75) (by decide +kernel), by decide +kernel⟩
theorem b_76 : Cond.static Lib.Math.min.name ∈ BIG := List.mem_filter.mpr ⟨List.mem_of_getElem? (i := 76) (by decide +kernel), by decide +kernel⟩
theorem b_46 : Cond.initialized "java/lang/Math" ∈ BIG := List.mem_filter.mpr ⟨List.mem_of_getElem? (i := 46) (by decide +kernel), by decide +kernel⟩
theorem b_77 : Cond.code Lib.Math.min.name Lib.Math.min.code 2 (some .int) ∈ BIG := List.mem_filter.mpr ⟨List.mem_of_getElem? (i := 77) (by decide +kernel), by decide +kernel⟩
theorem b_78 : Cond.methodLink RX4 175 Lib.Math.max.name ∈ BIG := List.mem_filter.mpr ⟨List.mem_of_getElem? (i := 78) (by decide +kernel), by decide +kernel⟩
theorem b_79 : Cond.static Lib.Math.max.name ∈ BIG := List.mem_filter.mpr ⟨List.mem_of_getElem? (i := 79) (by decide +kernel), by decide +kernel⟩
theorem b_80 : Cond.code Lib.Math.max.name Lib.Math.max.code 2 (some .int) ∈ BIG := List.mem_filter.mpr ⟨List.mem_of_getElem? (i := 80) (by decide +kernel), by decide +kernel⟩
theorem b_398 : Cond.methodLink RX1 165 Lib.Math.min.name ∈ BIG := List.mem_filter.mpr ⟨List.mem_of_getElem? (i := 398) (by decide +kernel), by decide +kernel⟩
theorem b_403 : Cond.methodLink RX1 177 arraycopyName ∈ BIG := List.mem_filter.mpr ⟨List.mem_of_getElem? (i := 403) (by decide +kernel), by decide +kernel⟩
theorem b_405 : Cond.native arraycopyName ∈ BIG := List.mem_filter.mpr ⟨List.mem_of_getElem? (i := 405) (by decide +kernel), by decide +kernel⟩
theorem b_404 : Cond.static arraycopyName ∈ BIG := List.mem_filter.mpr ⟨List.mem_of_getElem? (i := 404) (by decide +kernel), by decide +kernel⟩
theorem b_56 : Cond.initialized "java/lang/System" ∈ BIG := List.mem_filter.mpr ⟨List.mem_of_getElem? (i := 56) (by decide +kernel), by decide +kernel⟩
theorem b_553 : Cond.methodLink RX3 19 arraycopyName ∈ BIG := List.mem_filter.mpr ⟨List.mem_of_getElem? (i := 553) (by decide +kernel), by decide +kernel⟩
theorem i_C {own : String} (C : Cx p s m args c cc nL own D (tyC cI cG cR) 32 A X Acc) {k : Nat} (h0 : 16 ≤ k) (h1 : k < 29) {i : Int32} (hin : vp_in i (n k)) (d : decode cc pc = .ok (.iaload, 1)) (q : Nat) (hq : pc + 1 = q) (K : J p l e R s m args below meth c cells slots Qf D 32 A (ceC A n cI cG cR) Acc nL S q L (.int (S k i.toNatClampNeg) :: st)) : J p l e R s m args below meth c cells slots Qf D 32 A (ceC A n cI cG cR) Acc nL S pc L (.int i :: .ref (A k) :: st) := r_iald C k 0 (by omega) (heC_i h0 h1 _) rfl hin d q hq K
theorem s_C {own : String} (C : Cx p s m args c cc nL own D (tyC cI cG cR) 32 A X Acc) {k : Nat} (h0 : 16 ≤ k) (h1 : k < 29) {i x : Int32} (hin : vp_in i (n k)) (d : decode cc pc = .ok (.iastore, 1)) (q : Nat) (hq : pc + 1 = q) (K : ∀ S1, S1 = up2 S k i.toNatClampNeg x → J p l e R s m args below meth c cells slots Qf D 32 A (ceC A n cI cG cR) Acc nL S1 q L st) : J p l e R s m args below meth c cells slots Qf D 32 A (ceC A n cI cG cR) Acc nL S pc L (.int x :: .int i :: .ref (A k) :: st) := r_iast C k 0 (by omega) (heC_i h0 h1) rfl hin d q hq K
theorem l_C {own : String} (C : Cx p s m args c cc nL own D (tyC cI cG cR) 32 A X Acc) {k : Nat} (h0 : 16 ≤ k) (h1 : k < 29) (d : decode cc pc = .ok (.arraylength, 1)) (q : Nat) (hq : pc + 1 = q) (K : J p l e R s m args below meth c cells slots Qf D 32 A (ceC A n cI cG cR) Acc nL S q L (.int (nI (n k)) :: st)) : J p l e R s m args below meth c cells slots Qf D 32 A (ceC A n cI cG cR) Acc nL S pc L (.ref (A k) :: st) := r_alen C k 0 (by omega) (heC_i h0 h1 _) rfl d q hq K
theorem i_M {own : String} (C : Cx p s m args c cc nL own D (tyM cI) 23 A X Acc) {k : Nat} (h0 : 1 ≤ k) (h1 : k < 23) {i : Int32} (hin : vp_in i (lenM k)) (d : decode cc pc = .ok (.iaload, 1)) (q : Nat) (hq : pc + 1 = q) (K : J p l e R s m args below meth c cells slots Qf D 23 A (ceM A cI) Acc nL S q L (.int (S k i.toNatClampNeg) :: st)) : J p l e R s m args below meth c cells slots Qf D 23 A (ceM A cI) Acc nL S pc L (.int i :: .ref (A k) :: st) := r_iald C k 0 h1 (heM_i h0 _) rfl hin d q hq K
theorem s_M {own : String} (C : Cx p s m args c cc nL own D (tyM cI) 23 A X Acc) {k : Nat} (h0 : 1 ≤ k) (h1 : k < 23) {i x : Int32} (hin : vp_in i (lenM k)) (d : decode cc pc = .ok (.iastore, 1)) (q : Nat) (hq : pc + 1 = q) (K : ∀ S1, S1 = up2 S k i.toNatClampNeg x → J p l e R s m args below meth c cells slots Qf D 23 A (ceM A cI) Acc nL S1 q L st) : J p l e R s m args below meth c cells slots Qf D 23 A (ceM A cI) Acc nL S pc L (.int x :: .int i :: .ref (A k) :: st) := r_iast C k 0 h1 (heM_i h0) rfl hin d q hq K
theorem a_G {own : String} (C : Cx p s m args c cc nL own D (tyC cI cG cR) 32 A X Acc) {i : Int32} (hin : vp_in i 3) (d : decode cc pc = .ok (.aaload, 1)) (q : Nat) (hq : pc + 1 = q) (K : J p l e R s m args below meth c cells slots Qf D 32 A (ceC A n cI cG cR) Acc nL S q L (.ref (A (3 + i.toNatClampNeg)) :: st)) : J p l e R s m args below meth c cells slots Qf D 32 A (ceC A n cI cG cR) Acc nL S pc L (.int i :: .ref (A 29) :: st) := r_aald C 29 1 (Nat.le_of_ble_eq_true rfl) (heC_g _) rfl hin rfl d q hq K
theorem a_R {own : String} (C : Cx p s m args c cc nL own D (tyC cI cG cR) 32 A X Acc) {k : Nat} (h0 : 30 ≤ k) (h1 : k < 32) {i : Int32} (hin : vp_in i 2) (d : decode cc pc = .ok (.aaload, 1)) (q : Nat) (hq : pc + 1 = q) (K : J p l e R s m args below meth c cells slots Qf D 32 A (ceC A n cI cG cR) Acc nL S q L (.ref (A (12 + 2 * (k - 30) + i.toNatClampNeg)) :: st)) : J p l e R s m args below meth c cells slots Qf D 32 A (ceC A n cI cG cR) Acc nL S pc L (.int i :: .ref (A k) :: st) := r_aald C k 2 h1 (heC_r h0 _) rfl hin rfl d q hq K
theorem i_Mk {own : String} (C : Cx p s m args c cc nL own D (tyM cI) 23 A X Acc) {k : Nat} (h0 : 1 ≤ k) (h1 : k < 23) {i : Int32} (z : Nat) (hz : i.toNatClampNeg = z) (hin : vp_in i (lenM k)) (d : decode cc pc = .ok (.iaload, 1)) (q : Nat) (hq : pc + 1 = q) (K : J p l e R s m args below meth c cells slots Qf D 23 A (ceM A cI) Acc nL S q L (.int (S k z) :: st)) : J p l e R s m args below meth c cells slots Qf D 23 A (ceM A cI) Acc nL S pc L (.int i :: .ref (A k) :: st) := by subst hz; exact i_M C h0 h1 hin d q hq K
theorem s_Mk {own : String} (C : Cx p s m args c cc nL own D (tyM cI) 23 A X Acc) {k : Nat} (h0 : 1 ≤ k) (h1 : k < 23) {i x : Int32} (z : Nat) (hz : i.toNatClampNeg = z) (hin : vp_in i (lenM k)) (d : decode cc pc = .ok (.iastore, 1)) (q : Nat) (hq : pc + 1 = q) (K : ∀ S1, S1 = up2 S k z x → J p l e R s m args below meth c cells slots Qf D 23 A (ceM A cI) Acc nL S1 q L st) : J p l e R s m args below meth c cells slots Qf D 23 A (ceM A cI) Acc nL S pc L (.int x :: .int i :: .ref (A k) :: st) := by subst hz; exact s_M C h0 h1 hin d q hq K
theorem i_Ck {own : String} (C : Cx p s m args c cc nL own D (tyC cI cG cR) 32 A X Acc) {k : Nat} (h0 : 16 ≤ k) (h1 : k < 29) {i : Int32} (z : Nat) (hz : i.toNatClampNeg = z) (hin : vp_in i (n k)) (d : decode cc pc = .ok (.iaload, 1)) (q : Nat) (hq : pc + 1 = q) (K : J p l e R s m args below meth c cells slots Qf D 32 A (ceC A n cI cG cR) Acc nL S q L (.int (S k z) :: st)) : J p l e R s m args below meth c cells slots Qf D 32 A (ceC A n cI cG cR) Acc nL S pc L (.int i :: .ref (A k) :: st) := by subst hz; exact i_C C h0 h1 hin d q hq K
theorem a_Gk {own : String} (C : Cx p s m args c cc nL own D (tyC cI cG cR) 32 A X Acc) {i : Int32} (z : Nat) (hz : i.toNatClampNeg = z) (hin : vp_in i 3) (d : decode cc pc = .ok (.aaload, 1)) (q : Nat) (hq : pc + 1 = q) (K : J p l e R s m args below meth c cells slots Qf D 32 A (ceC A n cI cG cR) Acc nL S q L (.ref (A (3 + z)) :: st)) : J p l e R s m args below meth c cells slots Qf D 32 A (ceC A n cI cG cR) Acc nL S pc L (.int i :: .ref (A 29) :: st) := by subst hz; exact a_G C hin d q hq K
theorem a_Rk {own : String} (C : Cx p s m args c cc nL own D (tyC cI cG cR) 32 A X Acc) {k : Nat} (h0 : 30 ≤ k) (h1 : k < 32) {i : Int32} (z : Nat) (hz : i.toNatClampNeg = z) (hin : vp_in i 2) (d : decode cc pc = .ok (.aaload, 1)) (q : Nat) (hq : pc + 1 = q) (K : J p l e R s m args below meth c cells slots Qf D 32 A (ceC A n cI cG cR) Acc nL S q L (.ref (A (12 + 2 * (k - 30) + z)) :: st)) : J p l e R s m args below meth c cells slots Qf D 32 A (ceC A n cI cG cR) Acc nL S pc L (.int i :: .ref (A k) :: st) := by subst hz; exact a_R C h0 h1 hin d q hq K
theorem vp_lt {i : Int32} {N : Nat} (h : vp_in i N) : i.toNatClampNeg < N := Nat.not_le.mp fun q => h (Or.inr q)
end WROWS
end
