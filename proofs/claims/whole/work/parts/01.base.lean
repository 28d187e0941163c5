-- ===== PART A: goes FIRST, ahead of the names: the tables' words, and 'selects' of the private methods out of them =====
/-- a private method of a class that the tables say can be made, by its rows of tables_1 -/
def lw_okq (q : MethodName × Nat) : Prop := (q.1.cls ≠ "java/lang/invoke/MethodHandle" ∧ q.1.cls ≠ "java/lang/invoke/VarHandle") ∧ Cond.instantiable q.1.cls q.2 ∈ tables_1 ∧ Cond.privateMethod q.1 ∈ tables_1 ∧ Cond.instanceMethod q.1 ∈ tables_1
theorem lw_p0 : lw_okq (⟨"java/util/ArrayList", "add", "(Ljava/lang/Object;[Ljava/lang/Object;I)V"⟩, 3) := ⟨⟨by decide +kernel, by decide +kernel⟩, List.mem_of_getElem? (i := 32) (by decide +kernel), List.mem_of_getElem? (i := 295) (by decide +kernel), List.mem_of_getElem? (i := 296) (by decide +kernel)⟩
theorem lw_p1 : lw_okq (⟨"java/util/ArrayList", "grow", "()[Ljava/lang/Object;"⟩, 3) := ⟨⟨by decide +kernel, by decide +kernel⟩, List.mem_of_getElem? (i := 32) (by decide +kernel), List.mem_of_getElem? (i := 299) (by decide +kernel), List.mem_of_getElem? (i := 300) (by decide +kernel)⟩
theorem lw_p2 : lw_okq (⟨"java/util/ArrayList", "grow", "(I)[Ljava/lang/Object;"⟩, 3) := ⟨⟨by decide +kernel, by decide +kernel⟩, List.mem_of_getElem? (i := 32) (by decide +kernel), List.mem_of_getElem? (i := 303) (by decide +kernel), List.mem_of_getElem? (i := 304) (by decide +kernel)⟩
theorem lw_p3 : lw_okq (⟨"PartitionedProcedureStore", "waitAtAllSites", "(LPartitionedProcedureStore$Task;)V"⟩, 13) := ⟨⟨by decide +kernel, by decide +kernel⟩, List.mem_of_getElem? (i := 20) (by decide +kernel), List.mem_of_getElem? (i := 408) (by decide +kernel), List.mem_of_getElem? (i := 409) (by decide +kernel)⟩
theorem lw_p4 : lw_okq (⟨"PartitionedProcedureStore", "comeToMarker", "(I)V"⟩, 13) := ⟨⟨by decide +kernel, by decide +kernel⟩, List.mem_of_getElem? (i := 20) (by decide +kernel), List.mem_of_getElem? (i := 433) (by decide +kernel), List.mem_of_getElem? (i := 434) (by decide +kernel)⟩
theorem lw_p5 : lw_okq (⟨"java/util/ArrayList", "fastRemove", "([Ljava/lang/Object;I)V"⟩, 3) := ⟨⟨by decide +kernel, by decide +kernel⟩, List.mem_of_getElem? (i := 32) (by decide +kernel), List.mem_of_getElem? (i := 445) (by decide +kernel), List.mem_of_getElem? (i := 446) (by decide +kernel)⟩
theorem lw_p6 : lw_okq (⟨"PartitionedProcedureStore", "completeSnapshotIfCopied", "()V"⟩, 13) := ⟨⟨by decide +kernel, by decide +kernel⟩, List.mem_of_getElem? (i := 20) (by decide +kernel), List.mem_of_getElem? (i := 467) (by decide +kernel), List.mem_of_getElem? (i := 468) (by decide +kernel)⟩
theorem lw_p7 : lw_okq (⟨"PartitionedProcedureStore", "dropLogUpTo", "(I)V"⟩, 13) := ⟨⟨by decide +kernel, by decide +kernel⟩, List.mem_of_getElem? (i := 20) (by decide +kernel), List.mem_of_getElem? (i := 476) (by decide +kernel), List.mem_of_getElem? (i := 477) (by decide +kernel)⟩
theorem lw_p8 : lw_okq (⟨"PartitionedProcedureStore", "raiseDurable", "(I)V"⟩, 13) := ⟨⟨by decide +kernel, by decide +kernel⟩, List.mem_of_getElem? (i := 20) (by decide +kernel), List.mem_of_getElem? (i := 482) (by decide +kernel), List.mem_of_getElem? (i := 483) (by decide +kernel)⟩
theorem lw_p9 : lw_okq (⟨"PartitionedProcedureStore", "areAllStalled", "()Z"⟩, 13) := ⟨⟨by decide +kernel, by decide +kernel⟩, List.mem_of_getElem? (i := 20) (by decide +kernel), List.mem_of_getElem? (i := 490) (by decide +kernel), List.mem_of_getElem? (i := 491) (by decide +kernel)⟩
theorem lw_p10 : lw_okq (⟨"PartitionedProcedureStore", "passOnAtAllSites", "()V"⟩, 13) := ⟨⟨by decide +kernel, by decide +kernel⟩, List.mem_of_getElem? (i := 20) (by decide +kernel), List.mem_of_getElem? (i := 494) (by decide +kernel), List.mem_of_getElem? (i := 495) (by decide +kernel)⟩
theorem lw_p11 : lw_okq (⟨"PartitionedProcedureStore", "finish", "(LPartitionedProcedureStore$Task;)V"⟩, 13) := ⟨⟨by decide +kernel, by decide +kernel⟩, List.mem_of_getElem? (i := 20) (by decide +kernel), List.mem_of_getElem? (i := 498) (by decide +kernel), List.mem_of_getElem? (i := 499) (by decide +kernel)⟩
theorem lw_p12 : lw_okq (⟨"PartitionedProcedureStore$Runner", "begin", "(LPartitionedProcedureStore$Task;)V"⟩, 8) := ⟨⟨by decide +kernel, by decide +kernel⟩, List.mem_of_getElem? (i := 87) (by decide +kernel), List.mem_of_getElem? (i := 506) (by decide +kernel), List.mem_of_getElem? (i := 507) (by decide +kernel)⟩
theorem lw_p13 : lw_okq (⟨"PartitionedProcedureStore$Runner", "execute", "(LPartitionedProcedureStore$Statement;)I"⟩, 8) := ⟨⟨by decide +kernel, by decide +kernel⟩, List.mem_of_getElem? (i := 87) (by decide +kernel), List.mem_of_getElem? (i := 518) (by decide +kernel), List.mem_of_getElem? (i := 519) (by decide +kernel)⟩
theorem lw_p14 : lw_okq (⟨"PartitionedProcedureStore$Runner", "readRow", "(LPartitionedProcedureStore$Statement;)I"⟩, 8) := ⟨⟨by decide +kernel, by decide +kernel⟩, List.mem_of_getElem? (i := 87) (by decide +kernel), List.mem_of_getElem? (i := 522) (by decide +kernel), List.mem_of_getElem? (i := 523) (by decide +kernel)⟩
theorem lw_p15 : lw_okq (⟨"PartitionedProcedureStore$Runner", "isPresent", "(I)Z"⟩, 8) := ⟨⟨by decide +kernel, by decide +kernel⟩, List.mem_of_getElem? (i := 87) (by decide +kernel), List.mem_of_getElem? (i := 526) (by decide +kernel), List.mem_of_getElem? (i := 527) (by decide +kernel)⟩
def lw_privs_1 : List (MethodName × Nat) := [(⟨"java/util/ArrayList", "add", "(Ljava/lang/Object;[Ljava/lang/Object;I)V"⟩, 3), (⟨"java/util/ArrayList", "grow", "()[Ljava/lang/Object;"⟩, 3), (⟨"java/util/ArrayList", "grow", "(I)[Ljava/lang/Object;"⟩, 3), (⟨"PartitionedProcedureStore", "waitAtAllSites", "(LPartitionedProcedureStore$Task;)V"⟩, 13), (⟨"PartitionedProcedureStore", "comeToMarker", "(I)V"⟩, 13), (⟨"java/util/ArrayList", "fastRemove", "([Ljava/lang/Object;I)V"⟩, 3), (⟨"PartitionedProcedureStore", "completeSnapshotIfCopied", "()V"⟩, 13), (⟨"PartitionedProcedureStore", "dropLogUpTo", "(I)V"⟩, 13), (⟨"PartitionedProcedureStore", "raiseDurable", "(I)V"⟩, 13), (⟨"PartitionedProcedureStore", "areAllStalled", "()Z"⟩, 13), (⟨"PartitionedProcedureStore", "passOnAtAllSites", "()V"⟩, 13), (⟨"PartitionedProcedureStore", "finish", "(LPartitionedProcedureStore$Task;)V"⟩, 13), (⟨"PartitionedProcedureStore$Runner", "begin", "(LPartitionedProcedureStore$Task;)V"⟩, 8), (⟨"PartitionedProcedureStore$Runner", "execute", "(LPartitionedProcedureStore$Statement;)I"⟩, 8), (⟨"PartitionedProcedureStore$Runner", "readRow", "(LPartitionedProcedureStore$Statement;)I"⟩, 8), (⟨"PartitionedProcedureStore$Runner", "isPresent", "(I)Z"⟩, 8)]
theorem lw_r1 : ∀ q ∈ lw_privs_1, lw_okq q := List.forall_mem_cons.mpr ⟨lw_p0, List.forall_mem_cons.mpr ⟨lw_p1, List.forall_mem_cons.mpr ⟨lw_p2, List.forall_mem_cons.mpr ⟨lw_p3, List.forall_mem_cons.mpr ⟨lw_p4, List.forall_mem_cons.mpr ⟨lw_p5, List.forall_mem_cons.mpr ⟨lw_p6, List.forall_mem_cons.mpr ⟨lw_p7, List.forall_mem_cons.mpr ⟨lw_p8, List.forall_mem_cons.mpr ⟨lw_p9, List.forall_mem_cons.mpr ⟨lw_p10, List.forall_mem_cons.mpr ⟨lw_p11, List.forall_mem_cons.mpr ⟨lw_p12, List.forall_mem_cons.mpr ⟨lw_p13, List.forall_mem_cons.mpr ⟨lw_p14, List.forall_mem_cons.mpr ⟨lw_p15, fun _ h => absurd h List.not_mem_nil⟩⟩⟩⟩⟩⟩⟩⟩⟩⟩⟩⟩⟩⟩⟩⟩
theorem lw_p16 : lw_okq (⟨"PartitionedProcedureStore$Runner", "isReachable", "(I)Z"⟩, 8) := ⟨⟨by decide +kernel, by decide +kernel⟩, List.mem_of_getElem? (i := 87) (by decide +kernel), List.mem_of_getElem? (i := 530) (by decide +kernel), List.mem_of_getElem? (i := 531) (by decide +kernel)⟩
theorem lw_p17 : lw_okq (⟨"PartitionedProcedureStore$Runner", "writeRow", "(IJ)I"⟩, 8) := ⟨⟨by decide +kernel, by decide +kernel⟩, List.mem_of_getElem? (i := 87) (by decide +kernel), List.mem_of_getElem? (i := 535) (by decide +kernel), List.mem_of_getElem? (i := 536) (by decide +kernel)⟩
theorem lw_p18 : lw_okq (⟨"PartitionedProcedureStore$Runner", "loadCell", "(LPartitionedProcedureStore$Statement;)I"⟩, 8) := ⟨⟨by decide +kernel, by decide +kernel⟩, List.mem_of_getElem? (i := 87) (by decide +kernel), List.mem_of_getElem? (i := 539) (by decide +kernel), List.mem_of_getElem? (i := 540) (by decide +kernel)⟩
theorem lw_p19 : lw_okq (⟨"PartitionedProcedureStore$Runner", "storeCell", "(LPartitionedProcedureStore$Statement;)I"⟩, 8) := ⟨⟨by decide +kernel, by decide +kernel⟩, List.mem_of_getElem? (i := 87) (by decide +kernel), List.mem_of_getElem? (i := 544) (by decide +kernel), List.mem_of_getElem? (i := 545) (by decide +kernel)⟩
theorem lw_p20 : lw_okq (⟨"PartitionedProcedureStore$Runner", "putOut", "(I)I"⟩, 8) := ⟨⟨by decide +kernel, by decide +kernel⟩, List.mem_of_getElem? (i := 87) (by decide +kernel), List.mem_of_getElem? (i := 548) (by decide +kernel), List.mem_of_getElem? (i := 549) (by decide +kernel)⟩
theorem lw_p21 : lw_okq (⟨"PartitionedProcedureStore$Runner", "abort", "(I)V"⟩, 8) := ⟨⟨by decide +kernel, by decide +kernel⟩, List.mem_of_getElem? (i := 87) (by decide +kernel), List.mem_of_getElem? (i := 552) (by decide +kernel), List.mem_of_getElem? (i := 553) (by decide +kernel)⟩
theorem lw_p22 : lw_okq (⟨"PartitionedProcedureStore", "dropLogAbove", "(I)V"⟩, 13) := ⟨⟨by decide +kernel, by decide +kernel⟩, List.mem_of_getElem? (i := 20) (by decide +kernel), List.mem_of_getElem? (i := 586) (by decide +kernel), List.mem_of_getElem? (i := 587) (by decide +kernel)⟩
theorem lw_p23 : lw_okq (⟨"PartitionedProcedureStore", "stalledNumber", "()I"⟩, 13) := ⟨⟨by decide +kernel, by decide +kernel⟩, List.mem_of_getElem? (i := 20) (by decide +kernel), List.mem_of_getElem? (i := 625) (by decide +kernel), List.mem_of_getElem? (i := 626) (by decide +kernel)⟩
theorem lw_p24 : lw_okq (⟨"PartitionedProcedureStoreModel", "logged", "()I"⟩, 33) := ⟨⟨by decide +kernel, by decide +kernel⟩, List.mem_of_getElem? (i := 632) (by decide +kernel), List.mem_of_getElem? (i := 758) (by decide +kernel), List.mem_of_getElem? (i := 759) (by decide +kernel)⟩
theorem lw_p25 : lw_okq (⟨"PartitionedProcedureStoreModel", "next", "(I)I"⟩, 33) := ⟨⟨by decide +kernel, by decide +kernel⟩, List.mem_of_getElem? (i := 632) (by decide +kernel), List.mem_of_getElem? (i := 762) (by decide +kernel), List.mem_of_getElem? (i := 763) (by decide +kernel)⟩
theorem lw_p26 : lw_okq (⟨"PartitionedProcedureStoreModel", "waits", "(II)Z"⟩, 33) := ⟨⟨by decide +kernel, by decide +kernel⟩, List.mem_of_getElem? (i := 632) (by decide +kernel), List.mem_of_getElem? (i := 770) (by decide +kernel), List.mem_of_getElem? (i := 771) (by decide +kernel)⟩
theorem lw_p27 : lw_okq (⟨"PartitionedProcedureStoreModel", "partitionOf", "(I)I"⟩, 33) := ⟨⟨by decide +kernel, by decide +kernel⟩, List.mem_of_getElem? (i := 632) (by decide +kernel), List.mem_of_getElem? (i := 774) (by decide +kernel), List.mem_of_getElem? (i := 775) (by decide +kernel)⟩
theorem lw_p28 : lw_okq (⟨"PartitionedProcedureStoreModel", "rowsOf", "(I)I"⟩, 33) := ⟨⟨by decide +kernel, by decide +kernel⟩, List.mem_of_getElem? (i := 632) (by decide +kernel), List.mem_of_getElem? (i := 778) (by decide +kernel), List.mem_of_getElem? (i := 779) (by decide +kernel)⟩
theorem lw_p29 : lw_okq (⟨"PartitionedProcedureStoreModel", "completeIfDone", "()V"⟩, 33) := ⟨⟨by decide +kernel, by decide +kernel⟩, List.mem_of_getElem? (i := 632) (by decide +kernel), List.mem_of_getElem? (i := 782) (by decide +kernel), List.mem_of_getElem? (i := 783) (by decide +kernel)⟩
theorem lw_p30 : lw_okq (⟨"PartitionedProcedureStoreModel", "replay", "(I)V"⟩, 33) := ⟨⟨by decide +kernel, by decide +kernel⟩, List.mem_of_getElem? (i := 632) (by decide +kernel), List.mem_of_getElem? (i := 786) (by decide +kernel), List.mem_of_getElem? (i := 787) (by decide +kernel)⟩
theorem lw_p31 : lw_okq (⟨"PartitionedProcedureStoreModel", "execute", "(I)V"⟩, 33) := ⟨⟨by decide +kernel, by decide +kernel⟩, List.mem_of_getElem? (i := 632) (by decide +kernel), List.mem_of_getElem? (i := 790) (by decide +kernel), List.mem_of_getElem? (i := 791) (by decide +kernel)⟩
def lw_privs_2 : List (MethodName × Nat) := [(⟨"PartitionedProcedureStore$Runner", "isReachable", "(I)Z"⟩, 8), (⟨"PartitionedProcedureStore$Runner", "writeRow", "(IJ)I"⟩, 8), (⟨"PartitionedProcedureStore$Runner", "loadCell", "(LPartitionedProcedureStore$Statement;)I"⟩, 8), (⟨"PartitionedProcedureStore$Runner", "storeCell", "(LPartitionedProcedureStore$Statement;)I"⟩, 8), (⟨"PartitionedProcedureStore$Runner", "putOut", "(I)I"⟩, 8), (⟨"PartitionedProcedureStore$Runner", "abort", "(I)V"⟩, 8), (⟨"PartitionedProcedureStore", "dropLogAbove", "(I)V"⟩, 13), (⟨"PartitionedProcedureStore", "stalledNumber", "()I"⟩, 13), (⟨"PartitionedProcedureStoreModel", "logged", "()I"⟩, 33), (⟨"PartitionedProcedureStoreModel", "next", "(I)I"⟩, 33), (⟨"PartitionedProcedureStoreModel", "waits", "(II)Z"⟩, 33), (⟨"PartitionedProcedureStoreModel", "partitionOf", "(I)I"⟩, 33), (⟨"PartitionedProcedureStoreModel", "rowsOf", "(I)I"⟩, 33), (⟨"PartitionedProcedureStoreModel", "completeIfDone", "()V"⟩, 33), (⟨"PartitionedProcedureStoreModel", "replay", "(I)V"⟩, 33), (⟨"PartitionedProcedureStoreModel", "execute", "(I)V"⟩, 33)]
theorem lw_r2 : ∀ q ∈ lw_privs_2, lw_okq q := List.forall_mem_cons.mpr ⟨lw_p16, List.forall_mem_cons.mpr ⟨lw_p17, List.forall_mem_cons.mpr ⟨lw_p18, List.forall_mem_cons.mpr ⟨lw_p19, List.forall_mem_cons.mpr ⟨lw_p20, List.forall_mem_cons.mpr ⟨lw_p21, List.forall_mem_cons.mpr ⟨lw_p22, List.forall_mem_cons.mpr ⟨lw_p23, List.forall_mem_cons.mpr ⟨lw_p24, List.forall_mem_cons.mpr ⟨lw_p25, List.forall_mem_cons.mpr ⟨lw_p26, List.forall_mem_cons.mpr ⟨lw_p27, List.forall_mem_cons.mpr ⟨lw_p28, List.forall_mem_cons.mpr ⟨lw_p29, List.forall_mem_cons.mpr ⟨lw_p30, List.forall_mem_cons.mpr ⟨lw_p31, fun _ h => absurd h List.not_mem_nil⟩⟩⟩⟩⟩⟩⟩⟩⟩⟩⟩⟩⟩⟩⟩⟩
theorem lw_p32 : lw_okq (⟨"PartitionedProcedureStoreModel", "statement", "(II)Z"⟩, 33) := ⟨⟨by decide +kernel, by decide +kernel⟩, List.mem_of_getElem? (i := 632) (by decide +kernel), List.mem_of_getElem? (i := 794) (by decide +kernel), List.mem_of_getElem? (i := 795) (by decide +kernel)⟩
theorem lw_p33 : lw_okq (⟨"PartitionedProcedureStoreModel", "foreign", "(II)Z"⟩, 33) := ⟨⟨by decide +kernel, by decide +kernel⟩, List.mem_of_getElem? (i := 632) (by decide +kernel), List.mem_of_getElem? (i := 798) (by decide +kernel), List.mem_of_getElem? (i := 799) (by decide +kernel)⟩
theorem lw_p34 : lw_okq (⟨"PartitionedProcedureStoreModel", "put", "(IZI)Z"⟩, 33) := ⟨⟨by decide +kernel, by decide +kernel⟩, List.mem_of_getElem? (i := 632) (by decide +kernel), List.mem_of_getElem? (i := 802) (by decide +kernel), List.mem_of_getElem? (i := 803) (by decide +kernel)⟩
theorem lw_p35 : lw_okq (⟨"PartitionedProcedureStoreModel", "tellClients", "()V"⟩, 33) := ⟨⟨by decide +kernel, by decide +kernel⟩, List.mem_of_getElem? (i := 632) (by decide +kernel), List.mem_of_getElem? (i := 806) (by decide +kernel), List.mem_of_getElem? (i := 807) (by decide +kernel)⟩
theorem lw_p36 : lw_okq (⟨"PartitionedProcedureStoreModel", "stalledAt", "()I"⟩, 33) := ⟨⟨by decide +kernel, by decide +kernel⟩, List.mem_of_getElem? (i := 632) (by decide +kernel), List.mem_of_getElem? (i := 855) (by decide +kernel), List.mem_of_getElem? (i := 856) (by decide +kernel)⟩
def lw_privs_3 : List (MethodName × Nat) := [(⟨"PartitionedProcedureStoreModel", "statement", "(II)Z"⟩, 33), (⟨"PartitionedProcedureStoreModel", "foreign", "(II)Z"⟩, 33), (⟨"PartitionedProcedureStoreModel", "put", "(IZI)Z"⟩, 33), (⟨"PartitionedProcedureStoreModel", "tellClients", "()V"⟩, 33), (⟨"PartitionedProcedureStoreModel", "stalledAt", "()I"⟩, 33)]
theorem lw_r3 : ∀ q ∈ lw_privs_3, lw_okq q := List.forall_mem_cons.mpr ⟨lw_p32, List.forall_mem_cons.mpr ⟨lw_p33, List.forall_mem_cons.mpr ⟨lw_p34, List.forall_mem_cons.mpr ⟨lw_p35, List.forall_mem_cons.mpr ⟨lw_p36, fun _ h => absurd h List.not_mem_nil⟩⟩⟩⟩⟩
def lw_privs : List (MethodName × Nat) := lw_privs_1 ++ (lw_privs_2 ++ (lw_privs_3))
def lw_tbl : List Cond := k2_sels lw_privs ++ tables_1
theorem lw_privs_ok : ∀ q ∈ lw_privs, lw_okq q := by
  show ∀ q ∈ lw_privs_1 ++ (lw_privs_2 ++ (lw_privs_3)), lw_okq q
  exact List.forall_mem_append.mpr ⟨lw_r1, List.forall_mem_append.mpr ⟨lw_r2, lw_r3⟩⟩
/-! names: classes and their fields, array types, the good words of the tables -/
def T_0 : u_T := fun k => match k with
  | 0 => ("PartitionedProcedureStore", "partitions", "I", true)
  | 1 => ("PartitionedProcedureStore", "procedures", "[LPartitionedProcedureStore$Procedure;", true)
  | 2 => ("PartitionedProcedureStore", "draft", "LPartitionedProcedureStore$Procedure;", false)
  | 3 => ("PartitionedProcedureStore", "sites", "[LPartitionedProcedureStore$Site;", true)
  | 4 => ("PartitionedProcedureStore", "clients", "[LPartitionedProcedureStore$Client;", true)
  | 5 => ("PartitionedProcedureStore", "log", "Ljava/util/ArrayList;", true)
  | 6 => ("PartitionedProcedureStore", "runner", "LPartitionedProcedureStore$Runner;", true)
  | 7 => ("PartitionedProcedureStore", "complete", "LPartitionedProcedureStore$Table;", true)
  | 8 => ("PartitionedProcedureStore", "completeMarker", "I", false)
  | 9 => ("PartitionedProcedureStore", "underWay", "LPartitionedProcedureStore$Table;", true)
  | 10 => ("PartitionedProcedureStore", "underWayMarker", "I", false)
  | 11 => ("PartitionedProcedureStore", "lastNumber", "I", false)
  | _ => ("PartitionedProcedureStore", "durable", "I", false)
def ty_0 : Nat → FieldType := fun k => match k with
  | 0 => .int
  | 1 => (.array (.object "PartitionedProcedureStore$Procedure"))
  | 2 => (.object "PartitionedProcedureStore$Procedure")
  | 3 => (.array (.object "PartitionedProcedureStore$Site"))
  | 4 => (.array (.object "PartitionedProcedureStore$Client"))
  | 5 => (.object "java/util/ArrayList")
  | 6 => (.object "PartitionedProcedureStore$Runner")
  | 7 => (.object "PartitionedProcedureStore$Table")
  | 8 => .int
  | 9 => (.object "PartitionedProcedureStore$Table")
  | 10 => .int
  | 11 => .int
  | _ => .int
theorem nm_0 : ∀ a, a < 13 → ∀ b, b < 13 → a ≠ b → (T_0 a).2.1 ≠ (T_0 b).2.1 := by decide +kernel
theorem tyok_0 : ∀ k, k < 13 → parseFieldDescriptor (T_0 k).2.2.1 = some (ty_0 k) := by decide +kernel
def T_1 : u_T := fun k => match k with
  | 0 => ("PartitionedProcedureStore$Client", "state", "I", false)
  | 1 => ("PartitionedProcedureStore$Client", "number", "I", false)
  | 2 => ("PartitionedProcedureStore$Client", "done", "Z", false)
  | 3 => ("PartitionedProcedureStore$Client", "committed", "Z", false)
  | 4 => ("PartitionedProcedureStore$Client", "fault", "I", false)
  | 5 => ("PartitionedProcedureStore$Client", "outputSize", "I", false)
  | _ => ("PartitionedProcedureStore$Client", "outputs", "[I", true)
def ty_1 : Nat → FieldType := fun k => match k with
  | 0 => .int
  | 1 => .int
  | 2 => .boolean
  | 3 => .boolean
  | 4 => .int
  | 5 => .int
  | _ => (.array .int)
theorem nm_1 : ∀ a, a < 7 → ∀ b, b < 7 → a ≠ b → (T_1 a).2.1 ≠ (T_1 b).2.1 := by decide +kernel
theorem tyok_1 : ∀ k, k < 7 → parseFieldDescriptor (T_1 k).2.2.1 = some (ty_1 k) := by decide +kernel
def T_2 : u_T := fun k => match k with
  | 0 => ("PartitionedProcedureStore$Procedure", "statements", "Ljava/util/ArrayList;", true)
  | 1 => ("PartitionedProcedureStore$Procedure", "multi", "Z", false)
  | _ => ("PartitionedProcedureStore$Procedure", "deployed", "Z", false)
def ty_2 : Nat → FieldType := fun k => match k with
  | 0 => (.object "java/util/ArrayList")
  | 1 => .boolean
  | _ => .boolean
theorem nm_2 : ∀ a, a < 3 → ∀ b, b < 3 → a ≠ b → (T_2 a).2.1 ≠ (T_2 b).2.1 := by decide +kernel
theorem tyok_2 : ∀ k, k < 3 → parseFieldDescriptor (T_2 k).2.2.1 = some (ty_2 k) := by decide +kernel
def T_3 : u_T := fun k => match k with
  | 0 => ("PartitionedProcedureStore$Runner", "live", "LPartitionedProcedureStore$Table;", true)
  | 1 => ("PartitionedProcedureStore$Runner", "partitions", "I", true)
  | 2 => ("PartitionedProcedureStore$Runner", "before", "LPartitionedProcedureStore$Table;", true)
  | 3 => ("PartitionedProcedureStore$Runner", "registers", "[I", true)
  | 4 => ("PartitionedProcedureStore$Runner", "home", "I", false)
  | 5 => ("PartitionedProcedureStore$Runner", "outputs", "[I", true)
  | 6 => ("PartitionedProcedureStore$Runner", "outputSize", "I", false)
  | _ => ("PartitionedProcedureStore$Runner", "fault", "I", false)
def ty_3 : Nat → FieldType := fun k => match k with
  | 0 => (.object "PartitionedProcedureStore$Table")
  | 1 => .int
  | 2 => (.object "PartitionedProcedureStore$Table")
  | 3 => (.array .int)
  | 4 => .int
  | 5 => (.array .int)
  | 6 => .int
  | _ => .int
theorem nm_3 : ∀ a, a < 8 → ∀ b, b < 8 → a ≠ b → (T_3 a).2.1 ≠ (T_3 b).2.1 := by decide +kernel
theorem tyok_3 : ∀ k, k < 8 → parseFieldDescriptor (T_3 k).2.2.1 = some (ty_3 k) := by decide +kernel
def T_4 : u_T := fun k => match k with
  | 0 => ("PartitionedProcedureStore$Site", "queue", "Ljava/util/ArrayList;", true)
  | 1 => ("PartitionedProcedureStore$Site", "stalled", "Z", false)
  | 2 => ("PartitionedProcedureStore$Site", "marked", "Z", false)
  | _ => ("PartitionedProcedureStore$Site", "rowsLeft", "I", false)
def ty_4 : Nat → FieldType := fun k => match k with
  | 0 => (.object "java/util/ArrayList")
  | 1 => .boolean
  | 2 => .boolean
  | _ => .int
theorem nm_4 : ∀ a, a < 4 → ∀ b, b < 4 → a ≠ b → (T_4 a).2.1 ≠ (T_4 b).2.1 := by decide +kernel
theorem tyok_4 : ∀ k, k < 4 → parseFieldDescriptor (T_4 k).2.2.1 = some (ty_4 k) := by decide +kernel
def T_5 : u_T := fun k => match k with
  | 0 => ("PartitionedProcedureStore$Statement", "op", "I", true)
  | 1 => ("PartitionedProcedureStore$Statement", "x", "I", true)
  | 2 => ("PartitionedProcedureStore$Statement", "y", "I", true)
  | _ => ("PartitionedProcedureStore$Statement", "z", "I", true)
def ty_5 : Nat → FieldType := fun k => match k with
  | 0 => .int
  | 1 => .int
  | 2 => .int
  | _ => .int
theorem nm_5 : ∀ a, a < 4 → ∀ b, b < 4 → a ≠ b → (T_5 a).2.1 ≠ (T_5 b).2.1 := by decide +kernel
theorem tyok_5 : ∀ k, k < 4 → parseFieldDescriptor (T_5 k).2.2.1 = some (ty_5 k) := by decide +kernel
def T_6 : u_T := fun k => match k with
  | 0 => ("PartitionedProcedureStore$Table", "values", "[J", true)
  | _ => ("PartitionedProcedureStore$Table", "cells", "[I", true)
def ty_6 : Nat → FieldType := fun k => match k with
  | 0 => (.array .long)
  | _ => (.array .int)
theorem nm_6 : ∀ a, a < 2 → ∀ b, b < 2 → a ≠ b → (T_6 a).2.1 ≠ (T_6 b).2.1 := by decide +kernel
theorem tyok_6 : ∀ k, k < 2 → parseFieldDescriptor (T_6 k).2.2.1 = some (ty_6 k) := by decide +kernel
def T_7 : u_T := fun k => match k with
  | 0 => ("PartitionedProcedureStore$Task", "number", "I", true)
  | 1 => ("PartitionedProcedureStore$Task", "client", "I", true)
  | 2 => ("PartitionedProcedureStore$Task", "procedure", "LPartitionedProcedureStore$Procedure;", true)
  | 3 => ("PartitionedProcedureStore$Task", "a", "I", true)
  | 4 => ("PartitionedProcedureStore$Task", "b", "I", true)
  | _ => ("PartitionedProcedureStore$Task", "c", "I", true)
def ty_7 : Nat → FieldType := fun k => match k with
  | 0 => .int
  | 1 => .int
  | 2 => (.object "PartitionedProcedureStore$Procedure")
  | 3 => .int
  | 4 => .int
  | _ => .int
theorem nm_7 : ∀ a, a < 6 → ∀ b, b < 6 → a ≠ b → (T_7 a).2.1 ≠ (T_7 b).2.1 := by decide +kernel
theorem tyok_7 : ∀ k, k < 6 → parseFieldDescriptor (T_7 k).2.2.1 = some (ty_7 k) := by decide +kernel
def T_8 : u_T := fun k => match k with
  | 0 => ("java/util/ArrayList", "elementData", "[Ljava/lang/Object;", false)
  | 1 => ("java/util/ArrayList", "size", "I", false)
  | _ => ("java/util/AbstractList", "modCount", "I", false)
def ty_8 : Nat → FieldType := fun k => match k with
  | 0 => (.array (.object "java/lang/Object"))
  | 1 => .int
  | _ => .int
theorem nm_8 : ∀ a, a < 3 → ∀ b, b < 3 → a ≠ b → (T_8 a).2.1 ≠ (T_8 b).2.1 := by decide +kernel
theorem tyok_8 : ∀ k, k < 3 → parseFieldDescriptor (T_8 k).2.2.1 = some (ty_8 k) := by decide +kernel
def T_9 : u_T := fun k => match k with
  | 0 => ("PartitionedProcedureStoreModel", "sites", "I", true)
  | 1 => ("PartitionedProcedureStoreModel", "there", "[Z", true)
  | 2 => ("PartitionedProcedureStoreModel", "held", "[I", true)
  | 3 => ("PartitionedProcedureStoreModel", "baseThere", "[Z", true)
  | 4 => ("PartitionedProcedureStoreModel", "baseHeld", "[I", true)
  | 5 => ("PartitionedProcedureStoreModel", "oldThere", "[Z", true)
  | 6 => ("PartitionedProcedureStoreModel", "oldHeld", "[I", true)
  | 7 => ("PartitionedProcedureStoreModel", "deployed", "[Z", true)
  | 8 => ("PartitionedProcedureStoreModel", "multi", "[Z", true)
  | 9 => ("PartitionedProcedureStoreModel", "statements", "[I", true)
  | 10 => ("PartitionedProcedureStoreModel", "op", "[I", true)
  | 11 => ("PartitionedProcedureStoreModel", "x", "[I", true)
  | 12 => ("PartitionedProcedureStoreModel", "y", "[I", true)
  | 13 => ("PartitionedProcedureStoreModel", "z", "[I", true)
  | 14 => ("PartitionedProcedureStoreModel", "drafting", "I", false)
  | 15 => ("PartitionedProcedureStoreModel", "last", "I", false)
  | 16 => ("PartitionedProcedureStoreModel", "procedure", "[I", true)
  | 17 => ("PartitionedProcedureStoreModel", "arguments", "[I", true)
  | 18 => ("PartitionedProcedureStoreModel", "done", "[Z", true)
  | 19 => ("PartitionedProcedureStoreModel", "came", "[I", true)
  | 20 => ("PartitionedProcedureStoreModel", "fault", "[I", true)
  | 21 => ("PartitionedProcedureStoreModel", "outs", "[I", true)
  | 22 => ("PartitionedProcedureStoreModel", "out", "[I", true)
  | 23 => ("PartitionedProcedureStoreModel", "durable", "I", false)
  | 24 => ("PartitionedProcedureStoreModel", "complete", "I", false)
  | 25 => ("PartitionedProcedureStoreModel", "underWay", "I", false)
  | 26 => ("PartitionedProcedureStoreModel", "left", "[I", true)
  | 27 => ("PartitionedProcedureStoreModel", "state", "[I", true)
  | 28 => ("PartitionedProcedureStoreModel", "command", "[I", true)
  | 29 => ("PartitionedProcedureStoreModel", "shownOuts", "[I", true)
  | 30 => ("PartitionedProcedureStoreModel", "shownOut", "[I", true)
  | 31 => ("PartitionedProcedureStoreModel", "shownFault", "[I", true)
  | _ => ("PartitionedProcedureStoreModel", "register", "[I", true)
def ty_9 : Nat → FieldType := fun k => match k with
  | 0 => .int
  | 1 => (.array .boolean)
  | 2 => (.array .int)
  | 3 => (.array .boolean)
  | 4 => (.array .int)
  | 5 => (.array .boolean)
  | 6 => (.array .int)
  | 7 => (.array .boolean)
  | 8 => (.array .boolean)
  | 9 => (.array .int)
  | 10 => (.array .int)
  | 11 => (.array .int)
  | 12 => (.array .int)
  | 13 => (.array .int)
  | 14 => .int
  | 15 => .int
  | 16 => (.array .int)
  | 17 => (.array .int)
  | 18 => (.array .boolean)
  | 19 => (.array .int)
  | 20 => (.array .int)
  | 21 => (.array .int)
  | 22 => (.array .int)
  | 23 => .int
  | 24 => .int
  | 25 => .int
  | 26 => (.array .int)
  | 27 => (.array .int)
  | 28 => (.array .int)
  | 29 => (.array .int)
  | 30 => (.array .int)
  | 31 => (.array .int)
  | _ => (.array .int)
theorem nm_9 : ∀ a, a < 33 → ∀ b, b < 33 → a ≠ b → (T_9 a).2.1 ≠ (T_9 b).2.1 := by decide +kernel
theorem tyok_9 : ∀ k, k < 33 → parseFieldDescriptor (T_9 k).2.2.1 = some (ty_9 k) := by decide +kernel
abbrev R_S : String := "PartitionedProcedureStore"
abbrev R_C : String := "PartitionedProcedureStore$Client"
abbrev R_P : String := "PartitionedProcedureStore$Procedure"
abbrev R_R : String := "PartitionedProcedureStore$Runner"
abbrev R_Q : String := "PartitionedProcedureStore$Site"
abbrev R_T : String := "PartitionedProcedureStore$Statement"
abbrev R_B : String := "PartitionedProcedureStore$Table"
abbrev R_K : String := "PartitionedProcedureStore$Task"
abbrev R_A : String := "java/util/ArrayList"
abbrev R_M : String := "PartitionedProcedureStoreModel"
abbrev R_L : String := "PartitionedProcedureStoreLaw"
abbrev R_Ab : String := "java/util/AbstractList"
abbrev R_Ac : String := "java/util/AbstractCollection"
abbrev R_Ar : String := "java/util/Arrays"
abbrev R_Ma : String := "java/lang/Math"
abbrev R_As : String := "jdk/internal/util/ArraysSupport"
abbrev R_Oj : String := "java/util/Objects"
abbrev R_Pc : String := "jdk/internal/util/Preconditions"
abbrev R_Ob : String := "java/lang/Object"
def classes : List vw_C := [("PartitionedProcedureStore", T_0, 13), ("PartitionedProcedureStore$Client", T_1, 7), ("PartitionedProcedureStore$Procedure", T_2, 3), ("PartitionedProcedureStore$Runner", T_3, 8), ("PartitionedProcedureStore$Site", T_4, 4), ("PartitionedProcedureStore$Statement", T_5, 4), ("PartitionedProcedureStore$Table", T_6, 2), ("PartitionedProcedureStore$Task", T_7, 6), ("java/util/ArrayList", T_8, 3), ("PartitionedProcedureStoreModel", T_9, 33)]
set_option maxRecDepth 20000 in
theorem hc_0 : classes[0]? = some ("PartitionedProcedureStore", T_0, 13) := rfl
set_option maxRecDepth 20000 in
theorem hc_1 : classes[1]? = some ("PartitionedProcedureStore$Client", T_1, 7) := rfl
set_option maxRecDepth 20000 in
theorem hc_2 : classes[2]? = some ("PartitionedProcedureStore$Procedure", T_2, 3) := rfl
set_option maxRecDepth 20000 in
theorem hc_3 : classes[3]? = some ("PartitionedProcedureStore$Runner", T_3, 8) := rfl
set_option maxRecDepth 20000 in
theorem hc_4 : classes[4]? = some ("PartitionedProcedureStore$Site", T_4, 4) := rfl
set_option maxRecDepth 20000 in
theorem hc_5 : classes[5]? = some ("PartitionedProcedureStore$Statement", T_5, 4) := rfl
set_option maxRecDepth 20000 in
theorem hc_6 : classes[6]? = some ("PartitionedProcedureStore$Table", T_6, 2) := rfl
set_option maxRecDepth 20000 in
theorem hc_7 : classes[7]? = some ("PartitionedProcedureStore$Task", T_7, 6) := rfl
set_option maxRecDepth 20000 in
theorem hc_8 : classes[8]? = some ("java/util/ArrayList", T_8, 3) := rfl
set_option maxRecDepth 20000 in
theorem hc_9 : classes[9]? = some ("PartitionedProcedureStoreModel", T_9, 33) := rfl
def aT : List FieldType := [.int, .long, .boolean, .object "java/lang/Object", .object "PartitionedProcedureStore$Procedure", .object "PartitionedProcedureStore$Client", .object "PartitionedProcedureStore$Site"]
def aoL : List String := ["java/lang/Object", "PartitionedProcedureStore$Procedure", "PartitionedProcedureStore$Client", "PartitionedProcedureStore$Site"]
def TBL : List Cond := lw_tbl.filter goodWord
def nestW : List Cond := [(Cond.methodLinkNest "PartitionedProcedureStore" 76 ⟨"PartitionedProcedureStore$Procedure", "<init>", "()V"⟩ "PartitionedProcedureStore"), (Cond.methodLinkNest "PartitionedProcedureStore" 77 ⟨"PartitionedProcedureStore$Client", "<init>", "()V"⟩ "PartitionedProcedureStore"), (Cond.methodLinkNest "PartitionedProcedureStore" 84 ⟨"PartitionedProcedureStore$Site", "<init>", "()V"⟩ "PartitionedProcedureStore"), (Cond.methodLinkNest "PartitionedProcedureStore$Runner" 144 ⟨"PartitionedProcedureStore", "isWithin", "(II)Z"⟩ "PartitionedProcedureStore"), (Cond.methodLinkNest "PartitionedProcedureStore$Client" 46 ⟨"PartitionedProcedureStore", "isWithin", "(II)Z"⟩ "PartitionedProcedureStore"), (Cond.castable "PartitionedProcedureStore$Statement" "PartitionedProcedureStore$Statement"), (Cond.castable "PartitionedProcedureStore$Task" "PartitionedProcedureStore$Task"), (Cond.declares ⟨"java/lang/Object", "getClass", "()Ljava/lang/Class;"⟩), (Cond.castable "PartitionedProcedureStore" "java/lang/Object"), (Cond.castable "PartitionedProcedureStore$Table" "java/lang/Object"), (Cond.castable "PartitionedProcedureStore$Runner" "java/lang/Object"), (Cond.castable "PartitionedProcedureStore$Procedure" "java/lang/Object"), (Cond.castable "PartitionedProcedureStore$Client" "java/lang/Object"), (Cond.castable "PartitionedProcedureStore$Site" "java/lang/Object"), (Cond.castable "PartitionedProcedureStoreModel" "java/lang/Object"), (Cond.castable "PartitionedProcedureStore$Statement" "java/lang/Object"), (Cond.castable "PartitionedProcedureStore$Task" "java/lang/Object")]
def nestOk (w : Cond) : Bool := match w with
  | .fieldLinkNest .. => true
  | .methodLinkNest .. => true
  | .castable .. => true
  | .declares .. => true
  | _ => false
set_option maxRecDepth 20000 in
theorem nestW_ok : ∀ w ∈ nestW, nestOk w = true := by decide +kernel
set_option maxRecDepth 20000 in
theorem nestW_tab : ∀ w ∈ nestW, w.onTables = true := by decide +kernel
set_option maxRecDepth 20000 in
theorem nestW_in : ∀ w ∈ nestW, w ∈ lw_tbl := by decide +kernel
theorem NW_getClass : Cond.declares ⟨"java/lang/Object", "getClass", "()Ljava/lang/Class;"⟩ ∈ nestW := by decide +kernel
set_option maxRecDepth 20000 in
theorem tb0 {w : Cond} (j : Nat) (h : tables_1_1[j]? = some w) (hg : goodWord w = true) : w ∈ TBL := List.mem_filter.mpr ⟨List.mem_append_right _ (List.mem_append_left _ (List.mem_of_getElem? h)), hg⟩
set_option maxRecDepth 20000 in
theorem tb1 {w : Cond} (j : Nat) (h : tables_1_2[j]? = some w) (hg : goodWord w = true) : w ∈ TBL := List.mem_filter.mpr ⟨List.mem_append_right _ (List.mem_append_right _ (List.mem_append_left _ (List.mem_of_getElem? h))), hg⟩
set_option maxRecDepth 20000 in
theorem tb2 {w : Cond} (j : Nat) (h : tables_1_3[j]? = some w) (hg : goodWord w = true) : w ∈ TBL := List.mem_filter.mpr ⟨List.mem_append_right _ (List.mem_append_right _ (List.mem_append_right _ (List.mem_append_left _ (List.mem_of_getElem? h)))), hg⟩
set_option maxRecDepth 20000 in
theorem tb3 {w : Cond} (j : Nat) (h : tables_1_4[j]? = some w) (hg : goodWord w = true) : w ∈ TBL := List.mem_filter.mpr ⟨List.mem_append_right _ (List.mem_append_right _ (List.mem_append_right _ (List.mem_append_right _ (List.mem_of_getElem? h)))), hg⟩
set_option maxRecDepth 20000 in
theorem tbS {w : Cond} (j : Nat) (h : (k2_sels lw_privs)[j]? = some w) (hg : goodWord w = true) : w ∈ TBL := List.mem_filter.mpr ⟨List.mem_append_left _ (List.mem_of_getElem? h), hg⟩
theorem TBL_lw {w : Cond} (h : w ∈ TBL) : w ∈ lw_tbl := (List.mem_filter.mp h).1
theorem TBL_good {w : Cond} (h : w ∈ TBL) : (w.onTables && w.keeps) = true ∨ ∃ ty, w = .arrayClass ty := good_of_word (List.mem_filter.mp h).2
theorem gd_big {big : List Cond} (hb : ∀ w ∈ TBL, w ∈ big) {ws : List Cond} (h : ∀ w ∈ ws, w ∈ TBL) : GoodIn big ws := fun w hw => ⟨hb w (h w hw), TBL_good (h w hw)⟩
theorem gd_of {ws : List Cond} (h : ∀ w ∈ ws, w ∈ TBL) : GoodIn TBL ws := gd_big (fun _ h => h) h
set_option maxRecDepth 20000 in
theorem in_cons {a : Cond} {ws : List Cond} (ha : a ∈ TBL) (h : ∀ w ∈ ws, w ∈ TBL) : ∀ w ∈ a :: ws, w ∈ TBL := fun w hw => (List.mem_cons.mp hw).elim (fun g => g ▸ ha) (h w)
set_option maxRecDepth 20000 in
theorem in_all : ∀ w ∈ TBL, w ∈ TBL := fun _ h => h
theorem gd_in {y : MethodName} {b : ByteArray} {n : Nat} {r : Option FieldType} (h : Cond.code y b n r ∈ TBL) : GoodIn TBL (Cond.code y b n r :: TBL) := gd_of (in_cons h in_all)
theorem gd_V {own C : String} {i : Nat} {y : MethodName} {b : ByteArray} {n : Nat} {r : Option FieldType} (h1 : Cond.methodLink own i y ∈ TBL) (h2 : Cond.instanceMethod y ∈ TBL) (h3 : Cond.selects C y y ∈ TBL) (h4 : Cond.initialized C ∈ TBL) (h : Cond.code y b n r ∈ TBL) : GoodIn TBL (wsV own i C y (Cond.code y b n r :: TBL)) := gd_of (in_cons h1 (in_cons h2 (in_cons h3 (in_cons h4 (in_cons h in_all)))))
theorem gd_S {own : String} {i : Nat} {y : MethodName} {b : ByteArray} {n : Nat} {r : Option FieldType} (h1 : Cond.methodLink own i y ∈ TBL) (h2 : Cond.static y ∈ TBL) (h4 : Cond.initialized own ∈ TBL) (h : Cond.code y b n r ∈ TBL) : GoodIn TBL (wsS own i y (Cond.code y b n r :: TBL)) := gd_of (in_cons h1 (in_cons h2 (in_cons h4 (in_cons h in_all))))
theorem gd_S2 {own : String} {i : Nat} {y : MethodName} {b : ByteArray} {n : Nat} {r : Option FieldType} (h1 : Cond.methodLink own i y ∈ TBL) (h2 : Cond.static y ∈ TBL) (h4 : Cond.initialized y.cls ∈ TBL) (h : Cond.code y b n r ∈ TBL) : GoodIn TBL (va_wsS own i y (Cond.code y b n r :: TBL)) := gd_of (in_cons h1 (in_cons h2 (in_cons h4 (in_cons h in_all))))
set_option maxRecDepth 20000 in
theorem in_nil : ∀ w ∈ ([] : List Cond), w ∈ TBL := fun _ h => absurd h List.not_mem_nil
set_option maxRecDepth 20000 in
theorem in_0 : ∀ w ∈ u_ws "PartitionedProcedureStore" T_0 13, w ∈ TBL := (in_cons (tb0 212 rfl rfl) (in_cons (tb0 214 rfl rfl) (in_cons (tb0 216 rfl rfl) (in_cons (tb0 218 rfl rfl) (in_cons (tb0 220 rfl rfl) (in_cons (tb0 222 rfl rfl) (in_cons (tb0 224 rfl rfl) (in_cons (tb0 226 rfl rfl) (in_cons (tb0 228 rfl rfl) (in_cons (tb0 230 rfl rfl) (in_cons (tb0 232 rfl rfl) (in_cons (tb0 234 rfl rfl) (in_cons (tb0 236 rfl rfl) in_nil)))))))))))))
set_option maxRecDepth 20000 in
theorem in_1 : ∀ w ∈ u_ws "PartitionedProcedureStore$Client" T_1 7, w ∈ TBL := (in_cons (tb0 158 rfl rfl) (in_cons (tb0 160 rfl rfl) (in_cons (tb0 162 rfl rfl) (in_cons (tb0 164 rfl rfl) (in_cons (tb0 166 rfl rfl) (in_cons (tb0 168 rfl rfl) (in_cons (tb0 170 rfl rfl) in_nil)))))))
set_option maxRecDepth 20000 in
theorem in_2 : ∀ w ∈ u_ws "PartitionedProcedureStore$Procedure" T_2 3, w ∈ TBL := (in_cons (tb0 138 rfl rfl) (in_cons (tb0 140 rfl rfl) (in_cons (tb0 142 rfl rfl) in_nil)))
set_option maxRecDepth 20000 in
theorem in_3 : ∀ w ∈ u_ws "PartitionedProcedureStore$Runner" T_3 8, w ∈ TBL := (in_cons (tb0 106 rfl rfl) (in_cons (tb0 108 rfl rfl) (in_cons (tb0 110 rfl rfl) (in_cons (tb0 112 rfl rfl) (in_cons (tb0 114 rfl rfl) (in_cons (tb0 116 rfl rfl) (in_cons (tb0 118 rfl rfl) (in_cons (tb0 120 rfl rfl) in_nil))))))))
set_option maxRecDepth 20000 in
theorem in_4 : ∀ w ∈ u_ws "PartitionedProcedureStore$Site" T_4 4, w ∈ TBL := (in_cons (tb0 190 rfl rfl) (in_cons (tb0 192 rfl rfl) (in_cons (tb0 194 rfl rfl) (in_cons (tb0 196 rfl rfl) in_nil))))
set_option maxRecDepth 20000 in
theorem in_5 : ∀ w ∈ u_ws "PartitionedProcedureStore$Statement" T_5 4, w ∈ TBL := (in_cons (tb1 41 rfl rfl) (in_cons (tb1 43 rfl rfl) (in_cons (tb1 45 rfl rfl) (in_cons (tb1 47 rfl rfl) in_nil))))
set_option maxRecDepth 20000 in
theorem in_6 : ∀ w ∈ u_ws "PartitionedProcedureStore$Table" T_6 2, w ∈ TBL := (in_cons (tb0 73 rfl rfl) (in_cons (tb0 75 rfl rfl) in_nil))
set_option maxRecDepth 20000 in
theorem in_7 : ∀ w ∈ u_ws "PartitionedProcedureStore$Task" T_7 6, w ∈ TBL := (in_cons (tb1 150 rfl rfl) (in_cons (tb1 152 rfl rfl) (in_cons (tb1 154 rfl rfl) (in_cons (tb1 156 rfl rfl) (in_cons (tb1 158 rfl rfl) (in_cons (tb1 160 rfl rfl) in_nil))))))
set_option maxRecDepth 20000 in
theorem in_8 : ∀ w ∈ u_ws "java/util/ArrayList" T_8 3, w ∈ TBL := (in_cons (tb0 50 rfl rfl) (in_cons (tb0 52 rfl rfl) (in_cons (tb0 54 rfl rfl) in_nil)))
set_option maxRecDepth 20000 in
theorem in_9 : ∀ w ∈ u_ws "PartitionedProcedureStoreModel" T_9 33, w ∈ TBL := (in_cons (tb2 190 rfl rfl) (in_cons (tb2 192 rfl rfl) (in_cons (tb2 194 rfl rfl) (in_cons (tb2 196 rfl rfl) (in_cons (tb2 198 rfl rfl) (in_cons (tb2 200 rfl rfl) (in_cons (tb2 202 rfl rfl) (in_cons (tb2 204 rfl rfl) (in_cons (tb2 206 rfl rfl) (in_cons (tb2 208 rfl rfl) (in_cons (tb2 210 rfl rfl) (in_cons (tb2 212 rfl rfl) (in_cons (tb2 214 rfl rfl) (in_cons (tb2 216 rfl rfl) (in_cons (tb2 218 rfl rfl) (in_cons (tb2 220 rfl rfl) (in_cons (tb2 222 rfl rfl) (in_cons (tb2 224 rfl rfl) (in_cons (tb2 226 rfl rfl) (in_cons (tb2 228 rfl rfl) (in_cons (tb2 230 rfl rfl) (in_cons (tb2 232 rfl rfl) (in_cons (tb2 234 rfl rfl) (in_cons (tb2 236 rfl rfl) (in_cons (tb2 238 rfl rfl) (in_cons (tb3 0 rfl rfl) (in_cons (tb3 2 rfl rfl) (in_cons (tb3 4 rfl rfl) (in_cons (tb3 6 rfl rfl) (in_cons (tb3 8 rfl rfl) (in_cons (tb3 10 rfl rfl) (in_cons (tb3 12 rfl rfl) (in_cons (tb3 14 rfl rfl) in_nil)))))))))))))))))))))))))))))))))
