section
-- ===== PART A: goes FIRST, ahead of the names: the tables' words, and 'selects' of the private methods out of them =====
/-- a private method of a class that the tables say can be made, by its rows of tables_1 -/
def lw_okq (q : MethodName × Nat) : Prop := (q.1.cls ≠ "java/lang/invoke/MethodHandle" ∧ q.1.cls ≠ "java/lang/invoke/VarHandle") ∧ Cond.instantiable q.1.cls q.2 ∈ tables_1 ∧ Cond.privateMethod q.1 ∈ tables_1 ∧ Cond.instanceMethod q.1 ∈ tables_1
theorem lw_p0 : lw_okq (⟨"java/util/ArrayList", "add", "(Ljava/lang/Object;[Ljava/lang/Object;I)V"⟩, 3) := ⟨⟨by decide +kernel, by decide +kernel⟩, List.mem_of_getElem? (i := 32) (by decide +kernel), List.mem_of_getElem? (i := 295) (by decide +kernel), List.mem_of_getElem? (i := 296) (by decide +kernel)⟩
theorem lw_p1 : lw_okq (⟨"java/util/ArrayList", "grow", "()[Ljava/lang/Object;"⟩, 3) := ⟨⟨by decide +kernel, by decide +kernel⟩, List.mem_of_getElem? (i := 32) (by decide +kernel), List.mem_of_getElem? (i := 299) (by decide +kernel), List.mem_of_getElem? (i := 300) (by decide +kernel)⟩
theorem lw_p2 : lw_okq (⟨"java/util/ArrayList", "grow", "(I)[Ljava/lang/Object;"⟩, 3) := ⟨⟨by decide +kernel, by decide +kernel⟩, List.mem_of_getElem? (i := 32) (by decide +kernel), List.mem_of_getElem? (i := 303) (by decide +kernel), List.mem_of_getElem? (i := 304) (by decide +kernel)⟩
theorem lw_p3 : lw_okq (⟨"PartitionedProcedureStore", "waitAtAllSites", "(LPartitionedProcedureStore$Task;)V"⟩, 13) := ⟨⟨by decide +kernel, by decide +kernel⟩, List.mem_of_getElem? (i := 20) (by decide +kernel), List.mem_of_getElem? (i := 408) (by decide +kernel), List.mem_of_getElem? (i := 409) (by decide +kernel)⟩
theorem lw_p4 : lw_okq (⟨"PartitionedProcedureStore", "comeToMarker", "(I)V"⟩, 13) := ⟨⟨by decide +kernel, by decide +kernel⟩, List.mem_of_getElem? (i := 20) (by decide +kernel), List.mem_of_getElem? (i := 433) (by decide +kernel), List.mem_of_getElem? (i := 434) (by decide +kernel)⟩
theorem lw_p5 : lw_okq (⟨"java/util/ArrayList", "fastRemove", "([Ljava/lang/Object;I)V"⟩, 3) := ⟨⟨by decide +kernel, by decide +kernel⟩, List.mem_of_getElem? (i := 32) (by decide +kernel), List.mem_of_getElem? (i := 445) (by decide +kernel), List.mem_of_getElem? (i := 446) (by decide +kernel)⟩
theorem lw_p6 : lw_okq (⟨"PartitionedProcedureStore", "completeSnapshotIfCopied", "()V"⟩, 13) := ⟨⟨by decide +kernel, by decide +kernel⟩, List.mem_of_getElem? (i := 20) (by decide +kernel), List.mem_of_getElem? (i := 467) (by decide +kernel), List.mem_of_getElem? (i := 468) (by decide +kernel)⟩
theorem lw_p7 : lw_okq (⟨"PartitionedProcedureStore", "dropLogUpTo", "(I)V"⟩, 13) := ⟨⟨by decide +kernel, by decide +kernel⟩, List.mem_of_getElem? (i := 20) (by decide +kernel), List.mem_of_getElem? (i := 476) (by decide +kernel), List.mem_of_getElem? (i := 477) (by decide +kernel)⟩
theorem lw_p8 : lw_okq (⟨"PartitionedProcedureStore", "raiseDurable", "(I)V"⟩, 13) := ⟨⟨by decide +kernel, by decide +kernel⟩, List.mem_of_getElem? (i := 20) (by decide +kernel), List.mem_of_getElem? (i := 482) (by decide +kernel), List.mem_of_getElem? (i := 483) (by decide +kernel)⟩
theorem lw_p9 : lw_okq (⟨"PartitionedProcedureStore", "areAllStalled", "()Z"⟩, 13) := ⟨⟨by decide +kernel, by decide +kernel⟩, List.mem_of_getElem? (i := 20) (by decide +kernel), List.mem_of_getElem? (i := 490) (by decide +kernel), List.mem_of_getElem? (i := 491) (by decide +kernel)⟩
theorem lw_p10 : lw_okq (⟨"PartitionedProcedureStore", "passOnAtAllSites", "()V"⟩, 13) := ⟨⟨by decide +kernel, by decide +kernel⟩, List.mem_of_getElem? (i := 20) (by decide +kernel), List.mem_of_getElem? (i := 494) (by decide +kernel), List.mem_of_getElem? (i := 495) (by decide +kernel)⟩
theorem lw_p11 : lw_okq (⟨"PartitionedProcedureStore", "finish", "(LPartitionedProcedureStore$Task;)V"⟩, 13) := ⟨⟨by decide +kernel, by decide +kernel⟩, List.mem_of_getElem? (i := 20) (by decide +kernel), List.mem_of_getElem? (i := 498) (by decide +kernel), List.mem_of_getElem? (i := 499) (by decide +kernel)⟩
theorem lw_p12 : lw_okq (⟨"PartitionedProcedureStore$Runner", "begin", "(LPartitionedProcedureStore$Task;)V"⟩, 8) := ⟨⟨by decide +kernel, by decide +kernel⟩, List.mem_of_getElem? (i := 87) (by decide +kernel), List.mem_of_getElem? (i := 506) (by decide +kernel), List.mem_of_getElem? (i := 507) (by decide +kernel)⟩
theorem lw_p13 : lw_okq (⟨"PartitionedProcedureStore$Runner", "execute", "(LPartitionedProcedureStore$Statement;)I"⟩, 8) := ⟨⟨by decide +kernel, by decide +kernel⟩, List.mem_of_getElem? (i := 87) (by decide +kernel), List.mem_of_getElem? (i := 518) (by decide +kernel), List.mem_of_getElem? (i := 519) (by decide +kernel)⟩
theorem lw_p14 : lw_okq (⟨"PartitionedProcedureStore$Runner", "readRow", "(LPartitionedProcedureStore$Statement;)I"⟩, 8) := ⟨⟨by decide +kernel, by decide +kernel⟩, List.mem_of_getElem? (i := 87) (by decide +kernel), List.mem_of_getElem? (i := 522) (by decide +kernel), List.mem_of_getElem? (i := 523) (by decide +kernel)⟩
theorem lw_p15 : lw_okq (⟨"PartitionedProcedureStore$Runner", "isPresent", "(I)Z"⟩, 8) := ⟨⟨by decide +kernel, by decide +kernel⟩, List.mem_of_getElem? (i := 87) (by decide +kernel), List.mem_of_getElem? (i := 526) (by decide +kernel), List.mem_of_getElem? (i := 527) (by decide +kernel)⟩
def lw_privs_1 : List (MethodName × Nat) := [(⟨"java/util/ArrayList", "add", "(Ljava/lang/Object;[Ljava/lang/Object;I)V"⟩, 3), (⟨"java/util/ArrayList", "grow", "()[Ljava/lang/Object;"⟩, 3), (⟨"java/util/ArrayList", "grow", "(I)[Ljava/lang/Object;"⟩, 3), (⟨"PartitionedProcedureStore", "waitAtAllSites", "(LPartitionedProcedureStore$Task;)V"⟩, 13), (⟨"PartitionedProcedureStore", "comeToMarker", "(I)V"⟩, 13), (⟨"java/util/ArrayList", "fastRemove", "([Ljava/lang/Object;I)V"⟩, 3), (⟨"PartitionedProcedureStore", "completeSnapshotIfCopied", "()V"⟩, 13), (⟨"PartitionedProcedureStore", "dropLogUpTo", "(I)V"⟩, 13), (⟨"PartitionedProcedureStore", "raiseDurable", "(I)V"⟩, 13), (⟨"PartitionedProcedureStore", "areAllStalled", "()Z"⟩, 13), (⟨"PartitionedProcedureStore", "passOnAtAllSites", "()V"⟩, 13), (⟨"PartitionedProcedureStore", "finish", "(LPartitionedProcedureStore$Task;)V"⟩, 13), (⟨"PartitionedProcedureStore$Runner", "begin", "(LPartitionedProcedureStore$Task;)V"⟩, 8), (⟨"PartitionedProcedureStore$Runner", "execute", "(LPartitionedProcedureStore$Statement;)I"⟩, 8), (⟨"PartitionedProcedureStore$Runner", "readRow", "(LPartitionedProcedureStore$Statement;)I"⟩, 8), (⟨"PartitionedProcedureStore$Runner", "isPresent", "(I)Z"⟩, 8)]
theorem lw_r1 : ∀ q ∈ lw_privs_1, lw_okq q := List.forall_mem_cons.mpr ⟨lw_p0, List.forall_mem_cons.mpr ⟨lw_p1, List.forall_mem_cons.mpr ⟨lw_p2, List.forall_mem_cons.mpr ⟨lw_p3, List.forall_mem_cons.mpr ⟨lw_p4, List.forall_mem_cons.mpr ⟨lw_p5, List.forall_mem_cons.mpr ⟨lw_p6, List.forall_mem_cons.mpr ⟨lw_p7, List.forall_mem_cons.mpr ⟨lw_p8, List.forall_mem_cons.mpr ⟨lw_p9, List.forall_mem_cons.mpr ⟨lw_p10, List.forall_mem_cons.mpr ⟨lw_p11, List.forall_mem_cons.mpr ⟨lw_p12, List.forall_mem_cons.mpr ⟨lw_p13, List.forall_mem_cons.mpr ⟨lw_p14, List.forall_mem_cons.mpr ⟨lw_p15, fun _ h => absurd h List.not_mem_nil⟩⟩⟩⟩⟩⟩⟩⟩⟩⟩⟩⟩⟩⟩⟩⟩
theorem lw_p16 : lw_okq (⟨"PartitionedProcedureStore$Runner", "isReachable", "(I)Z"⟩, 8) := ⟨⟨by decide +kernel, by decide +kernel⟩, List.mem_of_getElem? (i := 87) (by decide +kernel), List.mem_of_getElem? (i := 530) (by decide +kernel), List.mem_of_getElem? (i := 531) (by decide +kernel)⟩
theorem lw_p17 : lw_okq (⟨"PartitionedProcedureStore$Runner", "writeRow", "(IJ)I"⟩, 8) := ⟨⟨by decide +kernel, by decide +kernel⟩, List.mem_of_getElem? (i := 87) (by decide +kernel), List.mem_of_getElem? (i := 535) (by decide +kernel), List.mem_of_getElem? (i := 536) (by decide +kernel)⟩
theorem lw_p18 : lw_okq (⟨"PartitionedProcedureStore$Runner", "loadCell", "(LPartitionedProcedureStore$Statement;)I"⟩, 8) := ⟨⟨by decide +kernel, by decide +kernel⟩, List.mem_of_getElem? (i := 87) (by decide +kernel), List.mem_of_getElem? (i := 539) (by decide +kernel), List.mem_of_getElem? (i := 540) (by decide +kernel)⟩
theorem lw_p19 : lw_okq (⟨"PartitionedProcedureStore$Runner", "storeCell", "(LPartitionedProcedureStore$Statement;)I"⟩, 8) := ⟨⟨by decide +kernel, by decide +kernel⟩, List.mem_of_getElem? (i := 87) (by decide +kernel), List.mem_of_getElem? (i := 544) (by decide +kernel), List.mem_of_getElem? (i := 545) (by decide +kernel)⟩
theorem lw_p20 : lw_okq (⟨"PartitionedProcedureStore$Runner", "putOut", "(I)I"⟩, 8) := ⟨⟨by decide +kernel, by decide +kernel⟩, List.mem_of_getElem? (i := 87) (by decide +kernel), List.mem_of_getElem? (i := 548) (by decide +kernel), List.mem_of_getElem? (i := 549) (by decide +kernel)⟩
theorem lw_p21 : lw_okq (⟨"PartitionedProcedureStore$Runner", "abort", "(I)V"⟩, 8) := ⟨⟨by decide +kernel, by decide +kernel⟩, List.mem_of_getElem? (i := 87) (by decide +kernel), List.mem_of_getElem? (i := 552) (by decide +kernel), List.mem_of_getElem? (i := 553) (by decide +kernel)⟩
theorem lw_p22 : lw_okq (⟨"PartitionedProcedureStore", "dropLogAbove", "(I)V"⟩, 13) := ⟨⟨by decide +kernel, by decide +kernel⟩, List.mem_of_getElem? (i := 20) (by decide +kernel), List.mem_of_getElem? (i := 586) (by decide +kernel), List.mem_of_getElem? (i := 587) (by decide +kernel)⟩
theorem lw_p23 : lw_okq (⟨"PartitionedProcedureStore", "stalledNumber", "()I"⟩, 13) := ⟨⟨by decide +kernel, by decide +kernel⟩, List.mem_of_getElem? (i := 20) (by decide +kernel), List.mem_of_getElem? (i := 625) (by decide +kernel), List.mem_of_getElem? (i := 626) (by decide +kernel)⟩
theorem lw_p24 : lw_okq (⟨"PartitionedProcedureStoreModel", "logged", "()I"⟩, 33) := ⟨⟨by decide +kernel, by decide +kernel⟩, List.mem_of_getElem? (i := 632) (by decide +kernel), List.mem_of_getElem? (i := 758) (by decide +kernel), List.mem_of_getElem? (i := 759) (by decide +kernel)⟩
theorem lw_p25 : lw_okq (⟨"PartitionedProcedureStoreModel", "next", "(I)I"⟩, 33) := ⟨⟨by decide +kernel, by decide +kernel⟩, List.mem_of_getElem? (i := 632) (by decide +kernel), List.mem_of_getElem? (i := 762) (by decide +kernel), List.mem_of_getElem? (i := 763) (by decide +kernel)⟩
theorem lw_p26 : lw_okq (⟨"PartitionedProcedureStoreModel", "waits", "(II)Z"⟩, 33) := ⟨⟨by decide +kernel, by decide +kernel⟩, List.mem_of_getElem? (i := 632) (by decide +kernel), List.mem_of_getElem? (i := 770) (by decide +kernel), List.mem_of_getElem? (i := 771) (by decide +kernel)⟩
theorem lw_p27 : lw_okq (⟨"PartitionedProcedureStoreModel", "partitionOf", "(I)I"⟩, 33) := ⟨⟨by decide +kernel, by decide +kernel⟩, List.mem_of_getElem? (i := 632) (by decide +kernel), List.mem_of_getElem? (i := 774) (by decide +kernel), List.mem_of_getElem? (i := 775) (by decide +kernel)⟩
theorem lw_p28 : lw_okq (⟨"PartitionedProcedureStoreModel", "rowsOf", "(I)I"⟩, 33) := ⟨⟨by decide +kernel, by decide +kernel⟩, List.mem_of_getElem? (i := 632) (by decide +kernel), List.mem_of_getElem? (i := 778) (by decide +kernel), List.mem_of_getElem? (i := 779) (by decide +kernel)⟩
theorem lw_p29 : lw_okq (⟨"PartitionedProcedureStoreModel", "completeIfDone", "()V"⟩, 33) := ⟨⟨by decide +kernel, by decide +kernel⟩, List.mem_of_getElem? (i := 632) (by decide +kernel), List.mem_of_getElem? (i := 782) (by decide +kernel), List.mem_of_getElem? (i := 783) (by decide +kernel)⟩
theorem lw_p30 : lw_okq (⟨"PartitionedProcedureStoreModel", "replay", "(I)V"⟩, 33) := ⟨⟨by decide +kernel, by decide +kernel⟩, List.mem_of_getElem? (i := 632) (by decide +kernel), List.mem_of_getElem? (i := 786) (by decide +kernel), List.mem_of_getElem? (i := 787) (by decide +kernel)⟩
theorem lw_p31 : lw_okq (⟨"PartitionedProcedureStoreModel", "execute", "(I)V"⟩, 33) := ⟨⟨by decide +kernel, by decide +kernel⟩, List.mem_of_getElem? (i := 632) (by decide +kernel), List.mem_of_getElem? (i := 790) (by decide +kernel), List.mem_of_getElem? (i := 791) (by decide +kernel)⟩
def lw_privs_2 : List (MethodName × Nat) := [(⟨"PartitionedProcedureStore$Runner", "isReachable", "(I)Z"⟩, 8), (⟨"PartitionedProcedureStore$Runner", "writeRow", "(IJ)I"⟩, 8), (⟨"PartitionedProcedureStore$Runner", "loadCell", "(LPartitionedProcedureStore$Statement;)I"⟩, 8), (⟨"PartitionedProcedureStore$Runner", "storeCell", "(LPartitionedProcedureStore$Statement;)I"⟩, 8), (⟨"PartitionedProcedureStore$Runner", "putOut", "(I)I"⟩, 8), (⟨"PartitionedProcedureStore$Runner", "abort", "(I)V"⟩, 8), (⟨"PartitionedProcedureStore", "dropLogAbove", "(I)V"⟩, 13), (⟨"PartitionedProcedureStore", "stalledNumber", "()I"⟩, 13), (⟨"PartitionedProcedureStoreModel", "logged", "()I"⟩, 33), (⟨"PartitionedProcedureStoreModel", "next", "(I)I"⟩, 33), (⟨"PartitionedProcedureStoreModel", "waits", "(II)Z"⟩, 33), (⟨"PartitionedProcedureStoreModel", "partitionOf", "(I)I"⟩, 33), (⟨"PartitionedProcedureStoreModel", "rowsOf", "(I)I"⟩, 33), (⟨"PartitionedProcedureStoreModel", "completeIfDone", "()V"⟩, 33), (⟨"PartitionedProcedureStoreModel", "replay", "(I)V"⟩, 33), (⟨"PartitionedProcedureStoreModel", "execute", "(I)V"⟩, 33)]
theorem lw_r2 : ∀ q ∈ lw_privs_2, lw_okq q := List.forall_mem_cons.mpr ⟨lw_p16, List.forall_mem_cons.mpr ⟨lw_p17, List.forall_mem_cons.mpr ⟨lw_p18, List.forall_mem_cons.mpr ⟨lw_p19, List.forall_mem_cons.mpr ⟨lw_p20, List.forall_mem_cons.mpr ⟨lw_p21, List.forall_mem_cons.mpr ⟨lw_p22, List.forall_mem_cons.mpr ⟨lw_p23, List.forall_mem_cons.mpr ⟨lw_p24, List.forall_mem_cons.mpr ⟨lw_p25, List.forall_mem_cons.mpr ⟨lw_p26, List.forall_mem_cons.mpr ⟨lw_p27, List.forall_mem_cons.mpr ⟨lw_p28, List.forall_mem_cons.mpr ⟨lw_p29, List.forall_mem_cons.mpr ⟨lw_p30, List.forall_mem_cons.mpr ⟨lw_p31, fun _ h => absurd h List.not_mem_nil⟩⟩⟩⟩⟩⟩⟩⟩⟩⟩⟩⟩⟩⟩⟩⟩
theorem lw_p32 : lw_okq (⟨"PartitionedProcedureStoreModel", "statement", "(II)Z"⟩, 33) := ⟨⟨by decide +kernel, by decide +kernel⟩, List.mem_of_getElem? (i := 632) (by decide +kernel), List.mem_of_getElem? (i := 794) (by decide +kernel), List.mem_of_getElem? (i := 795) (by decide +kernel)⟩
theorem lw_p33 : lw_okq (⟨"PartitionedProcedureStoreModel", "foreign", "(II)Z"⟩, 33) := ⟨⟨by decide +kernel, by decide +kernel⟩, List.mem_of_getElem? (i := 632) (by decide +kernel), List.mem_of_getElem? (i := 798) (by decide +kernel), List.mem_of_getElem? (i := 799) (by decide +kernel)⟩
theorem lw_p34 : lw_okq (⟨"PartitionedProcedureStoreModel", "put", "(IZI)Z"⟩, 33) := ⟨⟨by decide +kernel, by decide +kernel⟩, List.mem_of_getElem? (i := 632) (by decide +kernel), List.mem_of_getElem? (i := 802) (by decide +kernel), List.mem_of_getElem? (i := 803) (by decide +kernel)⟩
theorem lw_p35 : lw_okq (⟨"PartitionedProcedureStoreModel", "tellClients", "()V"⟩, 33) := ⟨⟨by decide +kernel, by decide +kernel⟩, List.mem_of_getElem? (i := 632) (by decide +kernel), List.mem_of_getElem? (i := 806) (by decide +kernel), List.mem_of_getElem? (i := 807) (by decide +kernel)⟩
theorem lw_p36 : lw_okq (⟨"PartitionedProcedureStoreModel", "stalledAt", "()I"⟩, 33) := ⟨⟨by decide +kernel, by decide +kernel⟩, List.mem_of_getElem? (i := 632) (by decide +kernel), List.mem_of_getElem? (i := 855) (by decide +kernel), List.mem_of_getElem? (i := 856) (by decide +kernel)⟩
def lw_privs_3 : List (MethodName × Nat) := [(⟨"PartitionedProcedureStoreModel", "statement", "(II)Z"⟩, 33), (⟨"PartitionedProcedureStoreModel", "foreign", "(II)Z"⟩, 33), (⟨"PartitionedProcedureStoreModel", "put", "(IZI)Z"⟩, 33), (⟨"PartitionedProcedureStoreModel", "tellClients", "()V"⟩, 33), (⟨"PartitionedProcedureStoreModel", "stalledAt", "()I"⟩, 33)]
theorem lw_r3 : ∀ q ∈ lw_privs_3, lw_okq q := List.forall_mem_cons.mpr ⟨lw_p32, List.forall_mem_cons.mpr ⟨lw_p33, List.forall_mem_cons.mpr ⟨lw_p34, List.forall_mem_cons.mpr ⟨lw_p35, List.forall_mem_cons.mpr ⟨lw_p36, fun _ h => absurd h List.not_mem_nil⟩⟩⟩⟩⟩
def lw_privs : List (MethodName × Nat) := lw_privs_1 ++ (lw_privs_2 ++ (lw_privs_3))
def lw_tbl : List Cond := k2_sels lw_privs ++ tables_1
theorem lw_privs_ok : ∀ q ∈ lw_privs, lw_okq q := by
  show ∀ q ∈ lw_privs_1 ++ (lw_privs_2 ++ (lw_privs_3)), lw_okq q
  exact List.forall_mem_append.mpr ⟨lw_r1, List.forall_mem_append.mpr ⟨lw_r2, lw_r3⟩⟩
/-! names: classes and their fields, array types, the good words of the tables -/
def T_0 : u_T := fun k => match k with
  | 0 => ("PartitionedProcedureStore", "partitions", "I", true)
  | 1 => ("PartitionedProcedureStore", "procedures", "[LPartitionedProcedureStore$Procedure;", true)
  | 2 => ("PartitionedProcedureStore", "draft", "LPartitionedProcedureStore$Procedure;", false)
  | 3 => ("PartitionedProcedureStore", "sites", "[LPartitionedProcedureStore$Site;", true)
  | 4 => ("PartitionedProcedureStore", "clients", "[LPartitionedProcedureStore$Client;", true)
  | 5 => ("PartitionedProcedureStore", "log", "Ljava/util/ArrayList;", true)
  | 6 => ("PartitionedProcedureStore", "runner", "LPartitionedProcedureStore$Runner;", true)
  | 7 => ("PartitionedProcedureStore", "complete", "LPartitionedProcedureStore$Table;", true)
  | 8 => ("PartitionedProcedureStore", "completeMarker", "I", false)
  | 9 => ("PartitionedProcedureStore", "underWay", "LPartitionedProcedureStore$Table;", true)
  | 10 => ("PartitionedProcedureStore", "underWayMarker", "I", false)
  | 11 => ("PartitionedProcedureStore", "lastNumber", "I", false)
  | _ => ("PartitionedProcedureStore", "durable", "I", false)
def ty_0 : Nat → FieldType := fun k => match k with
  | 0 => .int
  | 1 => (.array (.object "PartitionedProcedureStore$Procedure"))
  | 2 => (.object "PartitionedProcedureStore$Procedure")
  | 3 => (.array (.object "PartitionedProcedureStore$Site"))
  | 4 => (.array (.object "PartitionedProcedureStore$Client"))
  | 5 => (.object "java/util/ArrayList")
  | 6 => (.object "PartitionedProcedureStore$Runner")
  | 7 => (.object "PartitionedProcedureStore$Table")
  | 8 => .int
  | 9 => (.object "PartitionedProcedureStore$Table")
  | 10 => .int
  | 11 => .int
  | _ => .int
theorem nm_0 : ∀ a, a < 13 → ∀ b, b < 13 → a ≠ b → (T_0 a).2.1 ≠ (T_0 b).2.1 := by decide +kernel
theorem tyok_0 : ∀ k, k < 13 → parseFieldDescriptor (T_0 k).2.2.1 = some (ty_0 k) := by decide +kernel
def T_1 : u_T := fun k => match k with
  | 0 => ("PartitionedProcedureStore$Client", "state", "I", false)
  | 1 => ("PartitionedProcedureStore$Client", "number", "I", false)
  | 2 => ("PartitionedProcedureStore$Client", "done", "Z", false)
  | 3 => ("PartitionedProcedureStore$Client", "committed", "Z", false)
  | 4 => ("PartitionedProcedureStore$Client", "fault", "I", false)
  | 5 => ("PartitionedProcedureStore$Client", "outputSize", "I", false)
  | _ => ("PartitionedProcedureStore$Client", "outputs", "[I", true)
def ty_1 : Nat → FieldType := fun k => match k with
  | 0 => .int
  | 1 => .int
  | 2 => .boolean
  | 3 => .boolean
  | 4 => .int
  | 5 => .int
  | _ => (.array .int)
theorem nm_1 : ∀ a, a < 7 → ∀ b, b < 7 → a ≠ b → (T_1 a).2.1 ≠ (T_1 b).2.1 := by decide +kernel
theorem tyok_1 : ∀ k, k < 7 → parseFieldDescriptor (T_1 k).2.2.1 = some (ty_1 k) := by decide +kernel
def T_2 : u_T := fun k => match k with
  | 0 => ("PartitionedProcedureStore$Procedure", "statements", "Ljava/util/ArrayList;", true)
  | 1 => ("PartitionedProcedureStore$Procedure", "multi", "Z", false)
  | _ => ("PartitionedProcedureStore$Procedure", "deployed", "Z", false)
def ty_2 : Nat → FieldType := fun k => match k with
  | 0 => (.object "java/util/ArrayList")
  | 1 => .boolean
  | _ => .boolean
theorem nm_2 : ∀ a, a < 3 → ∀ b, b < 3 → a ≠ b → (T_2 a).2.1 ≠ (T_2 b).2.1 := by decide +kernel
theorem tyok_2 : ∀ k, k < 3 → parseFieldDescriptor (T_2 k).2.2.1 = some (ty_2 k) := by decide +kernel
def T_3 : u_T := fun k => match k with
  | 0 => ("PartitionedProcedureStore$Runner", "live", "LPartitionedProcedureStore$Table;", true)
  | 1 => ("PartitionedProcedureStore$Runner", "partitions", "I", true)
  | 2 => ("PartitionedProcedureStore$Runner", "before", "LPartitionedProcedureStore$Table;", true)
  | 3 => ("PartitionedProcedureStore$Runner", "registers", "[I", true)
  | 4 => ("PartitionedProcedureStore$Runner", "home", "I", false)
  | 5 => ("PartitionedProcedureStore$Runner", "outputs", "[I", true)
  | 6 => ("PartitionedProcedureStore$Runner", "outputSize", "I", false)
  | _ => ("PartitionedProcedureStore$Runner", "fault", "I", false)
def ty_3 : Nat → FieldType := fun k => match k with
  | 0 => (.object "PartitionedProcedureStore$Table")
  | 1 => .int
  | 2 => (.object "PartitionedProcedureStore$Table")
  | 3 => (.array .int)
  | 4 => .int
  | 5 => (.array .int)
  | 6 => .int
  | _ => .int
theorem nm_3 : ∀ a, a < 8 → ∀ b, b < 8 → a ≠ b → (T_3 a).2.1 ≠ (T_3 b).2.1 := by decide +kernel
theorem tyok_3 : ∀ k, k < 8 → parseFieldDescriptor (T_3 k).2.2.1 = some (ty_3 k) := by decide +kernel
def T_4 : u_T := fun k => match k with
  | 0 => ("PartitionedProcedureStore$Site", "queue", "Ljava/util/ArrayList;", true)
  | 1 => ("PartitionedProcedureStore$Site", "stalled", "Z", false)
  | 2 => ("PartitionedProcedureStore$Site", "marked", "Z", false)
  | _ => ("PartitionedProcedureStore$Site", "rowsLeft", "I", false)
def ty_4 : Nat → FieldType := fun k => match k with
  | 0 => (.object "java/util/ArrayList")
  | 1 => .boolean
  | 2 => .boolean
  | _ => .int
theorem nm_4 : ∀ a, a < 4 → ∀ b, b < 4 → a ≠ b → (T_4 a).2.1 ≠ (T_4 b).2.1 := by decide +kernel
theorem tyok_4 : ∀ k, k < 4 → parseFieldDescriptor (T_4 k).2.2.1 = some (ty_4 k) := by decide +kernel
def T_5 : u_T := fun k => match k with
  | 0 => ("PartitionedProcedureStore$Statement", "op", "I", true)
  | 1 => ("PartitionedProcedureStore$Statement", "x", "I", true)
  | 2 => ("PartitionedProcedureStore$Statement", "y", "I", true)
  | _ => ("PartitionedProcedureStore$Statement", "z", "I", true)
def ty_5 : Nat → FieldType := fun k => match k with
  | 0 => .int
  | 1 => .int
  | 2 => .int
  | _ => .int
theorem nm_5 : ∀ a, a < 4 → ∀ b, b < 4 → a ≠ b → (T_5 a).2.1 ≠ (T_5 b).2.1 := by decide +kernel
theorem tyok_5 : ∀ k, k < 4 → parseFieldDescriptor (T_5 k).2.2.1 = some (ty_5 k) := by decide +kernel
def T_6 : u_T := fun k => match k with
  | 0 => ("PartitionedProcedureStore$Table", "values", "[J", true)
  | _ => ("PartitionedProcedureStore$Table", "cells", "[I", true)
def ty_6 : Nat → FieldType := fun k => match k with
  | 0 => (.array .long)
  | _ => (.array .int)
theorem nm_6 : ∀ a, a < 2 → ∀ b, b < 2 → a ≠ b → (T_6 a).2.1 ≠ (T_6 b).2.1 := by decide +kernel
theorem tyok_6 : ∀ k, k < 2 → parseFieldDescriptor (T_6 k).2.2.1 = some (ty_6 k) := by decide +kernel
def T_7 : u_T := fun k => match k with
  | 0 => ("PartitionedProcedureStore$Task", "number", "I", true)
  | 1 => ("PartitionedProcedureStore$Task", "client", "I", true)
  | 2 => ("PartitionedProcedureStore$Task", "procedure", "LPartitionedProcedureStore$Procedure;", true)
  | 3 => ("PartitionedProcedureStore$Task", "a", "I", true)
  | 4 => ("PartitionedProcedureStore$Task", "b", "I", true)
  | _ => ("PartitionedProcedureStore$Task", "c", "I", true)
def ty_7 : Nat → FieldType := fun k => match k with
  | 0 => .int
  | 1 => .int
  | 2 => (.object "PartitionedProcedureStore$Procedure")
  | 3 => .int
  | 4 => .int
  | _ => .int
theorem nm_7 : ∀ a, a < 6 → ∀ b, b < 6 → a ≠ b → (T_7 a).2.1 ≠ (T_7 b).2.1 := by decide +kernel
theorem tyok_7 : ∀ k, k < 6 → parseFieldDescriptor (T_7 k).2.2.1 = some (ty_7 k) := by decide +kernel
def T_8 : u_T := fun k => match k with
  | 0 => ("java/util/ArrayList", "elementData", "[Ljava/lang/Object;", false)
  | 1 => ("java/util/ArrayList", "size", "I", false)
  | _ => ("java/util/AbstractList", "modCount", "I", false)
def ty_8 : Nat → FieldType := fun k => match k with
  | 0 => (.array (.object "java/lang/Object"))
  | 1 => .int
  | _ => .int
theorem nm_8 : ∀ a, a < 3 → ∀ b, b < 3 → a ≠ b → (T_8 a).2.1 ≠ (T_8 b).2.1 := by decide +kernel
theorem tyok_8 : ∀ k, k < 3 → parseFieldDescriptor (T_8 k).2.2.1 = some (ty_8 k) := by decide +kernel
def T_9 : u_T := fun k => match k with
  | 0 => ("PartitionedProcedureStoreModel", "sites", "I", true)
  | 1 => ("PartitionedProcedureStoreModel", "there", "[Z", true)
  | 2 => ("PartitionedProcedureStoreModel", "held", "[I", true)
  | 3 => ("PartitionedProcedureStoreModel", "baseThere", "[Z", true)
  | 4 => ("PartitionedProcedureStoreModel", "baseHeld", "[I", true)
  | 5 => ("PartitionedProcedureStoreModel", "oldThere", "[Z", true)
  | 6 => ("PartitionedProcedureStoreModel", "oldHeld", "[I", true)
  | 7 => ("PartitionedProcedureStoreModel", "deployed", "[Z", true)
  | 8 => ("PartitionedProcedureStoreModel", "multi", "[Z", true)
  | 9 => ("PartitionedProcedureStoreModel", "statements", "[I", true)
  | 10 => ("PartitionedProcedureStoreModel", "op", "[I", true)
  | 11 => ("PartitionedProcedureStoreModel", "x", "[I", true)
  | 12 => ("PartitionedProcedureStoreModel", "y", "[I", true)
  | 13 => ("PartitionedProcedureStoreModel", "z", "[I", true)
  | 14 => ("PartitionedProcedureStoreModel", "drafting", "I", false)
  | 15 => ("PartitionedProcedureStoreModel", "last", "I", false)
  | 16 => ("PartitionedProcedureStoreModel", "procedure", "[I", true)
  | 17 => ("PartitionedProcedureStoreModel", "arguments", "[I", true)
  | 18 => ("PartitionedProcedureStoreModel", "done", "[Z", true)
  | 19 => ("PartitionedProcedureStoreModel", "came", "[I", true)
  | 20 => ("PartitionedProcedureStoreModel", "fault", "[I", true)
  | 21 => ("PartitionedProcedureStoreModel", "outs", "[I", true)
  | 22 => ("PartitionedProcedureStoreModel", "out", "[I", true)
  | 23 => ("PartitionedProcedureStoreModel", "durable", "I", false)
  | 24 => ("PartitionedProcedureStoreModel", "complete", "I", false)
  | 25 => ("PartitionedProcedureStoreModel", "underWay", "I", false)
  | 26 => ("PartitionedProcedureStoreModel", "left", "[I", true)
  | 27 => ("PartitionedProcedureStoreModel", "state", "[I", true)
  | 28 => ("PartitionedProcedureStoreModel", "command", "[I", true)
  | 29 => ("PartitionedProcedureStoreModel", "shownOuts", "[I", true)
  | 30 => ("PartitionedProcedureStoreModel", "shownOut", "[I", true)
  | 31 => ("PartitionedProcedureStoreModel", "shownFault", "[I", true)
  | _ => ("PartitionedProcedureStoreModel", "register", "[I", true)
def ty_9 : Nat → FieldType := fun k => match k with
  | 0 => .int
  | 1 => (.array .boolean)
  | 2 => (.array .int)
  | 3 => (.array .boolean)
  | 4 => (.array .int)
  | 5 => (.array .boolean)
  | 6 => (.array .int)
  | 7 => (.array .boolean)
  | 8 => (.array .boolean)
  | 9 => (.array .int)
  | 10 => (.array .int)
  | 11 => (.array .int)
  | 12 => (.array .int)
  | 13 => (.array .int)
  | 14 => .int
  | 15 => .int
  | 16 => (.array .int)
  | 17 => (.array .int)
  | 18 => (.array .boolean)
  | 19 => (.array .int)
  | 20 => (.array .int)
  | 21 => (.array .int)
  | 22 => (.array .int)
  | 23 => .int
  | 24 => .int
  | 25 => .int
  | 26 => (.array .int)
  | 27 => (.array .int)
  | 28 => (.array .int)
  | 29 => (.array .int)
  | 30 => (.array .int)
  | 31 => (.array .int)
  | _ => (.array .int)
theorem nm_9 : ∀ a, a < 33 → ∀ b, b < 33 → a ≠ b → (T_9 a).2.1 ≠ (T_9 b).2.1 := by decide +kernel
theorem tyok_9 : ∀ k, k < 33 → parseFieldDescriptor (T_9 k).2.2.1 = some (ty_9 k) := by decide +kernel
abbrev R_S : String := "PartitionedProcedureStore"
abbrev R_C : String := "PartitionedProcedureStore$Client"
abbrev R_P : String := "PartitionedProcedureStore$Procedure"
abbrev R_R : String := "PartitionedProcedureStore$Runner"
abbrev R_Q : String := "PartitionedProcedureStore$Site"
abbrev R_T : String := "PartitionedProcedureStore$Statement"
abbrev R_B : String := "PartitionedProcedureStore$Table"
abbrev R_K : String := "PartitionedProcedureStore$Task"
abbrev R_A : String := "java/util/ArrayList"
abbrev R_M : String := "PartitionedProcedureStoreModel"
abbrev R_L : String := "PartitionedProcedureStoreLaw"
abbrev R_Ab : String := "java/util/AbstractList"
abbrev R_Ac : String := "java/util/AbstractCollection"
abbrev R_Ar : String := "java/util/Arrays"
abbrev R_Ma : String := "java/lang/Math"
abbrev R_As : String := "jdk/internal/util/ArraysSupport"
abbrev R_Oj : String := "java/util/Objects"
abbrev R_Pc : String := "jdk/internal/util/Preconditions"
abbrev R_Ob : String := "java/lang/Object"
def classes : List vw_C := [("PartitionedProcedureStore", T_0, 13), ("PartitionedProcedureStore$Client", T_1, 7), ("PartitionedProcedureStore$Procedure", T_2, 3), ("PartitionedProcedureStore$Runner", T_3, 8), ("PartitionedProcedureStore$Site", T_4, 4), ("PartitionedProcedureStore$Statement", T_5, 4), ("PartitionedProcedureStore$Table", T_6, 2), ("PartitionedProcedureStore$Task", T_7, 6), ("java/util/ArrayList", T_8, 3), ("PartitionedProcedureStoreModel", T_9, 33)]
set_option maxRecDepth 20000 in
theorem hc_0 : classes[0]? = some ("PartitionedProcedureStore", T_0, 13) := rfl
set_option maxRecDepth 20000 in
theorem hc_1 : classes[1]? = some ("PartitionedProcedureStore$Client", T_1, 7) := rfl
set_option maxRecDepth 20000 in
theorem hc_2 : classes[2]? = some ("PartitionedProcedureStore$Procedure", T_2, 3) := rfl
set_option maxRecDepth 20000 in
theorem hc_3 : classes[3]? = some ("PartitionedProcedureStore$Runner", T_3, 8) := rfl
set_option maxRecDepth 20000 in
theorem hc_4 : classes[4]? = some ("PartitionedProcedureStore$Site", T_4, 4) := rfl
set_option maxRecDepth 20000 in
theorem hc_5 : classes[5]? = some ("PartitionedProcedureStore$Statement", T_5, 4) := rfl
set_option maxRecDepth 20000 in
theorem hc_6 : classes[6]? = some ("PartitionedProcedureStore$Table", T_6, 2) := rfl
set_option maxRecDepth 20000 in
theorem hc_7 : classes[7]? = some ("PartitionedProcedureStore$Task", T_7, 6) := rfl
set_option maxRecDepth 20000 in
theorem hc_8 : classes[8]? = some ("java/util/ArrayList", T_8, 3) := rfl
set_option maxRecDepth 20000 in
theorem hc_9 : classes[9]? = some ("PartitionedProcedureStoreModel", T_9, 33) := rfl
def aT : List FieldType := [.int, .long, .boolean, .object "java/lang/Object", .object "PartitionedProcedureStore$Procedure", .object "PartitionedProcedureStore$Client", .object "PartitionedProcedureStore$Site"]
def aoL : List String := ["java/lang/Object", "PartitionedProcedureStore$Procedure", "PartitionedProcedureStore$Client", "PartitionedProcedureStore$Site"]
def TBL : List Cond := lw_tbl.filter goodWord
def nestW : List Cond := [(Cond.methodLinkNest "PartitionedProcedureStore" 76 ⟨"PartitionedProcedureStore$Procedure", "<init>", "()V"⟩ "PartitionedProcedureStore"), (Cond.methodLinkNest "PartitionedProcedureStore" 77 ⟨"PartitionedProcedureStore$Client", "<init>", "()V"⟩ "PartitionedProcedureStore"), (Cond.methodLinkNest "PartitionedProcedureStore" 84 ⟨"PartitionedProcedureStore$Site", "<init>", "()V"⟩ "PartitionedProcedureStore"), (Cond.methodLinkNest "PartitionedProcedureStore$Runner" 144 ⟨"PartitionedProcedureStore", "isWithin", "(II)Z"⟩ "PartitionedProcedureStore"), (Cond.methodLinkNest "PartitionedProcedureStore$Client" 46 ⟨"PartitionedProcedureStore", "isWithin", "(II)Z"⟩ "PartitionedProcedureStore"), (Cond.castable "PartitionedProcedureStore$Statement" "PartitionedProcedureStore$Statement"), (Cond.castable "PartitionedProcedureStore$Task" "PartitionedProcedureStore$Task"), (Cond.declares ⟨"java/lang/Object", "getClass", "()Ljava/lang/Class;"⟩), (Cond.castable "PartitionedProcedureStore" "java/lang/Object"), (Cond.castable "PartitionedProcedureStore$Table" "java/lang/Object"), (Cond.castable "PartitionedProcedureStore$Runner" "java/lang/Object"), (Cond.castable "PartitionedProcedureStore$Procedure" "java/lang/Object"), (Cond.castable "PartitionedProcedureStore$Client" "java/lang/Object"), (Cond.castable "PartitionedProcedureStore$Site" "java/lang/Object"), (Cond.castable "PartitionedProcedureStoreModel" "java/lang/Object"), (Cond.castable "PartitionedProcedureStore$Statement" "java/lang/Object"), (Cond.castable "PartitionedProcedureStore$Task" "java/lang/Object")]
def nestOk (w : Cond) : Bool := match w with
  | .fieldLinkNest .. => true
  | .methodLinkNest .. => true
  | .castable .. => true
  | .declares .. => true
  | _ => false
set_option maxRecDepth 20000 in
theorem nestW_ok : ∀ w ∈ nestW, nestOk w = true := by decide +kernel
set_option maxRecDepth 20000 in
theorem nestW_tab : ∀ w ∈ nestW, w.onTables = true := by decide +kernel
set_option maxRecDepth 20000 in
theorem nestW_in : ∀ w ∈ nestW, w ∈ lw_tbl := by decide +kernel
theorem NW_getClass : Cond.declares ⟨"java/lang/Object", "getClass", "()Ljava/lang/Class;"⟩ ∈ nestW := by decide +kernel
set_option maxRecDepth 20000 in
theorem tb0 {w : Cond} (j : Nat) (h : tables_1_1[j]? = some w) (hg : goodWord w = true) : w ∈ TBL := List.mem_filter.mpr ⟨List.mem_append_right _ (List.mem_append_left _ (List.mem_of_getElem? h)), hg⟩
set_option maxRecDepth 20000 in
theorem tb1 {w : Cond} (j : Nat) (h : tables_1_2[j]? = some w) (hg : goodWord w = true) : w ∈ TBL := List.mem_filter.mpr ⟨List.mem_append_right _ (List.mem_append_right _ (List.mem_append_left _ (List.mem_of_getElem? h))), hg⟩
set_option maxRecDepth 20000 in
theorem tb2 {w : Cond} (j : Nat) (h : tables_1_3[j]? = some w) (hg : goodWord w = true) : w ∈ TBL := List.mem_filter.mpr ⟨List.mem_append_right _ (List.mem_append_right _ (List.mem_append_right _ (List.mem_append_left _ (List.mem_of_getElem? h)))), hg⟩
set_option maxRecDepth 20000 in
theorem tb3 {w : Cond} (j : Nat) (h : tables_1_4[j]? = some w) (hg : goodWord w = true) : w ∈ TBL := List.mem_filter.mpr ⟨List.mem_append_right _ (List.mem_append_right _ (List.mem_append_right _ (List.mem_append_right _ (List.mem_of_getElem? h)))), hg⟩
set_option maxRecDepth 20000 in
theorem tbS {w : Cond} (j : Nat) (h : (k2_sels lw_privs)[j]? = some w) (hg : goodWord w = true) : w ∈ TBL := List.mem_filter.mpr ⟨List.mem_append_left _ (List.mem_of_getElem? h), hg⟩
theorem TBL_lw {w : Cond} (h : w ∈ TBL) : w ∈ lw_tbl := (List.mem_filter.mp h).1
theorem TBL_good {w : Cond} (h : w ∈ TBL) : (w.onTables && w.keeps) = true ∨ ∃ ty, w = .arrayClass ty := good_of_word (List.mem_filter.mp h).2
theorem gd_big {big : List Cond} (hb : ∀ w ∈ TBL, w ∈ big) {ws : List Cond} (h : ∀ w ∈ ws, w ∈ TBL) : GoodIn big ws := fun w hw => ⟨hb w (h w hw), TBL_good (h w hw)⟩
theorem gd_of {ws : List Cond} (h : ∀ w ∈ ws, w ∈ TBL) : GoodIn TBL ws := gd_big (fun _ h => h) h
set_option maxRecDepth 20000 in
theorem in_cons {a : Cond} {ws : List Cond} (ha : a ∈ TBL) (h : ∀ w ∈ ws, w ∈ TBL) : ∀ w ∈ a :: ws, w ∈ TBL := fun w hw => (List.mem_cons.mp hw).elim (fun g => g ▸ ha) (h w)
set_option maxRecDepth 20000 in
theorem in_all : ∀ w ∈ TBL, w ∈ TBL := fun _ h => h
theorem gd_in {y : MethodName} {b : ByteArray} {n : Nat} {r : Option FieldType} (h : Cond.code y b n r ∈ TBL) : GoodIn TBL (Cond.code y b n r :: TBL) := gd_of (in_cons h in_all)
theorem gd_V {own C : String} {i : Nat} {y : MethodName} {b : ByteArray} {n : Nat} {r : Option FieldType} (h1 : Cond.methodLink own i y ∈ TBL) (h2 : Cond.instanceMethod y ∈ TBL) (h3 : Cond.selects C y y ∈ TBL) (h4 : Cond.initialized C ∈ TBL) (h : Cond.code y b n r ∈ TBL) : GoodIn TBL (wsV own i C y (Cond.code y b n r :: TBL)) := gd_of (in_cons h1 (in_cons h2 (in_cons h3 (in_cons h4 (in_cons h in_all)))))
theorem gd_S {own : String} {i : Nat} {y : MethodName} {b : ByteArray} {n : Nat} {r : Option FieldType} (h1 : Cond.methodLink own i y ∈ TBL) (h2 : Cond.static y ∈ TBL) (h4 : Cond.initialized own ∈ TBL) (h : Cond.code y b n r ∈ TBL) : GoodIn TBL (wsS own i y (Cond.code y b n r :: TBL)) := gd_of (in_cons h1 (in_cons h2 (in_cons h4 (in_cons h in_all))))
theorem gd_S2 {own : String} {i : Nat} {y : MethodName} {b : ByteArray} {n : Nat} {r : Option FieldType} (h1 : Cond.methodLink own i y ∈ TBL) (h2 : Cond.static y ∈ TBL) (h4 : Cond.initialized y.cls ∈ TBL) (h : Cond.code y b n r ∈ TBL) : GoodIn TBL (va_wsS own i y (Cond.code y b n r :: TBL)) := gd_of (in_cons h1 (in_cons h2 (in_cons h4 (in_cons h in_all))))
set_option maxRecDepth 20000 in
theorem in_nil : ∀ w ∈ ([] : List Cond), w ∈ TBL := fun _ h => absurd h List.not_mem_nil
set_option maxRecDepth 20000 in
theorem in_0 : ∀ w ∈ u_ws "PartitionedProcedureStore" T_0 13, w ∈ TBL := (in_cons (tb0 212 rfl rfl) (in_cons (tb0 214 rfl rfl) (in_cons (tb0 216 rfl rfl) (in_cons (tb0 218 rfl rfl) (in_cons (tb0 220 rfl rfl) (in_cons (tb0 222 rfl rfl) (in_cons (tb0 224 rfl rfl) (in_cons (tb0 226 rfl rfl) (in_cons (tb0 228 rfl rfl) (in_cons (tb0 230 rfl rfl) (in_cons (tb0 232 rfl rfl) (in_cons (tb0 234 rfl rfl) (in_cons (tb0 236 rfl rfl) in_nil)))))))))))))
set_option maxRecDepth 20000 in
theorem in_1 : ∀ w ∈ u_ws "PartitionedProcedureStore$Client" T_1 7, w ∈ TBL := (in_cons (tb0 158 rfl rfl) (in_cons (tb0 160 rfl rfl) (in_cons (tb0 162 rfl rfl) (in_cons (tb0 164 rfl rfl) (in_cons (tb0 166 rfl rfl) (in_cons (tb0 168 rfl rfl) (in_cons (tb0 170 rfl rfl) in_nil)))))))
set_option maxRecDepth 20000 in
theorem in_2 : ∀ w ∈ u_ws "PartitionedProcedureStore$Procedure" T_2 3, w ∈ TBL := (in_cons (tb0 138 rfl rfl) (in_cons (tb0 140 rfl rfl) (in_cons (tb0 142 rfl rfl) in_nil)))
set_option maxRecDepth 20000 in
theorem in_3 : ∀ w ∈ u_ws "PartitionedProcedureStore$Runner" T_3 8, w ∈ TBL := (in_cons (tb0 106 rfl rfl) (in_cons (tb0 108 rfl rfl) (in_cons (tb0 110 rfl rfl) (in_cons (tb0 112 rfl rfl) (in_cons (tb0 114 rfl rfl) (in_cons (tb0 116 rfl rfl) (in_cons (tb0 118 rfl rfl) (in_cons (tb0 120 rfl rfl) in_nil))))))))
set_option maxRecDepth 20000 in
theorem in_4 : ∀ w ∈ u_ws "PartitionedProcedureStore$Site" T_4 4, w ∈ TBL := (in_cons (tb0 190 rfl rfl) (in_cons (tb0 192 rfl rfl) (in_cons (tb0 194 rfl rfl) (in_cons (tb0 196 rfl rfl) in_nil))))
set_option maxRecDepth 20000 in
theorem in_5 : ∀ w ∈ u_ws "PartitionedProcedureStore$Statement" T_5 4, w ∈ TBL := (in_cons (tb1 41 rfl rfl) (in_cons (tb1 43 rfl rfl) (in_cons (tb1 45 rfl rfl) (in_cons (tb1 47 rfl rfl) in_nil))))
set_option maxRecDepth 20000 in
theorem in_6 : ∀ w ∈ u_ws "PartitionedProcedureStore$Table" T_6 2, w ∈ TBL := (in_cons (tb0 73 rfl rfl) (in_cons (tb0 75 rfl rfl) in_nil))
set_option maxRecDepth 20000 in
theorem in_7 : ∀ w ∈ u_ws "PartitionedProcedureStore$Task" T_7 6, w ∈ TBL := (in_cons (tb1 150 rfl rfl) (in_cons (tb1 152 rfl rfl) (in_cons (tb1 154 rfl rfl) (in_cons (tb1 156 rfl rfl) (in_cons (tb1 158 rfl rfl) (in_cons (tb1 160 rfl rfl) in_nil))))))
set_option maxRecDepth 20000 in
theorem in_8 : ∀ w ∈ u_ws "java/util/ArrayList" T_8 3, w ∈ TBL := (in_cons (tb0 50 rfl rfl) (in_cons (tb0 52 rfl rfl) (in_cons (tb0 54 rfl rfl) in_nil)))
set_option maxRecDepth 20000 in
theorem in_9 : ∀ w ∈ u_ws "PartitionedProcedureStoreModel" T_9 33, w ∈ TBL := (in_cons (tb2 190 rfl rfl) (in_cons (tb2 192 rfl rfl) (in_cons (tb2 194 rfl rfl) (in_cons (tb2 196 rfl rfl) (in_cons (tb2 198 rfl rfl) (in_cons (tb2 200 rfl rfl) (in_cons (tb2 202 rfl rfl) (in_cons (tb2 204 rfl rfl) (in_cons (tb2 206 rfl rfl) (in_cons (tb2 208 rfl rfl) (in_cons (tb2 210 rfl rfl) (in_cons (tb2 212 rfl rfl) (in_cons (tb2 214 rfl rfl) (in_cons (tb2 216 rfl rfl) (in_cons (tb2 218 rfl rfl) (in_cons (tb2 220 rfl rfl) (in_cons (tb2 222 rfl rfl) (in_cons (tb2 224 rfl rfl) (in_cons (tb2 226 rfl rfl) (in_cons (tb2 228 rfl rfl) (in_cons (tb2 230 rfl rfl) (in_cons (tb2 232 rfl rfl) (in_cons (tb2 234 rfl rfl) (in_cons (tb2 236 rfl rfl) (in_cons (tb2 238 rfl rfl) (in_cons (tb3 0 rfl rfl) (in_cons (tb3 2 rfl rfl) (in_cons (tb3 4 rfl rfl) (in_cons (tb3 6 rfl rfl) (in_cons (tb3 8 rfl rfl) (in_cons (tb3 10 rfl rfl) (in_cons (tb3 12 rfl rfl) (in_cons (tb3 14 rfl rfl) in_nil)))))))))))))))))))))))))))))))))
end
section
/-! the world by roles: a role (k, i) holds nothing, or a cell: its address and what it is -/
abbrev wE : Type := Nat → Nat → Option (Nat × va_E)
def w2 (E : wE) (k i : Nat) (x : Option (Nat × va_E)) : wE := fun k' i' => if k' = k ∧ i' = i then x else E k' i'
theorem w2_s {E : wE} {k i : Nat} {x : Option (Nat × va_E)} : w2 E k i x k i = x := by simp [w2]
theorem w2_k {E : wE} {k i k' i' : Nat} {x : Option (Nat × va_E)} (h : k' ≠ k) : w2 E k i x k' i' = E k' i' := by simp [w2, h]
theorem w2_i {E : wE} {k i k' i' : Nat} {x : Option (Nat × va_E)} (h : i' ≠ i) : w2 E k i x k' i' = E k' i' := by simp [w2, h]
theorem w2_w2 {E : wE} {k i : Nat} {x y : Option (Nat × va_E)} : w2 (w2 E k i x) k i y = w2 E k i y := by
  funext a b
  by_cases h : a = k ∧ b = i
  · simp [w2, h]
  · simp [w2, h]
theorem w2_self {E : wE} {k i : Nat} {x : Option (Nat × va_E)} (h : E k i = x) : w2 E k i x = E := by
  funext a b
  by_cases g : a = k ∧ b = i
  · simp [w2, g, h]
  · simp [w2, g]
def wr (D : va_G) (cl : List vw_C) (A : Nat → Prop) (E : wE) (H : Heap) : Prop := ∃ ws : va_W, va_P D cl ws H ∧ va_D A ws ∧ (∀ k i x, E k i = some x → ∃ q : Nat, ws[q]? = some x) ∧ ∀ k i k' i' x y, E k i = some x → E k' i' = some y → x.1 = y.1 → k = k' ∧ i = i'
section WR
variable {D : va_G} {cl : List vw_C} {A : Nat → Prop} {E : wE} {H H1 : Heap} {ws : va_W}
theorem wr_set (hin : ∀ k i x, E k i = some x → ∃ q : Nat, ws[q]? = some x) (hj : ∀ k i k' i' x y, E k i = some x → E k' i' = some y → x.1 = y.1 → k = k' ∧ i = i') {k i q a : Nat} {e0 e1 : va_E} (hE : E k i = some (a, e0)) (hq : ws[q]? = some (a, e0)) (hP : va_P D cl (ws.set q (a, e1)) H1) (hD : va_D A (ws.set q (a, e1))) : wr D cl A (w2 E k i (some (a, e1))) H1 := by
  have hl : q < ws.length := (List.getElem?_eq_some_iff.mp hq).1
  refine ⟨_, hP, hD, fun k' i' x hx => ?_, fun k1 i1 k2 i2 x y hx hy hxy => ?_⟩
  · by_cases h : k' = k ∧ i' = i
    · rw [h.1, h.2, w2_s] at hx
      cases hx
      exact ⟨q, by simp [hl]⟩
    · have hx' : E k' i' = some x := by simpa [w2, h] using hx
      obtain ⟨j, hw⟩ := hin _ _ _ hx'
      refine ⟨j, ?_⟩
      rw [List.getElem?_set_ne, hw]
      intro hjq
      rw [← hjq, hq] at hw
      cases hw
      exact h (hj _ _ _ _ _ _ hx' hE rfl)
  · by_cases h1 : k1 = k ∧ i1 = i
    · rw [h1.1, h1.2, w2_s] at hx
      cases hx
      by_cases h2 : k2 = k ∧ i2 = i
      · exact ⟨h1.1.trans h2.1.symm, h1.2.trans h2.2.symm⟩
      · have hy' : E k2 i2 = some y := by simpa [w2, h2] using hy
        rw [h1.1, h1.2]
        exact hj _ _ _ _ _ _ hE hy' hxy
    · have hx' : E k1 i1 = some x := by simpa [w2, h1] using hx
      by_cases h2 : k2 = k ∧ i2 = i
      · rw [h2.1, h2.2, w2_s] at hy
        cases hy
        rw [h2.1, h2.2]
        exact hj _ _ _ _ _ _ hx' hE hxy
      · have hy' : E k2 i2 = some y := by simpa [w2, h2] using hy
        exact hj _ _ _ _ _ _ hx' hy' hxy
theorem wr_push (hin : ∀ k i x, E k i = some x → ∃ q : Nat, ws[q]? = some x) (hj : ∀ k i k' i' x y, E k i = some x → E k' i' = some y → x.1 = y.1 → k = k' ∧ i = i') {k i a : Nat} {e1 : va_E} (hP : va_P D cl (ws ++ [(a, e1)]) H1) (hD : va_D A (ws ++ [(a, e1)])) : wr D cl A (w2 E k i (some (a, e1))) H1 := by
  have hlast : (ws ++ [(a, e1)])[ws.length]? = some (a, e1) := by simp
  have hmem : ∀ k i x, E k i = some x → ∃ q : Nat, q < ws.length ∧ (ws ++ [(a, e1)])[q]? = some x := fun k i x hx => by
    obtain ⟨q, hq⟩ := hin k i x hx
    have hl := (List.getElem?_eq_some_iff.mp hq).1
    exact ⟨q, hl, by rw [List.getElem?_append_left hl]; exact hq⟩
  have hne : ∀ k i x, E k i = some x → x.1 ≠ a := fun k i x hx hxa => by
    obtain ⟨q, hl, hq⟩ := hmem k i x hx
    have := hD.1 q ws.length x (a, e1) hq hlast hxa
    omega
  refine ⟨_, hP, hD, fun k' i' x hx => ?_, fun k1 i1 k2 i2 x y hx hy hxy => ?_⟩
  · by_cases h : k' = k ∧ i' = i
    · rw [h.1, h.2, w2_s] at hx
      cases hx
      exact ⟨_, hlast⟩
    · have hx' : E k' i' = some x := by simpa [w2, h] using hx
      obtain ⟨q, -, hq⟩ := hmem _ _ _ hx'
      exact ⟨q, hq⟩
  · by_cases h1 : k1 = k ∧ i1 = i
    · by_cases h2 : k2 = k ∧ i2 = i
      · exact ⟨h1.1.trans h2.1.symm, h1.2.trans h2.2.symm⟩
      · rw [h1.1, h1.2, w2_s] at hx
        cases hx
        have hy' : E k2 i2 = some y := by simpa [w2, h2] using hy
        exact absurd hxy.symm (hne _ _ _ hy')
    · have hx' : E k1 i1 = some x := by simpa [w2, h1] using hx
      by_cases h2 : k2 = k ∧ i2 = i
      · rw [h2.1, h2.2, w2_s] at hy
        cases hy
        exact absurd hxy (hne _ _ _ hx')
      · have hy' : E k2 i2 = some y := by simpa [w2, h2] using hy
        exact hj _ _ _ _ _ _ hx' hy' hxy
/-- a role that is given up -/
theorem wr_drop {k i : Nat} (h : wr D cl A E H) : wr D cl A (w2 E k i none) H := by
  obtain ⟨ws, hP, hD, hin, hj⟩ := h
  have hx' : ∀ {k' i' x}, w2 E k i none k' i' = some x → E k' i' = some x := fun {k' i' x} hx => by
    by_cases h : k' = k ∧ i' = i
    · rw [h.1, h.2, w2_s] at hx
      cases hx
    · simpa [w2, h] using hx
  exact ⟨ws, hP, hD, fun k' i' x hx => hin _ _ _ (hx' hx), fun k1 i1 k2 i2 x y hx hy hxy => hj _ _ _ _ _ _ (hx' hx) (hx' hy) hxy⟩
theorem wr_nil : wr D cl A (fun _ _ => none) H := ⟨[], fun _ _ h => by simp at h, ⟨fun i j p q h => by simp at h, fun k q h => by simp at h⟩, fun _ _ _ h => (by cases h), fun _ _ _ _ _ _ h => (by cases h)⟩
theorem wr.inA {k i : Nat} {x : Nat × va_E} (h : wr D cl A E H) (hx : E k i = some x) : A x.1 := by
  obtain ⟨ws, hP, hD, hin, hj⟩ := h
  obtain ⟨q, hq⟩ := hin _ _ _ hx
  exact hD.2 q x hq
theorem wr.lt {k i : Nat} {x : Nat × va_E} (h : wr D cl A E H) (hx : E k i = some x) : x.1 < H.size := by
  obtain ⟨ws, hP, hD, hin, hj⟩ := h
  obtain ⟨q, hq⟩ := hin _ _ _ hx
  exact (hP q x hq).lt
theorem wr.P {k i : Nat} {x : Nat × va_E} (h : wr D cl A E H) (hx : E k i = some x) : va_P D cl [x] H := by
  obtain ⟨ws, hP, hD, hin, hj⟩ := h
  obtain ⟨q, hq⟩ := hin _ _ _ hx
  intro j y hy
  have hz : j < 1 := (List.getElem?_eq_some_iff.mp hy).1
  rw [show j = 0 by omega] at hy
  cases hy
  exact hP q x hq
/-- two roles with one address are one -/
theorem wr.one {k i k' i' a : Nat} {e e' : va_E} (h : wr D cl A E H) (h1 : E k i = some (a, e)) (h2 : E k' i' = some (a, e')) : k = k' ∧ i = i' := by
  obtain ⟨ws, hP, hD, hin, hj⟩ := h
  exact hj _ _ _ _ _ _ h1 h2 rfl
/-- an object's class, for calls and casts -/
theorem wr_recv {s : State} {tys : List (ClassId × FieldType)} {k i a ci : Nat} {q : vw_C} {fs : List Value} (hK : va_K D cl tys s) (h : wr D cl A E H) (hc : cl[ci]? = some q) (he : E k i = some (a, .inr (ci, fs))) : ∃ cell : Cell, H[a]? = some cell ∧ cell.vm.isStatics = false ∧ s.vm.findClass q.1 = some cell.cls := va_recv hK (h.P he) hc (q0 := 0) rfl
end WR
section WRR
variable {p : Program} {l : Launch} {e : Env} {R : Room} {s : State} {m : MethodId} {args : Array Value} {below : List Frame} {meth : Method} {c : Code} {H : Heap} {locs : List Loc} {cells slots : Nat} {Q : State → Prop}
variable {cc : ByteArray} {pc : Nat} {ls : Array Slot} {rest : List Value} {D : va_G} {cl : List vw_C} {A : Nat → Prop} {a : Nat} {tys : List (ClassId × FieldType)} {Ew : wE} {H0 : Heap}
theorem wr_get (hexec : p.tables.exec = Jvm.exec) (hb : c.code = cc) {own ref C : String} {T : u_T} {N ci index : Nat} {Ts : List Cond} (hts : ∀ w ∈ Ts, w.before args s = true) (hin : ∀ w ∈ u_ws C T N, w ∈ Ts) (hown : s.vm.findClass own = some m.cls) (hK : va_K D cl tys s) (hw : wr D cl A Ew H) {fs : List Value} (k_q0 i_q0 : Nat) (he : Ew k_q0 i_q0 = some (a, .inr (ci, fs))) (hc : cl[ci]? = some (C, T, N)) (k : Nat) (hk : k < N) (hlink : (Cond.fieldLink own index ref (T k).2.1 (T k).2.2.1).before args s = true) (hsame : ∀ x, s.fieldFound? (T k).1 (T k).2.1 (T k).2.2.1 = some x → s.fieldFound? ref (T k).2.1 (T k).2.2.1 = some x) {v : Value} (hv : fs[k]? = some v) (hdg : decode cc pc = .ok (.getfield index, 3)) (kk : W p l e R s m args below meth c H locs cells slots Q (F0 m (pc + 3) ls (v :: rest))) :
    W p l e R s m args below meth c H locs cells slots Q (F0 m pc ls (.ref a :: rest)) := by
  obtain ⟨ws, hP, hD, hIn, hJn⟩ := hw
  obtain ⟨q0, he'⟩ := hIn _ _ _ he
  exact va_get hexec hb hts hin hown hK hP q0 he' hc k hk hlink hsame hv hdg (kk)
theorem wr_getN (hexec : p.tables.exec = Jvm.exec) (hb : c.code = cc) {own ref C host : String} {T : u_T} {N ci index : Nat} {Ts : List Cond} (hts : ∀ w ∈ Ts, w.before args s = true) (hin : ∀ w ∈ u_ws C T N, w ∈ Ts) (hown : s.vm.findClass own = some m.cls) (hK : va_K D cl tys s) (hw : wr D cl A Ew H) {fs : List Value} (k_q0 i_q0 : Nat) (he : Ew k_q0 i_q0 = some (a, .inr (ci, fs))) (hc : cl[ci]? = some (C, T, N)) (k : Nat) (hk : k < N) (hlink : (Cond.fieldLinkNest own index ref (T k).2.1 (T k).2.2.1 host).before args s = true) (hsame : ∀ x, s.fieldFound? (T k).1 (T k).2.1 (T k).2.2.1 = some x → s.fieldFound? ref (T k).2.1 (T k).2.2.1 = some x) {v : Value} (hv : fs[k]? = some v) (hdg : decode cc pc = .ok (.getfield index, 3)) (kk : W p l e R s m args below meth c H locs cells slots Q (F0 m (pc + 3) ls (v :: rest))) :
    W p l e R s m args below meth c H locs cells slots Q (F0 m pc ls (.ref a :: rest)) := by
  obtain ⟨ws, hP, hD, hIn, hJn⟩ := hw
  obtain ⟨q0, he'⟩ := hIn _ _ _ he
  exact va_getN hexec hb hts hin hown hK hP q0 he' hc k hk hlink hsame hv hdg (kk)
theorem wr_put (hexec : p.tables.exec = Jvm.exec) (hb : c.code = cc) {own ref C : String} {T : u_T} {N ci index : Nat} {Ts : List Cond} (hts : ∀ w ∈ Ts, w.before args s = true) (hin : ∀ w ∈ u_ws C T N, w ∈ Ts) (ty0 : Nat → FieldType) (hty : ∀ k, k < N → parseFieldDescriptor (T k).2.2.1 = some (ty0 k)) (hnm : ∀ a, a < N → ∀ b, b < N → a ≠ b → (T a).2.1 ≠ (T b).2.1) (hown : s.vm.findClass own = some m.cls) (hK : va_K D cl tys s) (hw : wr D cl A Ew H) (hS0 : va_S A H0 H locs) {fs : List Value} (k_q0 i_q0 : Nat) (he : Ew k_q0 i_q0 = some (a, .inr (ci, fs))) (hc : cl[ci]? = some (C, T, N)) (k : Nat) (hk : k < N) (hlink : (Cond.fieldLink own index ref (T k).2.1 (T k).2.2.1).before args s = true) (hsame : ∀ x, s.fieldFound? (T k).1 (T k).2.1 (T k).2.2.1 = some x → s.fieldFound? ref (T k).2.1 (T k).2.2.1 = some x) (hfin : (T k).2.2.2 = false) {ty : FieldType} {v : Value} (hd : parseFieldDescriptor (T k).2.2.1 = some ty) (hn : narrow ty v = v) (hfit : fits ty v = true) (hl : k < fs.length) (hdg : decode cc pc = .ok (.putfield index, 3)) (kk : ∀ (H1 : Heap) (locs1 : List Loc), wr D cl A (w2 Ew k_q0 i_q0 (some (a, .inr (ci, fs.set k v)))) H1 → va_S A H0 H1 locs1 → W p l e R s m args below meth c H1 locs1 cells slots Q (F0 m (pc + 3) ls rest)) :
    W p l e R s m args below meth c H locs cells slots Q (F0 m pc ls (v :: .ref a :: rest)) := by
  obtain ⟨ws, hP, hD, hIn, hJn⟩ := hw
  obtain ⟨q0, he'⟩ := hIn _ _ _ he
  exact va_put hexec hb hts hin ty0 hty hnm hown hK hP hD hS0 q0 he' hc k hk hlink hsame hfin hd hn hfit hl hdg (fun H1 locs1 hP1 hD1 hS1 => kk H1 locs1 (wr_set hIn hJn he he' hP1 hD1) hS1)
theorem wr_putN (hexec : p.tables.exec = Jvm.exec) (hb : c.code = cc) {own ref C host : String} {T : u_T} {N ci index : Nat} {Ts : List Cond} (hts : ∀ w ∈ Ts, w.before args s = true) (hin : ∀ w ∈ u_ws C T N, w ∈ Ts) (ty0 : Nat → FieldType) (hty : ∀ k, k < N → parseFieldDescriptor (T k).2.2.1 = some (ty0 k)) (hnm : ∀ a, a < N → ∀ b, b < N → a ≠ b → (T a).2.1 ≠ (T b).2.1) (hown : s.vm.findClass own = some m.cls) (hK : va_K D cl tys s) (hw : wr D cl A Ew H) (hS0 : va_S A H0 H locs) {fs : List Value} (k_q0 i_q0 : Nat) (he : Ew k_q0 i_q0 = some (a, .inr (ci, fs))) (hc : cl[ci]? = some (C, T, N)) (k : Nat) (hk : k < N) (hlink : (Cond.fieldLinkNest own index ref (T k).2.1 (T k).2.2.1 host).before args s = true) (hsame : ∀ x, s.fieldFound? (T k).1 (T k).2.1 (T k).2.2.1 = some x → s.fieldFound? ref (T k).2.1 (T k).2.2.1 = some x) (hfin : (T k).2.2.2 = false) {ty : FieldType} {v : Value} (hd : parseFieldDescriptor (T k).2.2.1 = some ty) (hn : narrow ty v = v) (hfit : fits ty v = true) (hl : k < fs.length) (hdg : decode cc pc = .ok (.putfield index, 3)) (kk : ∀ (H1 : Heap) (locs1 : List Loc), wr D cl A (w2 Ew k_q0 i_q0 (some (a, .inr (ci, fs.set k v)))) H1 → va_S A H0 H1 locs1 → W p l e R s m args below meth c H1 locs1 cells slots Q (F0 m (pc + 3) ls rest)) :
    W p l e R s m args below meth c H locs cells slots Q (F0 m pc ls (v :: .ref a :: rest)) := by
  obtain ⟨ws, hP, hD, hIn, hJn⟩ := hw
  obtain ⟨q0, he'⟩ := hIn _ _ _ he
  exact va_putN hexec hb hts hin ty0 hty hnm hown hK hP hD hS0 q0 he' hc k hk hlink hsame hfin hd hn hfit hl hdg (fun H1 locs1 hP1 hD1 hS1 => kk H1 locs1 (wr_set hIn hJn he he' hP1 hD1) hS1)
theorem wr_putF (hexec : p.tables.exec = Jvm.exec) (hb : c.code = cc) {own ref C : String} {T : u_T} {N ci index : Nat} {Ts : List Cond} (hts : ∀ w ∈ Ts, w.before args s = true) (hin : ∀ w ∈ u_ws C T N, w ∈ Ts) (ty0 : Nat → FieldType) (hty : ∀ k, k < N → parseFieldDescriptor (T k).2.2.1 = some (ty0 k)) (hnm : ∀ a, a < N → ∀ b, b < N → a ≠ b → (T a).2.1 ≠ (T b).2.1) (hown : s.vm.findClass own = some m.cls) (hK : va_K D cl tys s) (hw : wr D cl A Ew H) (hS0 : va_S A H0 H locs) {fs : List Value} (k_q0 i_q0 : Nat) (he : Ew k_q0 i_q0 = some (a, .inr (ci, fs))) (hc : cl[ci]? = some (C, T, N)) (k : Nat) (hk : k < N) (hlink : (Cond.fieldLink own index ref (T k).2.1 (T k).2.2.1).before args s = true) (hsame : ∀ x, s.fieldFound? (T k).1 (T k).2.1 (T k).2.2.1 = some x → s.fieldFound? ref (T k).2.1 (T k).2.2.1 = some x) (hfin : (T k).2.2.2 = true) (hin2 : meth.name = "<init>") (hdecl : (T k).1 = own) {ty : FieldType} {v : Value} (hd : parseFieldDescriptor (T k).2.2.1 = some ty) (hn : narrow ty v = v) (hfit : fits ty v = true) (hl : k < fs.length) (hdg : decode cc pc = .ok (.putfield index, 3)) (kk : ∀ (H1 : Heap) (locs1 : List Loc), wr D cl A (w2 Ew k_q0 i_q0 (some (a, .inr (ci, fs.set k v)))) H1 → va_S A H0 H1 locs1 → W p l e R s m args below meth c H1 locs1 cells slots Q (F0 m (pc + 3) ls rest)) :
    W p l e R s m args below meth c H locs cells slots Q (F0 m pc ls (v :: .ref a :: rest)) := by
  obtain ⟨ws, hP, hD, hIn, hJn⟩ := hw
  obtain ⟨q0, he'⟩ := hIn _ _ _ he
  exact va_putF hexec hb hts hin ty0 hty hnm hown hK hP hD hS0 q0 he' hc k hk hlink hsame hfin hin2 hdecl hd hn hfit hl hdg (fun H1 locs1 hP1 hD1 hS1 => kk H1 locs1 (wr_set hIn hJn he he' hP1 hD1) hS1)
theorem wr_iald (hexec : p.tables.exec = Jvm.exec) (hb : c.code = cc) (hK : va_K D cl tys s) (hw : wr D cl A Ew H) (t0 : Nat) {cA : ClassId} {n : Nat} {f : Nat → Int32} (k_q0 i_q0 : Nat) (ha : Ew k_q0 i_q0 = some (a, .inl (cA, n, .inl f))) (ht : tys[t0]? = some (cA, .int)) {i : Int32} (hin : vp_in i n) (hdg : decode cc pc = .ok (.iaload, 1)) (kk : W p l e R s m args below meth c H locs cells slots Q (F0 m (pc + 1) ls (.int (f i.toNatClampNeg) :: rest))) :
    W p l e R s m args below meth c H locs cells slots Q (F0 m pc ls (.int i :: .ref a :: rest)) := by
  obtain ⟨ws, hP, hD, hIn, hJn⟩ := hw
  obtain ⟨q0, ha'⟩ := hIn _ _ _ ha
  exact va_iald hexec hb hK hP q0 t0 ha' ht hin hdg (kk)
theorem wr_bald (hexec : p.tables.exec = Jvm.exec) (hb : c.code = cc) (hK : va_K D cl tys s) (hw : wr D cl A Ew H) (t0 : Nat) {cA : ClassId} {n : Nat} {f : Nat → Int32} (k_q0 i_q0 : Nat) (ha : Ew k_q0 i_q0 = some (a, .inl (cA, n, .inl f))) (ht : tys[t0]? = some (cA, .byte)) {i : Int32} (hin : vp_in i n) (hdg : decode cc pc = .ok (.baload, 1)) (kk : W p l e R s m args below meth c H locs cells slots Q (F0 m (pc + 1) ls (.int (f i.toNatClampNeg) :: rest))) :
    W p l e R s m args below meth c H locs cells slots Q (F0 m pc ls (.int i :: .ref a :: rest)) := by
  obtain ⟨ws, hP, hD, hIn, hJn⟩ := hw
  obtain ⟨q0, ha'⟩ := hIn _ _ _ ha
  exact va_bald hexec hb hK hP q0 t0 ha' ht hin hdg (kk)
theorem wr_zald (hexec : p.tables.exec = Jvm.exec) (hb : c.code = cc) (hK : va_K D cl tys s) (hw : wr D cl A Ew H) (t0 : Nat) {cA : ClassId} {n : Nat} {f : Nat → Int32} (k_q0 i_q0 : Nat) (ha : Ew k_q0 i_q0 = some (a, .inl (cA, n, .inl f))) (ht : tys[t0]? = some (cA, .boolean)) {i : Int32} (hin : vp_in i n) (hdg : decode cc pc = .ok (.baload, 1)) (kk : W p l e R s m args below meth c H locs cells slots Q (F0 m (pc + 1) ls (.int (f i.toNatClampNeg) :: rest))) :
    W p l e R s m args below meth c H locs cells slots Q (F0 m pc ls (.int i :: .ref a :: rest)) := by
  obtain ⟨ws, hP, hD, hIn, hJn⟩ := hw
  obtain ⟨q0, ha'⟩ := hIn _ _ _ ha
  exact va_zald hexec hb hK hP q0 t0 ha' ht hin hdg (kk)
theorem wr_lald (hexec : p.tables.exec = Jvm.exec) (hb : c.code = cc) (hK : va_K D cl tys s) (hw : wr D cl A Ew H) (t0 : Nat) {cA : ClassId} {n : Nat} {f : Nat → Int64} (k_q0 i_q0 : Nat) (ha : Ew k_q0 i_q0 = some (a, .inl (cA, n, .inr (.inl f)))) (ht : tys[t0]? = some (cA, .long)) {i : Int32} (hin : vp_in i n) (hdg : decode cc pc = .ok (.laload, 1)) (kk : W p l e R s m args below meth c H locs cells slots Q (F0 m (pc + 1) ls (.long (f i.toNatClampNeg) :: rest))) :
    W p l e R s m args below meth c H locs cells slots Q (F0 m pc ls (.int i :: .ref a :: rest)) := by
  obtain ⟨ws, hP, hD, hIn, hJn⟩ := hw
  obtain ⟨q0, ha'⟩ := hIn _ _ _ ha
  exact va_lald hexec hb hK hP q0 t0 ha' ht hin hdg (kk)
theorem wr_iast (hexec : p.tables.exec = Jvm.exec) (hb : c.code = cc) (hK : va_K D cl tys s) (hw : wr D cl A Ew H) (hS : va_S A H0 H locs) (t0 : Nat) {cA : ClassId} {n : Nat} {f : Nat → Int32} (k_q0 i_q0 : Nat) (ha : Ew k_q0 i_q0 = some (a, .inl (cA, n, .inl f))) (ht : tys[t0]? = some (cA, .int)) {i : Int32} {x : Int32} (hin : vp_in i n) (hdg : decode cc pc = .ok (.iastore, 1)) (kk : ∀ (H1 : Heap) (locs1 : List Loc), wr D cl A (w2 Ew k_q0 i_q0 (some (a, .inl (cA, n, .inl (upd f i.toNatClampNeg x))))) H1 → va_S A H0 H1 locs1 → W p l e R s m args below meth c H1 locs1 cells slots Q (F0 m (pc + 1) ls rest)) :
    W p l e R s m args below meth c H locs cells slots Q (F0 m pc ls (.int x :: .int i :: .ref a :: rest)) := by
  obtain ⟨ws, hP, hD, hIn, hJn⟩ := hw
  obtain ⟨q0, ha'⟩ := hIn _ _ _ ha
  exact va_iast hexec hb hK hP hD hS q0 t0 ha' ht hin hdg (fun H1 locs1 hP1 hD1 hS1 => kk H1 locs1 (wr_set hIn hJn ha ha' hP1 hD1) hS1)
theorem wr_bast (hexec : p.tables.exec = Jvm.exec) (hb : c.code = cc) (hK : va_K D cl tys s) (hw : wr D cl A Ew H) (hS : va_S A H0 H locs) (t0 : Nat) {cA : ClassId} {n : Nat} {f : Nat → Int32} (k_q0 i_q0 : Nat) (ha : Ew k_q0 i_q0 = some (a, .inl (cA, n, .inl f))) (ht : tys[t0]? = some (cA, .byte)) {i : Int32} {x : Int32} (hin : vp_in i n) (hdg : decode cc pc = .ok (.bastore, 1)) (kk : ∀ (H1 : Heap) (locs1 : List Loc), wr D cl A (w2 Ew k_q0 i_q0 (some (a, .inl (cA, n, .inl (upd f i.toNatClampNeg (vp_nar .byte x)))))) H1 → va_S A H0 H1 locs1 → W p l e R s m args below meth c H1 locs1 cells slots Q (F0 m (pc + 1) ls rest)) :
    W p l e R s m args below meth c H locs cells slots Q (F0 m pc ls (.int x :: .int i :: .ref a :: rest)) := by
  obtain ⟨ws, hP, hD, hIn, hJn⟩ := hw
  obtain ⟨q0, ha'⟩ := hIn _ _ _ ha
  exact va_bast hexec hb hK hP hD hS q0 t0 ha' ht hin hdg (fun H1 locs1 hP1 hD1 hS1 => kk H1 locs1 (wr_set hIn hJn ha ha' hP1 hD1) hS1)
theorem wr_zast (hexec : p.tables.exec = Jvm.exec) (hb : c.code = cc) (hK : va_K D cl tys s) (hw : wr D cl A Ew H) (hS : va_S A H0 H locs) (t0 : Nat) {cA : ClassId} {n : Nat} {f : Nat → Int32} (k_q0 i_q0 : Nat) (ha : Ew k_q0 i_q0 = some (a, .inl (cA, n, .inl f))) (ht : tys[t0]? = some (cA, .boolean)) {i : Int32} {x : Int32} (hin : vp_in i n) (hdg : decode cc pc = .ok (.bastore, 1)) (kk : ∀ (H1 : Heap) (locs1 : List Loc), wr D cl A (w2 Ew k_q0 i_q0 (some (a, .inl (cA, n, .inl (upd f i.toNatClampNeg (vp_nar .boolean x)))))) H1 → va_S A H0 H1 locs1 → W p l e R s m args below meth c H1 locs1 cells slots Q (F0 m (pc + 1) ls rest)) :
    W p l e R s m args below meth c H locs cells slots Q (F0 m pc ls (.int x :: .int i :: .ref a :: rest)) := by
  obtain ⟨ws, hP, hD, hIn, hJn⟩ := hw
  obtain ⟨q0, ha'⟩ := hIn _ _ _ ha
  exact va_zast hexec hb hK hP hD hS q0 t0 ha' ht hin hdg (fun H1 locs1 hP1 hD1 hS1 => kk H1 locs1 (wr_set hIn hJn ha ha' hP1 hD1) hS1)
theorem wr_last (hexec : p.tables.exec = Jvm.exec) (hb : c.code = cc) (hK : va_K D cl tys s) (hw : wr D cl A Ew H) (hS : va_S A H0 H locs) (t0 : Nat) {cA : ClassId} {n : Nat} {f : Nat → Int64} (k_q0 i_q0 : Nat) (ha : Ew k_q0 i_q0 = some (a, .inl (cA, n, .inr (.inl f)))) (ht : tys[t0]? = some (cA, .long)) {i : Int32} {x : Int64} (hin : vp_in i n) (hdg : decode cc pc = .ok (.lastore, 1)) (kk : ∀ (H1 : Heap) (locs1 : List Loc), wr D cl A (w2 Ew k_q0 i_q0 (some (a, .inl (cA, n, .inr (.inl (vp_updL f i.toNatClampNeg x)))))) H1 → va_S A H0 H1 locs1 → W p l e R s m args below meth c H1 locs1 cells slots Q (F0 m (pc + 1) ls rest)) :
    W p l e R s m args below meth c H locs cells slots Q (F0 m pc ls (.long x :: .int i :: .ref a :: rest)) := by
  obtain ⟨ws, hP, hD, hIn, hJn⟩ := hw
  obtain ⟨q0, ha'⟩ := hIn _ _ _ ha
  exact va_last hexec hb hK hP hD hS q0 t0 ha' ht hin hdg (fun H1 locs1 hP1 hD1 hS1 => kk H1 locs1 (wr_set hIn hJn ha ha' hP1 hD1) hS1)
theorem wr_alen (hexec : p.tables.exec = Jvm.exec) (hb : c.code = cc) (hK : va_K D cl tys s) (hw : wr D cl A Ew H) (t0 : Nat) {cA : ClassId} {x : vp_A} (k_q0 i_q0 : Nat) (ha : Ew k_q0 i_q0 = some (a, .inl (cA, x))) {ty : FieldType} (ht : tys[t0]? = some (cA, ty)) {v : Int32} (hv : Int32.ofNat x.1 = v) (hdg : decode cc pc = .ok (.arraylength, 1)) (kk : W p l e R s m args below meth c H locs cells slots Q (F0 m (pc + 1) ls (.int v :: rest))) :
    W p l e R s m args below meth c H locs cells slots Q (F0 m pc ls (.ref a :: rest)) := by
  obtain ⟨ws, hP, hD, hIn, hJn⟩ := hw
  obtain ⟨q0, ha'⟩ := hIn _ _ _ ha
  exact va_alen hexec hb hK hP q0 t0 ha' ht hv hdg (kk)
theorem wr_aldq (hexec : p.tables.exec = Jvm.exec) (hb : c.code = cc) (hK : va_K D cl tys s) (hw : wr D cl A Ew H) (t0 : Nat) {cA : ClassId} {C : String} {n : Nat} {f : Nat → Option Nat} (k_q0 i_q0 : Nat) (ha : Ew k_q0 i_q0 = some (a, .inl (cA, n, .inr (.inr (.inr (.inr f)))))) (ht : tys[t0]? = some (cA, .object C)) {i : Int32} (hin : vp_in i n) (hdg : decode cc pc = .ok (.aaload, 1)) (kk : W p l e R s m args below meth c H locs cells slots Q (F0 m (pc + 1) ls (va_rf (f i.toNatClampNeg) :: rest))) :
    W p l e R s m args below meth c H locs cells slots Q (F0 m pc ls (.int i :: .ref a :: rest)) := by
  obtain ⟨ws, hP, hD, hIn, hJn⟩ := hw
  obtain ⟨q0, ha'⟩ := hIn _ _ _ ha
  exact va_aldq hexec hb hK hP q0 t0 ha' ht hin hdg (kk)
theorem wr_astq (hexec : p.tables.exec = Jvm.exec) (hb : c.code = cc) (hK : va_K D cl tys s) (hw : wr D cl A Ew H) (hS : va_S A H0 H locs) (t0 ci : Nat) {cA : ClassId} {r : vw_C} {n v : Nat} {vs : List Value} {f : Nat → Option Nat} (k_q0 i_q0 : Nat) (ha : Ew k_q0 i_q0 = some (a, .inl (cA, n, .inr (.inr (.inr (.inr f)))))) (ht : tys[t0]? = some (cA, .object r.1)) (k_qk i_qk : Nat) (hv : Ew k_qk i_qk = some (v, .inr (ci, vs))) (hc : cl[ci]? = some r) {i : Int32} (hin : vp_in i n) (hdg : decode cc pc = .ok (.aastore, 1)) (kk : ∀ (H1 : Heap) (locs1 : List Loc), wr D cl A (w2 Ew k_q0 i_q0 (some (a, .inl (cA, n, .inr (.inr (.inr (.inr (va_up f i.toNatClampNeg (some v))))))))) H1 → va_S A H0 H1 locs1 → W p l e R s m args below meth c H1 locs1 cells slots Q (F0 m (pc + 1) ls rest)) :
    W p l e R s m args below meth c H locs cells slots Q (F0 m pc ls (.ref v :: .int i :: .ref a :: rest)) := by
  obtain ⟨ws, hP, hD, hIn, hJn⟩ := hw
  obtain ⟨q0, ha'⟩ := hIn _ _ _ ha
  obtain ⟨qk, hv'⟩ := hIn _ _ _ hv
  exact va_astq hexec hb hK hP hD hS q0 t0 qk ci ha' ht hv' hc hin hdg (fun H1 locs1 hP1 hD1 hS1 => kk H1 locs1 (wr_set hIn hJn ha ha' hP1 hD1) hS1)
theorem wr_astqO (hexec : p.tables.exec = Jvm.exec) (hb : c.code = cc) (hK : va_K D cl tys s) (hw : wr D cl A Ew H) (hS : va_S A H0 H locs) (t0 ci : Nat) {E : String} {cA : ClassId} {r : vw_C} {n v : Nat} {vs : List Value} {f : Nat → Option Nat} (k_q0 i_q0 : Nat) (ha : Ew k_q0 i_q0 = some (a, .inl (cA, n, .inr (.inr (.inr (.inr f)))))) (ht : tys[t0]? = some (cA, .object E)) (hca : va_Nw (.castable r.1 E) s) (k_qk i_qk : Nat) (hv : Ew k_qk i_qk = some (v, .inr (ci, vs))) (hc : cl[ci]? = some r) {i : Int32} (hin : vp_in i n) (hdg : decode cc pc = .ok (.aastore, 1)) (kk : ∀ (H1 : Heap) (locs1 : List Loc), wr D cl A (w2 Ew k_q0 i_q0 (some (a, .inl (cA, n, .inr (.inr (.inr (.inr (va_up f i.toNatClampNeg (some v))))))))) H1 → va_S A H0 H1 locs1 → W p l e R s m args below meth c H1 locs1 cells slots Q (F0 m (pc + 1) ls rest)) :
    W p l e R s m args below meth c H locs cells slots Q (F0 m pc ls (.ref v :: .int i :: .ref a :: rest)) := by
  obtain ⟨ws, hP, hD, hIn, hJn⟩ := hw
  obtain ⟨q0, ha'⟩ := hIn _ _ _ ha
  obtain ⟨qk, hv'⟩ := hIn _ _ _ hv
  exact va_astqO hexec hb hK hP hD hS q0 t0 qk ci ha' ht hca hv' hc hin hdg (fun H1 locs1 hP1 hD1 hS1 => kk H1 locs1 (wr_set hIn hJn ha ha' hP1 hD1) hS1)
theorem wr_astqN (hexec : p.tables.exec = Jvm.exec) (hb : c.code = cc) (hK : va_K D cl tys s) (hw : wr D cl A Ew H) (hS : va_S A H0 H locs) (t0 : Nat) {cA : ClassId} {C : String} {n : Nat} {f : Nat → Option Nat} (k_q0 i_q0 : Nat) (ha : Ew k_q0 i_q0 = some (a, .inl (cA, n, .inr (.inr (.inr (.inr f)))))) (ht : tys[t0]? = some (cA, .object C)) {i : Int32} (hin : vp_in i n) (hdg : decode cc pc = .ok (.aastore, 1)) (kk : ∀ (H1 : Heap) (locs1 : List Loc), wr D cl A (w2 Ew k_q0 i_q0 (some (a, .inl (cA, n, .inr (.inr (.inr (.inr (va_up f i.toNatClampNeg none)))))))) H1 → va_S A H0 H1 locs1 → W p l e R s m args below meth c H1 locs1 cells slots Q (F0 m (pc + 1) ls rest)) :
    W p l e R s m args below meth c H locs cells slots Q (F0 m pc ls (.null :: .int i :: .ref a :: rest)) := by
  obtain ⟨ws, hP, hD, hIn, hJn⟩ := hw
  obtain ⟨q0, ha'⟩ := hIn _ _ _ ha
  exact va_astqN hexec hb hK hP hD hS q0 t0 ha' ht hin hdg (fun H1 locs1 hP1 hD1 hS1 => kk H1 locs1 (wr_set hIn hJn ha ha' hP1 hD1) hS1)
theorem wr_newa0 (hexec : p.tables.exec = Jvm.exec) (hb : c.code = cc) {atype : ArrayType} (harr : (Cond.arrayClass (newarray.typeOf atype)).before args s = true) {ty : FieldType} (hty : newarray.typeOf atype = ty) (hK : va_K D cl tys s) (hw : wr D cl A Ew H) (hS : va_S A H0 H locs) (hA : ∀ q, H0.size ≤ q → A q) {n : Int32} {N' : Nat} {a0 : vp_A} (ha : ∀ cA : ClassId, vp_cell cA a0 = arrV cA N' (fun _ => defaultValue ty)) (hn : ¬ n < 0) (hN : n.toNatClampNeg = N') (hbytes : N' * componentBytes ty ≤ 536870912) (hcells : cells + 1 ≤ R.cells) (hslots : slots + N' ≤ R.slots) (hdg : decode cc pc = .ok (.newarray atype, 2)) (kn jn : Nat) (kk : ∀ (q : Nat) (cA : ClassId) (H1 : Heap), va_K D cl (tys ++ [(cA, ty)]) s → wr D cl A (w2 Ew kn jn (some (q, .inl (cA, a0)))) H1 → va_S A H0 H1 locs → W p l e R s m args below meth c H1 locs (cells + 1) (slots + N') Q (F0 m (pc + 2) ls (.ref q :: rest))) :
    W p l e R s m args below meth c H locs cells slots Q (F0 m pc ls (.int n :: rest)) := by
  obtain ⟨ws, hP, hD, hIn, hJn⟩ := hw
  exact va_newa hexec hb harr hty hK hP hD hS hA ha hn hN hbytes hcells hslots hdg (fun q cA H1 hK1 hP1 hD1 hS1 => kk q cA H1 hK1 (wr_push hIn hJn hP1 hD1) hS1)
theorem wr_newq0 (hexec : p.tables.exec = Jvm.exec) (hb : c.code = cc) {own C : String} {index : Nat} (hown : s.vm.findClass own = some m.cls) (hclink : (Cond.classLink own index C).before args s = true) (hover : va_AO C s) (hK : va_K D cl tys s) (hw : wr D cl A Ew H) (hS : va_S A H0 H locs) (hA : ∀ q, H0.size ≤ q → A q) {n : Int32} {N' : Nat} (hn : ¬ n < 0) (hN : n.toNatClampNeg = N') (hbytes : N' * 4 ≤ 536870912) (hcells : cells + 1 ≤ R.cells) (hslots : slots + N' ≤ R.slots) (hdg : decode cc pc = .ok (.anewarray index, 3)) (kn jn : Nat) (kk : ∀ (q : Nat) (cA : ClassId) (H1 : Heap), va_K D cl (tys ++ [(cA, .object C)]) s → wr D cl A (w2 Ew kn jn (some (q, .inl (cA, N', .inr (.inr (.inr (.inr (fun _ => none)))))))) H1 → va_S A H0 H1 locs → W p l e R s m args below meth c H1 locs (cells + 1) (slots + N') Q (F0 m (pc + 3) ls (.ref q :: rest))) :
    W p l e R s m args below meth c H locs cells slots Q (F0 m pc ls (.int n :: rest)) := by
  obtain ⟨ws, hP, hD, hIn, hJn⟩ := hw
  exact va_newq hexec hb hown hclink hover hK hP hD hS hA hn hN hbytes hcells hslots hdg (fun q cA H1 hK1 hP1 hD1 hS1 => kk q cA H1 hK1 (wr_push hIn hJn hP1 hD1) hS1)
theorem wr_new {c0 : Code} (hexec : p.tables.exec = Jvm.exec) (hb : c0.code = cc) {own C : String} {T : u_T} {N ci index : Nat} {Ts : List Cond} (hts : ∀ w ∈ Ts, w.before args s = true) (hin : ∀ w ∈ u_ws C T N, w ∈ Ts) (ty : Nat → FieldType) (hty : ∀ k, k < N → parseFieldDescriptor (T k).2.2.1 = some (ty k)) (hown : s.vm.findClass own = some m.cls) (hcl : (Cond.classLink own index C).before args s = true) (hinst : (Cond.instantiable C N).before args s = true) (hini : (Cond.initialized C).before args s = true) (hK : va_K D cl tys s) (hw : wr D cl A Ew H) (hS : va_S A H0 H locs) (hA : ∀ q, H0.size ≤ q → A q) (hc : cl[ci]? = some (C, T, N)) {fs : List Value} (hfs : ∀ j, j < N → defaultValue (ty j) = vp_V fs j) (hcells : cells + 1 ≤ R.cells) (hslots : slots + N ≤ R.slots) (hdg : decode cc pc = .ok (.new index, 3)) (kn jn : Nat) (kk : ∀ (q : Nat) (H1 : Heap), wr D cl A (w2 Ew kn jn (some (q, .inr (ci, fs)))) H1 → va_S A H0 H1 locs → W p l e R s m args below meth c0 H1 locs (cells + 1) (slots + N) Q (F0 m (pc + 3) ls (.ref q :: rest))) :
    W p l e R s m args below meth c0 H locs cells slots Q (F0 m pc ls rest) := by
  obtain ⟨ws, hP, hD, hIn, hJn⟩ := hw
  exact va_new hexec hb hts hin ty hty hown hcl hinst hini hK hP hD hS hA hc hfs hcells hslots hdg (fun q H1 hP1 hD1 hS1 => kk q H1 (wr_push hIn hJn hP1 hD1) hS1)
theorem wr_copyi {cc : ByteArray} (hexec : p.tables.exec = Jvm.exec) (hb : c.code = cc) (hml : c.maxLocals = ls.size) {own : String} {index : Nat} (hown : s.vm.findClass own = some m.cls) (hlink : (Cond.methodLink own index arraycopyName).before args s = true) (hnat : (Cond.native arraycopyName).before args s = true) (hstat : (Cond.static arraycopyName).before args s = true) (hini : (Cond.initialized "java/lang/System").before args s = true) (hK : va_K D cl tys s) (hw : wr D cl A Ew H) (hS : va_S A H0 H locs) (t0 t1 : Nat) {a0 : Nat} {c0 c1 : ClassId} {n0 n1 : Nat} {f g : Nat → Int32} {ty : FieldType} (k_q0 i_q0 : Nat) (ha0 : Ew k_q0 i_q0 = some (a0, .inl (c0, n0, .inl f))) (k_q1 i_q1 : Nat) (ha1 : Ew k_q1 i_q1 = some (a, .inl (c1, n1, .inl g))) (ht0 : tys[t0]? = some (c0, ty)) (ht1 : tys[t1]? = some (c1, ty)) (hprim : refKind ty = false) {sp dp n : Int32} (h1 : ¬ sp < 0) (h2 : ¬ dp < 0) (h3 : ¬ n < 0) (h4 : sp.toNatClampNeg + n.toNatClampNeg ≤ n0) (h5 : dp.toNatClampNeg + n.toNatClampNeg ≤ n1) (hfit : ∀ i, i < n.toNatClampNeg → fits ty (.int (f (sp.toNatClampNeg + i))) = true) (hframes : 1 ≤ R.frames) (hlocals : (rest.map fun v => v.category).sum + (nativeFrameWords "java/lang/System" "arraycopy" 5 + 11) ≤ R.locals) (hdg : decode cc pc = .ok (.invokestatic index, 3)) (kk : ∀ (H1 : Heap) (locs1 : List Loc), wr D cl A (w2 Ew k_q1 i_q1 (some (a, .inl (c1, n1, .inl (va_cpy f g sp.toNatClampNeg dp.toNatClampNeg n.toNatClampNeg))))) H1 → va_S A H0 H1 locs1 → W p l e R s m args below meth c H1 locs1 cells slots Q (F0 m (pc + 3) ls rest)) :
    W p l e R s m args below meth c H locs cells slots Q (F0 m pc ls (.int n :: .int dp :: .ref a :: .int sp :: .ref a0 :: rest)) := by
  obtain ⟨ws, hP, hD, hIn, hJn⟩ := hw
  obtain ⟨q0, ha0'⟩ := hIn _ _ _ ha0
  obtain ⟨q1, ha1'⟩ := hIn _ _ _ ha1
  exact va_copyi hexec hb hml hown hlink hnat hstat hini hK hP hD hS q0 q1 t0 t1 ha0' ha1' ht0 ht1 hprim h1 h2 h3 h4 h5 hfit hframes hlocals hdg (fun H1 locs1 hP1 hD1 hS1 => kk H1 locs1 (wr_set hIn hJn ha1 ha1' hP1 hD1) hS1)
theorem wr_copyl {cc : ByteArray} (hexec : p.tables.exec = Jvm.exec) (hb : c.code = cc) (hml : c.maxLocals = ls.size) {own : String} {index : Nat} (hown : s.vm.findClass own = some m.cls) (hlink : (Cond.methodLink own index arraycopyName).before args s = true) (hnat : (Cond.native arraycopyName).before args s = true) (hstat : (Cond.static arraycopyName).before args s = true) (hini : (Cond.initialized "java/lang/System").before args s = true) (hK : va_K D cl tys s) (hw : wr D cl A Ew H) (hS : va_S A H0 H locs) (t0 t1 : Nat) {a0 : Nat} {c0 c1 : ClassId} {n0 n1 : Nat} {f g : Nat → Int64} {ty : FieldType} (k_q0 i_q0 : Nat) (ha0 : Ew k_q0 i_q0 = some (a0, .inl (c0, n0, .inr (.inl f)))) (k_q1 i_q1 : Nat) (ha1 : Ew k_q1 i_q1 = some (a, .inl (c1, n1, .inr (.inl g)))) (ht0 : tys[t0]? = some (c0, ty)) (ht1 : tys[t1]? = some (c1, ty)) (hprim : refKind ty = false) {sp dp n : Int32} (h1 : ¬ sp < 0) (h2 : ¬ dp < 0) (h3 : ¬ n < 0) (h4 : sp.toNatClampNeg + n.toNatClampNeg ≤ n0) (h5 : dp.toNatClampNeg + n.toNatClampNeg ≤ n1) (hfit : ∀ i, i < n.toNatClampNeg → fits ty (.long (f (sp.toNatClampNeg + i))) = true) (hframes : 1 ≤ R.frames) (hlocals : (rest.map fun v => v.category).sum + (nativeFrameWords "java/lang/System" "arraycopy" 5 + 11) ≤ R.locals) (hdg : decode cc pc = .ok (.invokestatic index, 3)) (kk : ∀ (H1 : Heap) (locs1 : List Loc), wr D cl A (w2 Ew k_q1 i_q1 (some (a, .inl (c1, n1, .inr (.inl (va_cpy f g sp.toNatClampNeg dp.toNatClampNeg n.toNatClampNeg)))))) H1 → va_S A H0 H1 locs1 → W p l e R s m args below meth c H1 locs1 cells slots Q (F0 m (pc + 3) ls rest)) :
    W p l e R s m args below meth c H locs cells slots Q (F0 m pc ls (.int n :: .int dp :: .ref a :: .int sp :: .ref a0 :: rest)) := by
  obtain ⟨ws, hP, hD, hIn, hJn⟩ := hw
  obtain ⟨q0, ha0'⟩ := hIn _ _ _ ha0
  obtain ⟨q1, ha1'⟩ := hIn _ _ _ ha1
  exact va_copyl hexec hb hml hown hlink hnat hstat hini hK hP hD hS q0 q1 t0 t1 ha0' ha1' ht0 ht1 hprim h1 h2 h3 h4 h5 hfit hframes hlocals hdg (fun H1 locs1 hP1 hD1 hS1 => kk H1 locs1 (wr_set hIn hJn ha1 ha1' hP1 hD1) hS1)
theorem wr_copyq {cc : ByteArray} (hexec : p.tables.exec = Jvm.exec) (hb : c.code = cc) (hml : c.maxLocals = ls.size) {own : String} {index : Nat} (hown : s.vm.findClass own = some m.cls) (hlink : (Cond.methodLink own index arraycopyName).before args s = true) (hnat : (Cond.native arraycopyName).before args s = true) (hstat : (Cond.static arraycopyName).before args s = true) (hini : (Cond.initialized "java/lang/System").before args s = true) (hK : va_K D cl tys s) (hw : wr D cl A Ew H) (hS : va_S A H0 H locs) (t0 t1 : Nat) {a0 : Nat} {c0 c1 : ClassId} {n0 n1 : Nat} {f g : Nat → Option Nat} {E0 E1 C : String} (k_q0 i_q0 : Nat) (ha0 : Ew k_q0 i_q0 = some (a0, .inl (c0, n0, .inr (.inr (.inr (.inr f)))))) (k_q1 i_q1 : Nat) (ha1 : Ew k_q1 i_q1 = some (a, .inl (c1, n1, .inr (.inr (.inr (.inr g)))))) (ht0 : tys[t0]? = some (c0, .object E0)) (ht1 : tys[t1]? = some (c1, .object E1)) {sp dp n : Int32} (h1 : ¬ sp < 0) (h2 : ¬ dp < 0) (h3 : ¬ n < 0) (h4 : sp.toNatClampNeg + n.toNatClampNeg ≤ n0) (h5 : dp.toNatClampNeg + n.toNatClampNeg ≤ n1) (hel : ∀ i : Nat, i < n.toNatClampNeg → ∀ y : Nat, f (sp.toNatClampNeg + i) = some y → ∃ cellV : Cell, H[y]? = some cellV ∧ cellV.vm.isStatics = false ∧ s.vm.findClass C = some cellV.cls) (hasg : ∀ comp c0 : ClassId, s.vm.findClass E1 = some comp → s.vm.findClass C = some c0 → s.vm.assignable c0 comp = true) (hframes : 1 ≤ R.frames) (hlocals : (rest.map fun v => v.category).sum + (nativeFrameWords "java/lang/System" "arraycopy" 5 + 11) ≤ R.locals) (hdg : decode cc pc = .ok (.invokestatic index, 3)) (kk : ∀ (H1 : Heap) (locs1 : List Loc), wr D cl A (w2 Ew k_q1 i_q1 (some (a, .inl (c1, n1, .inr (.inr (.inr (.inr (va_cpy f g sp.toNatClampNeg dp.toNatClampNeg n.toNatClampNeg)))))))) H1 → va_S A H0 H1 locs1 → W p l e R s m args below meth c H1 locs1 cells slots Q (F0 m (pc + 3) ls rest)) :
    W p l e R s m args below meth c H locs cells slots Q (F0 m pc ls (.int n :: .int dp :: .ref a :: .int sp :: .ref a0 :: rest)) := by
  obtain ⟨ws, hP, hD, hIn, hJn⟩ := hw
  obtain ⟨q0, ha0'⟩ := hIn _ _ _ ha0
  obtain ⟨q1, ha1'⟩ := hIn _ _ _ ha1
  exact va_copyq hexec hb hml hown hlink hnat hstat hini hK hP hD hS q0 q1 t0 t1 ha0' ha1' ht0 ht1 h1 h2 h3 h4 h5 hel hasg hframes hlocals hdg (fun H1 locs1 hP1 hD1 hS1 => kk H1 locs1 (wr_set hIn hJn ha1 ha1' hP1 hD1) hS1)
end WRR
end
section
/-! abstract values: ints, longs, references to roles; abstract cells; the abstract heap -/
abbrev Ro : Type := Nat × Nat
abbrev AV : Type := Int32 ⊕ Int64 ⊕ Option Ro
abbrev AC : Type := (Nat → Int32) ⊕ (Nat → Int64) ⊕ (Nat → Option Ro)
abbrev AE : Type := (Nat × List AV) ⊕ (Nat × Nat × AC)
abbrev wM : Type := Ro → Option AE
abbrev vI (x : Int32) : AV := Sum.inl x
abbrev vL (x : Int64) : AV := Sum.inr (Sum.inl x)
abbrev vR (x : Option Ro) : AV := Sum.inr (Sum.inr x)
abbrev ob (ci : Nat) (fs : List AV) : AE := Sum.inl (ci, fs)
abbrev ai (t n : Nat) (f : Nat → Int32) : AE := Sum.inr (t, n, Sum.inl f)
abbrev al (t n : Nat) (f : Nat → Int64) : AE := Sum.inr (t, n, Sum.inr (Sum.inl f))
abbrev ar (t n : Nat) (f : Nat → Option Ro) : AE := Sum.inr (t, n, Sum.inr (Sum.inr f))
def up (M : wM) (r : Ro) (e : AE) : wM := fun q => if q = r then some e else M q
theorem up_s {M : wM} {r : Ro} {e : AE} : up M r e r = some e := by simp [up]
theorem up_n {M : wM} {r q : Ro} {e : AE} (h : q ≠ r) : up M r e q = M q := by simp [up, h]
theorem up_up {M : wM} {r : Ro} {e e' : AE} : up (up M r e) r e' = up M r e' := by
  funext q
  by_cases h : q = r <;> simp [up, h]
theorem up_id {M : wM} {r : Ro} {e : AE} (h : M r = some e) : up M r e = M := by
  funext q
  by_cases g : q = r
  · rw [g, up_s, h]
  · rw [up_n g]
theorem up_ex {M : wM} {r q : Ro} {e e' : AE} (h : q ≠ r) : up (up M r e) q e' = up (up M q e') r e := by
  funext z
  by_cases g : z = r
  · have : z ≠ q := fun k => h (k.symm.trans g)
    rw [up_n this, g, up_s, up_s]
  · by_cases g2 : z = q
    · rw [g2, up_s, up_n h, up_s]
    · rw [up_n g2, up_n g, up_n g, up_n g2]
def cv (ad : Ro → Nat) (v : AV) : Value := match v with
  | .inl x => .int x
  | .inr (.inl x) => .long x
  | .inr (.inr r) => va_rf (r.map ad)
def acat (v : AV) : Nat := match v with
  | .inl _ => 1
  | .inr (.inl _) => 2
  | .inr (.inr _) => 1
theorem cv_cat (ad : Ro → Nat) (v : AV) : (cv ad v).category = acat v := by
  rcases v with x | x | r
  · rfl
  · rfl
  · cases r <;> rfl
def cvA (ad : Ro → Nat) (f : AC) : (Nat → Int32) ⊕ (Nat → Int64) ⊕ (Nat → UInt32) ⊕ (Nat → UInt64) ⊕ (Nat → Option Nat) := match f with
  | .inl f => .inl f
  | .inr (.inl f) => .inr (.inl f)
  | .inr (.inr f) => .inr (.inr (.inr (.inr (fun j => (f j).map ad))))
def cvE (dA : Nat → ClassId) (ad : Ro → Nat) (e : AE) : va_E := match e with
  | .inl o => .inr (o.1, o.2.map (cv ad))
  | .inr a => .inl (dA a.1, a.2.1, cvA ad a.2.2)
def cW (dA : Nat → ClassId) (ad : Ro → Nat) (M : wM) : wE := fun k i => if k < 90 then (M (k, i)).map (fun e => (ad (k, i), cvE dA ad e)) else none
/-- a reference is to a role that is there -/
def lv1 (M : wM) (v : AV) : Prop := ∀ r, v = vR (some r) → M r ≠ none
def okE (M : wM) (e : AE) : Prop := match e with
  | .inl o => ∀ v ∈ o.2, lv1 M v
  | .inr a => a.1 < aT.length ∧ match a.2.2 with
    | .inl _ => True
    | .inr (.inl _) => True
    | .inr (.inr f) => ∀ j, lv1 M (vR (f j))
def eE : AE := ar 3 0 (fun _ => none)
def eM : AE := ai 99 0 (fun _ => 0)
def clM (M : wM) : Prop := ∀ r e, M r = some e → (okE M e ∧ r.1 < 90) ∨ (r = (90, 0) ∧ e = eE) ∨ (r = (91, 0) ∧ e = eM)
def wA (B : Nat) : Nat → Prop := fun q => B ≤ q
def WA (D : va_G) (dA : Nat → ClassId) (B : Nat) (zE : Nat × Nat) (ad : Ro → Nat) (M : wM) (H : Heap) : Prop := wr D classes (wA B) (cW dA ad M) H ∧ clM M ∧ (ad (90, 0) = zE.1 ∧ ad (91, 0) = zE.2) ∧ (M (90, 0) = some eE ∧ M (91, 0) = some eM)
def tysA (dA : Nat → ClassId) : List (ClassId × FieldType) := aT.mapIdx (fun t ty => (dA t, ty))
theorem tysA_at {dA : Nat → ClassId} {t : Nat} {ty : FieldType} (h : aT[t]? = some ty) : (tysA dA)[t]? = some (dA t, ty) := by
  unfold tysA
  rw [List.getElem?_mapIdx, h]
  rfl
def xt (M : wM) (ad ad' : Ro → Nat) : Prop := ∀ r, M r ≠ none → ad' r = ad r
def sb (M M' : wM) : Prop := ∀ r, M r ≠ none → M' r ≠ none
theorem sb_rf {M : wM} : sb M M := fun _ h => h
theorem sb_up {M M' : wM} {r : Ro} {e : AE} (h : sb M M') : sb M (up M' r e) := fun q hq => by
  by_cases g : q = r
  · rw [g, up_s]
    exact fun k => nomatch k
  · rw [up_n g]
    exact h q hq
theorem sb_up1 {M : wM} {r : Ro} {e : AE} : sb M (up M r e) := sb_up sb_rf
theorem sb_tr {M M1 M2 : wM} (h : sb M M1) (h1 : sb M1 M2) : sb M M2 := fun q hq => h1 q (h q hq)
theorem lv1_I {M : wM} {x : Int32} : lv1 M (vI x) := fun _ h => nomatch h
theorem lv1_L {M : wM} {x : Int64} : lv1 M (vL x) := fun _ h => nomatch h
theorem lv1_N {M : wM} : lv1 M (vR none) := fun _ h => nomatch h
theorem lv1_R {M : wM} {r : Ro} {e : AE} (h : M r = some e) : lv1 M (vR (some r)) := fun q hq => by
  cases hq
  rw [h]
  exact fun k => nomatch k
theorem lv1.sb {M M' : wM} {v : AV} (h : lv1 M v) (hs : sb M M') : lv1 M' v := fun r hr => hs r (h r hr)
theorem okE.sb {M M' : wM} {e : AE} (h : okE M e) (hs : sb M M') : okE M' e := by
  rcases e with x | ⟨t, n, f | f | f⟩
  · exact fun v hv => (h v hv).sb hs
  · exact h
  · exact h
  · exact ⟨h.1, fun j => (h.2 j).sb hs⟩
theorem clM.up {M : wM} {r : Ro} {e : AE} (h : clM M) (hr : r.1 < 90) (he : okE (up M r e) e) : clM (up M r e) := fun q x hq => by
  by_cases g : q = r
  · rw [g, up_s] at hq
    cases hq
    exact Or.inl ⟨he, g ▸ hr⟩
  · rw [up_n g] at hq
    rcases h q x hq with k | k
    · exact Or.inl ⟨k.1.sb sb_up1, k.2⟩
    · exact Or.inr k
theorem clM.ok {M : wM} {r : Ro} {e : AE} (h : clM M) (hM : M r = some e) (hr : r.1 < 90) : okE M e := by
  rcases h r e hM with k | k | k
  · exact k.1
  · rw [k.1] at hr
    exact absurd hr (by decide)
  · rw [k.1] at hr
    exact absurd hr (by decide)
theorem clM.okO {M : wM} {r : Ro} {ci : Nat} {fs : List AV} (h : clM M) (hM : M r = some (ob ci fs)) : okE M (ob ci fs) ∧ r.1 < 90 := by
  rcases h r _ hM with k | k | k
  · exact k
  · exact nomatch k.2
  · exact nomatch k.2
theorem cv_xt {M : wM} {ad ad' : Ro → Nat} (hx : xt M ad ad') {v : AV} (hv : lv1 M v) : cv ad' v = cv ad v := by
  rcases v with x | x | r
  · rfl
  · rfl
  · cases r with
    | none => rfl
    | some r => show va_rf (some (ad' r)) = va_rf (some (ad r)); rw [hx r (hv r rfl)]
theorem cvs_xt {M : wM} {ad ad' : Ro → Nat} (hx : xt M ad ad') {st : List AV} (hv : ∀ v ∈ st, lv1 M v) : st.map (cv ad') = st.map (cv ad) := List.map_congr_left (fun v h => cv_xt hx (hv v h))
theorem cvE_xt {dA : Nat → ClassId} {M : wM} {ad ad' : Ro → Nat} (hx : xt M ad ad') {e : AE} (h : okE M e) : cvE dA ad' e = cvE dA ad e := by
  rcases e with o | ⟨t, n, f | f | f⟩
  · show Sum.inr (o.1, o.2.map (cv ad')) = Sum.inr (o.1, o.2.map (cv ad))
    rw [cvs_xt hx h]
  · rfl
  · rfl
  · show Sum.inl (dA t, n, Sum.inr (Sum.inr (Sum.inr (Sum.inr (fun j => (f j).map ad'))))) = Sum.inl (dA t, n, Sum.inr (Sum.inr (Sum.inr (Sum.inr (fun j => (f j).map ad)))))
    have : (fun j => (f j).map ad') = fun j => (f j).map ad := funext fun j => by
      cases hj : f j with
      | none => rfl
      | some r => show some (ad' r) = some (ad r); rw [hx r (h.2 j r (by rw [hj]))]
    rw [this]
theorem cW_at {dA : Nat → ClassId} {ad : Ro → Nat} {M : wM} {r : Ro} {e : AE} (hr : r.1 < 90) (h : M r = some e) : cW dA ad M r.1 r.2 = some (ad r, cvE dA ad e) := by
  unfold cW
  rw [if_pos hr]
  show (M r).map _ = _
  rw [h]
  rfl
theorem cW_up {dA : Nat → ClassId} {ad : Ro → Nat} {M : wM} {r : Ro} {e : AE} (hr : r.1 < 90) : w2 (cW dA ad M) r.1 r.2 (some (ad r, cvE dA ad e)) = cW dA ad (up M r e) := by
  funext k i
  by_cases h : k = r.1 ∧ i = r.2
  · rw [h.1, h.2, w2_s, cW_at hr up_s]
  · have hn : (k, i) ≠ r := fun q => h ⟨congrArg Prod.fst q, congrArg Prod.snd q⟩
    simp [w2, h, cW, up_n hn]
/-- a new cell at q: the roles' addresses with one more -/
def adN (ad : Ro → Nat) (r : Ro) (q : Nat) : Ro → Nat := fun z => if z = r then q else ad z
theorem adN_xt {M : wM} {ad : Ro → Nat} {r : Ro} {q : Nat} (h : M r = none) : xt M ad (adN ad r q) := fun z hz => by
  unfold adN
  rw [if_neg (fun k : z = r => hz (by rw [k]; exact h))]
theorem adN_s {ad : Ro → Nat} {r : Ro} {q : Nat} : adN ad r q r = q := by simp [adN]
theorem cW_new {dA : Nat → ClassId} {ad : Ro → Nat} {M : wM} {r : Ro} {q : Nat} {e : AE} (hc : clM M) (hn : M r = none) (hr : r.1 < 90) : w2 (cW dA ad M) r.1 r.2 (some (q, cvE dA (adN ad r q) e)) = cW dA (adN ad r q) (up M r e) := by
  funext k i
  by_cases h : k = r.1 ∧ i = r.2
  · rw [h.1, h.2, w2_s, cW_at hr up_s, adN_s]
  · have hne : (k, i) ≠ r := fun q => h ⟨congrArg Prod.fst q, congrArg Prod.snd q⟩
    unfold w2 cW
    rw [if_neg h, up_n hne]
    by_cases hk : k < 90
    · rw [if_pos hk, if_pos hk]
      cases hm : M (k, i) with
      | none => rfl
      | some x =>
        show some (ad (k, i), cvE dA ad x) = some (adN ad r q (k, i), cvE dA (adN ad r q) x)
        rw [cvE_xt (adN_xt hn) (hc.ok hm hk), adN_xt hn (k, i) (by rw [hm]; exact fun z => nomatch z)]
    · rw [if_neg hk, if_neg hk]
def lvL (M : wM) (lv : List (Nat × AV)) : Prop := ∀ q ∈ lv, lv1 M q.2
def lvS (M : wM) (st : List AV) : Prop := ∀ v ∈ st, lv1 M v
theorem lvS.hd {M : wM} {v : AV} {st : List AV} (h : lvS M (v :: st)) : lv1 M v := h v List.mem_cons_self
theorem lvS.tl {M : wM} {v : AV} {st : List AV} (h : lvS M (v :: st)) : lvS M st := fun x hx => h x (List.mem_cons_of_mem _ hx)
theorem lvS.cn {M : wM} {v : AV} {st : List AV} (h : lvS M st) (hv : lv1 M v) : lvS M (v :: st) := fun x hx => by
  rcases List.mem_cons.mp hx with rfl | hx
  · exact hv
  · exact h x hx
theorem lvS.ni {M : wM} {x : Int32} {st : List AV} (h : lvS M st) : lvS M (vI x :: st) := h.cn lv1_I
theorem lvS.nl {M : wM} {x : Int64} {st : List AV} (h : lvS M st) : lvS M (vL x :: st) := h.cn lv1_L
theorem lvS.sb {M M' : wM} {st : List AV} (h : lvS M st) (hs : sb M M') : lvS M' st := fun v hv => (h v hv).sb hs
theorem lvL.sb {M M' : wM} {lv : List (Nat × AV)} (h : lvL M lv) (hs : sb M M') : lvL M' lv := fun v hv => (h v hv).sb hs
theorem lvS_nil {M : wM} : lvS M [] := fun _ h => nomatch h
theorem lvS_of {M : wM} {st : List AV} (hd : ∀ v ∈ st, lv1 M v) : lvS M st := hd
abbrev cvL (ad : Ro → Nat) (lv : List (Nat × AV)) : List (Nat × Value) := lv.map fun q => (q.1, cv ad q.2)
theorem cvL_at {ad : Ro → Nat} {lv : List (Nat × AV)} {j i : Nat} {v : AV} (h : lv[j]? = some (i, v)) : (cvL ad lv)[j]? = some (i, cv ad v) := by
  rw [List.getElem?_map, h]
  rfl
theorem cvL_xt {M : wM} {ad ad' : Ro → Nat} (hx : xt M ad ad') {lv : List (Nat × AV)} (hv : lvL M lv) : cvL ad' lv = cvL ad lv := List.map_congr_left (fun q h => by rw [cv_xt hx (hv q h)])
theorem cvL_f1 {ad : Ro → Nat} {lv : List (Nat × AV)} {i : Nat} : (cvL ad lv).filter (fun q => !(q.1 == i) && !(q.1 + 1 == i && q.2.category == 2)) = cvL ad (lv.filter (fun q => !(q.1 == i) && !(q.1 + 1 == i && acat q.2 == 2))) := by
  rw [List.filter_map]
  congr 1
  congr 1
  funext q
  simp only [Function.comp, cv_cat]
theorem cvL_f2 {ad : Ro → Nat} {lv : List (Nat × AV)} {i : Nat} : (cvL ad lv).filter (fun q => !(q.1 == i) && (!(q.1 == i + 1) && !(q.1 + 1 == i && q.2.category == 2))) = cvL ad (lv.filter (fun q => !(q.1 == i) && (!(q.1 == i + 1) && !(q.1 + 1 == i && acat q.2 == 2)))) := by
  rw [List.filter_map]
  congr 1
  congr 1
  funext q
  simp only [Function.comp, cv_cat]
theorem lvL_st {M : wM} {lv lvn : List (Nat × AV)} {i : Nat} {v : AV} {g : Nat × AV → Bool} (h : lvL M lv) (hv : lv1 M v) (hl : (i, v) :: lv.filter g = lvn) : lvL M lvn := by
  subst hl
  intro q hq
  rcases List.mem_cons.mp hq with rfl | hq
  · exact hv
  · exact h q (List.mem_filter.mp hq).1
/-- the static empty array of lists -/
def gsC : String := "java/util/ArrayList"
def gsN : String := "DEFAULTCAPACITY_EMPTY_ELEMENTDATA"
def gsD : String := "[Ljava/lang/Object;"
def gStat (B : Nat) (zE : Nat × Nat) (s : State) : Prop := va_Z gsC gsN gsD (.ref zE.1) (wA B) s s.heap ∧ va_T (.object "java/lang/Object") zE.1 0 (fun _ => .null) (wA B) s s.heap ∧ va_Mi gsD zE.2 s ∧ ¬ wA B zE.2 ∧ ∀ C ∈ aoL, va_AO C s
theorem gStat_call {B : Nat} {zE : Nat × Nat} {s U : State} {H : Heap} {locs : List Loc} (h : gStat B zE s) (hS : va_S (wA B) s.heap H locs) (hU : U.heap = H) (hW : s.WarmedH U.vm) : gStat B zE U := by
  subst hU
  exact ⟨va_Z.moved hW.alike (h.1.kept hS.2.1), va_T.moved hW.alike (h.2.1.kept hS.2.1), va_Mi.moved hW.alike h.2.2.1, h.2.2.2.1, fun C hC => va_AO.moved hW.alike (h.2.2.2.2 C hC)⟩
theorem gStat_blind {B : Nat} {zE : Nat × Nat} {U : State} (h : gStat B zE U) (a : Array Value) (g : JFrame) (mk : MethodId) : gStat B zE (U.calling g mk a) := ⟨va_Z.moved (u := U) (U := U.calling g mk a) (Vm.Alike.refl U.vm) h.1, va_T.moved (u := U) (U := U.calling g mk a) (Vm.Alike.refl U.vm) h.2.1, va_Mi.moved (u := U) (U := U.calling g mk a) (Vm.Alike.refl U.vm) h.2.2.1, h.2.2.2.1, fun C hC => va_AO.moved (u := U) (U := U.calling g mk a) (Vm.Alike.refl U.vm) (h.2.2.2.2 C hC)⟩
theorem gStat_out {B : Nat} {zE : Nat × Nat} {s : State} (h : gStat B zE s) : ¬ wA B zE.1 ∧ ¬ wA B zE.2 := ⟨h.2.1.out, h.2.2.2.1⟩
/-- what a state must hold beside the roles: the classes, the static array, the words of nests and casts -/
def gP (D : va_G) (dA : Nat → ClassId) (B : Nat) (zE : Nat × Nat) (s : State) : Prop := va_K D classes (tysA dA) s ∧ B ≤ s.heap.size ∧ gStat B zE s ∧ ∀ w ∈ nestW, va_Nw w s
theorem nest_warm {s U : State} (hW : s.WarmedH U.vm) {w : Cond} (hw : nestOk w = true) (h : va_Nw w s) : va_Nw w U := by
  cases w <;> first | (simp [nestOk] at hw; done) | exact va_Nw.warmF hW h | exact va_Nw.warmM hW h | exact va_Nw.warmC hW h | exact va_Nw.warmD hW h
theorem gP.call {D : va_G} {dA : Nat → ClassId} {B : Nat} {zE : Nat × Nat} {s U : State} {H : Heap} {locs : List Loc} (h : gP D dA B zE s) (hS : va_S (wA B) s.heap H locs) (hU : U.heap = H) (hW : s.WarmedH U.vm) : gP D dA B zE U := by
  obtain ⟨hK, hB, hst, hN⟩ := h
  refine ⟨va_K.moved hW.alike hK, ?_, gStat_call hst hS hU hW, fun w hw => nest_warm hW (nestW_ok w hw) (hN w hw)⟩
  rw [hU]
  exact Nat.le_trans hB hS.1
theorem gP.blind {D : va_G} {dA : Nat → ClassId} {B : Nat} {zE : Nat × Nat} {U : State} (h : gP D dA B zE U) (a : Array Value) (g : JFrame) (mk : MethodId) : gP D dA B zE (U.calling g mk a) := by
  obtain ⟨hK, hB, hst, hN⟩ := h
  exact ⟨va_K.moved (u := U) (U := U.calling g mk a) (Vm.Alike.refl U.vm) hK, hB, gStat_blind hst a g mk, fun w hw => va_Nw.same (nestW_tab w hw) (rfl : U.vm = (U.calling g mk a).vm) (hN w hw)⟩
def Cx (p : Program) (s : State) (m : MethodId) (args : Array Value) (meth : Method) (c : Code) (cc : ByteArray) (nL : Nat) (own : String) (Ts : List Cond) (D : va_G) (dA : Nat → ClassId) (B : Nat) (zE : Nat × Nat) : Prop :=
  p.tables.exec = Jvm.exec ∧ c.code = cc ∧ c.maxLocals = nL ∧ s.vm.findClass own = some m.cls ∧ (∀ w ∈ Ts, w.before args s = true) ∧ gP D dA B zE s ∧ meth.locks = false
def AW (p : Program) (l : Launch) (e : Env) (R : Room) (s : State) (m : MethodId) (args : Array Value) (below : List Frame) (meth : Method) (c : Code) (Q : State → Prop) (D : va_G) (dA : Nat → ClassId) (B : Nat) (zE : Nat × Nat) (nL : Nat) (ad0 : Ro → Nat) (M0 M : wM) (cells slots pc : Nat) (lv : List (Nat × AV)) (st : List AV) : Prop :=
  ∀ (ad : Ro → Nat) (H : Heap) (locs : List Loc) (ls : Array Slot), xt M0 ad0 ad → sb M0 M → WA D dA B zE ad M H → va_S (wA B) s.heap H locs → lv_has ls nL (cvL ad lv) → lvL M lv → lvS M st → W p l e R s m args below meth c H locs cells slots Q (F0 m pc ls (st.map (cv ad)))
section AWR
variable {p : Program} {l : Launch} {e : Env} {R : Room} {s : State} {m : MethodId} {args : Array Value} {below : List Frame} {meth : Method} {c : Code} {Q : State → Prop} {D : va_G} {dA : Nat → ClassId} {B : Nat} {zE : Nat × Nat} {nL : Nat} {ad0 : Ro → Nat} {M0 M : wM} {cells slots pc : Nat} {lv lvn : List (Nat × AV)} {st : List AV} {cc : ByteArray} {own : String} {Ts : List Cond}

theorem aw_iconst (X : Cx p s m args meth c cc nL own Ts D dA B zE) {n : Int} (v : Int32) (hv : Int32.ofInt n = v) (hd : decode cc pc = .ok (.iconst n, 1)) (k : AW p l e R s m args below meth c Q D dA B zE nL ad0 M0 M cells slots (pc + 1) lv (vI v :: st)) : AW p l e R s m args below meth c Q D dA B zE nL ad0 M0 M cells slots pc lv (st) :=
  fun ad H locs ls h1 h2 h3 h4 h5 h6 h7 => lv_iconst X.1 X.2.1 hd hv (k ad H locs ls h1 h2 h3 h4 h5 h6 h7.ni)
theorem aw_bipush (X : Cx p s m args meth c cc nL own Ts D dA B zE) {n : Int} (v : Int32) (hv : (Int8.ofInt n).toInt32 = v) (hd : decode cc pc = .ok (.bipush n, 2)) (k : AW p l e R s m args below meth c Q D dA B zE nL ad0 M0 M cells slots (pc + 2) lv (vI v :: st)) : AW p l e R s m args below meth c Q D dA B zE nL ad0 M0 M cells slots pc lv (st) :=
  fun ad H locs ls h1 h2 h3 h4 h5 h6 h7 => lv_bipush X.1 X.2.1 hd hv (k ad H locs ls h1 h2 h3 h4 h5 h6 h7.ni)
theorem aw_sipush (X : Cx p s m args meth c cc nL own Ts D dA B zE) {n : Int} (v : Int32) (hv : (Int16.ofInt n).toInt32 = v) (hd : decode cc pc = .ok (.sipush n, 3)) (k : AW p l e R s m args below meth c Q D dA B zE nL ad0 M0 M cells slots (pc + 3) lv (vI v :: st)) : AW p l e R s m args below meth c Q D dA B zE nL ad0 M0 M cells slots pc lv (st) :=
  fun ad H locs ls h1 h2 h3 h4 h5 h6 h7 => lv_sipush X.1 X.2.1 hd hv (k ad H locs ls h1 h2 h3 h4 h5 h6 h7.ni)
theorem aw_lconst (X : Cx p s m args meth c cc nL own Ts D dA B zE) {n : Fin 2} (v : Int64) (hv : Int64.ofNat (n : Nat) = v) (hd : decode cc pc = .ok (.lconst n, 1)) (k : AW p l e R s m args below meth c Q D dA B zE nL ad0 M0 M cells slots (pc + 1) lv (vL v :: st)) : AW p l e R s m args below meth c Q D dA B zE nL ad0 M0 M cells slots pc lv (st) :=
  fun ad H locs ls h1 h2 h3 h4 h5 h6 h7 => lv_lconst X.1 X.2.1 hd hv (k ad H locs ls h1 h2 h3 h4 h5 h6 h7.nl)
theorem aw_null (X : Cx p s m args meth c cc nL own Ts D dA B zE)  (hd : decode cc pc = .ok (.aconst_null, 1)) (k : AW p l e R s m args below meth c Q D dA B zE nL ad0 M0 M cells slots (pc + 1) lv (vR none :: st)) : AW p l e R s m args below meth c Q D dA B zE nL ad0 M0 M cells slots pc lv (st) :=
  fun ad H locs ls h1 h2 h3 h4 h5 h6 h7 => lv_null X.1 X.2.1 hd (k ad H locs ls h1 h2 h3 h4 h5 h6 (h7.cn lv1_N))
theorem aw_iadd (X : Cx p s m args meth c cc nL own Ts D dA B zE) {x y : Int32} (hd : decode cc pc = .ok (.iadd, 1)) (k : AW p l e R s m args below meth c Q D dA B zE nL ad0 M0 M cells slots (pc + 1) lv (vI (x + y) :: st)) : AW p l e R s m args below meth c Q D dA B zE nL ad0 M0 M cells slots pc lv (vI y :: vI x :: st) :=
  fun ad H locs ls h1 h2 h3 h4 h5 h6 h7 => lv_iadd X.1 X.2.1 hd (k ad H locs ls h1 h2 h3 h4 h5 h6 h7.tl.tl.ni)
theorem aw_isub (X : Cx p s m args meth c cc nL own Ts D dA B zE) {x y : Int32} (hd : decode cc pc = .ok (.isub, 1)) (k : AW p l e R s m args below meth c Q D dA B zE nL ad0 M0 M cells slots (pc + 1) lv (vI (x - y) :: st)) : AW p l e R s m args below meth c Q D dA B zE nL ad0 M0 M cells slots pc lv (vI y :: vI x :: st) :=
  fun ad H locs ls h1 h2 h3 h4 h5 h6 h7 => lv_isub X.1 X.2.1 hd (k ad H locs ls h1 h2 h3 h4 h5 h6 h7.tl.tl.ni)
theorem aw_imul (X : Cx p s m args meth c cc nL own Ts D dA B zE) {x y : Int32} (hd : decode cc pc = .ok (.imul, 1)) (k : AW p l e R s m args below meth c Q D dA B zE nL ad0 M0 M cells slots (pc + 1) lv (vI (x * y) :: st)) : AW p l e R s m args below meth c Q D dA B zE nL ad0 M0 M cells slots pc lv (vI y :: vI x :: st) :=
  fun ad H locs ls h1 h2 h3 h4 h5 h6 h7 => lv_imul X.1 X.2.1 hd (k ad H locs ls h1 h2 h3 h4 h5 h6 h7.tl.tl.ni)
theorem aw_iand (X : Cx p s m args meth c cc nL own Ts D dA B zE) {x y : Int32} (hd : decode cc pc = .ok (.iand, 1)) (k : AW p l e R s m args below meth c Q D dA B zE nL ad0 M0 M cells slots (pc + 1) lv (vI (x &&& y) :: st)) : AW p l e R s m args below meth c Q D dA B zE nL ad0 M0 M cells slots pc lv (vI y :: vI x :: st) :=
  fun ad H locs ls h1 h2 h3 h4 h5 h6 h7 => lv_iand X.1 X.2.1 hd (k ad H locs ls h1 h2 h3 h4 h5 h6 h7.tl.tl.ni)
theorem aw_ior (X : Cx p s m args meth c cc nL own Ts D dA B zE) {x y : Int32} (hd : decode cc pc = .ok (.ior, 1)) (k : AW p l e R s m args below meth c Q D dA B zE nL ad0 M0 M cells slots (pc + 1) lv (vI (x ||| y) :: st)) : AW p l e R s m args below meth c Q D dA B zE nL ad0 M0 M cells slots pc lv (vI y :: vI x :: st) :=
  fun ad H locs ls h1 h2 h3 h4 h5 h6 h7 => lv_ior X.1 X.2.1 hd (k ad H locs ls h1 h2 h3 h4 h5 h6 h7.tl.tl.ni)
theorem aw_ixor (X : Cx p s m args meth c cc nL own Ts D dA B zE) {x y : Int32} (hd : decode cc pc = .ok (.ixor, 1)) (k : AW p l e R s m args below meth c Q D dA B zE nL ad0 M0 M cells slots (pc + 1) lv (vI (x ^^^ y) :: st)) : AW p l e R s m args below meth c Q D dA B zE nL ad0 M0 M cells slots pc lv (vI y :: vI x :: st) :=
  fun ad H locs ls h1 h2 h3 h4 h5 h6 h7 => lv_ixor X.1 X.2.1 hd (k ad H locs ls h1 h2 h3 h4 h5 h6 h7.tl.tl.ni)
theorem aw_ishl (X : Cx p s m args meth c cc nL own Ts D dA B zE) {x y : Int32} (hd : decode cc pc = .ok (.ishl, 1)) (k : AW p l e R s m args below meth c Q D dA B zE nL ad0 M0 M cells slots (pc + 1) lv (vI (x <<< (y &&& 31)) :: st)) : AW p l e R s m args below meth c Q D dA B zE nL ad0 M0 M cells slots pc lv (vI y :: vI x :: st) :=
  fun ad H locs ls h1 h2 h3 h4 h5 h6 h7 => lv_ishl X.1 X.2.1 hd (k ad H locs ls h1 h2 h3 h4 h5 h6 h7.tl.tl.ni)
theorem aw_ishr (X : Cx p s m args meth c cc nL own Ts D dA B zE) {x y : Int32} (hd : decode cc pc = .ok (.ishr, 1)) (k : AW p l e R s m args below meth c Q D dA B zE nL ad0 M0 M cells slots (pc + 1) lv (vI (x >>> (y &&& 31)) :: st)) : AW p l e R s m args below meth c Q D dA B zE nL ad0 M0 M cells slots pc lv (vI y :: vI x :: st) :=
  fun ad H locs ls h1 h2 h3 h4 h5 h6 h7 => lv_ishr X.1 X.2.1 hd (k ad H locs ls h1 h2 h3 h4 h5 h6 h7.tl.tl.ni)
theorem aw_ladd (X : Cx p s m args meth c cc nL own Ts D dA B zE) {x y : Int64} (hd : decode cc pc = .ok (.ladd, 1)) (k : AW p l e R s m args below meth c Q D dA B zE nL ad0 M0 M cells slots (pc + 1) lv (vL (x + y) :: st)) : AW p l e R s m args below meth c Q D dA B zE nL ad0 M0 M cells slots pc lv (vL y :: vL x :: st) :=
  fun ad H locs ls h1 h2 h3 h4 h5 h6 h7 => lv_ladd X.1 X.2.1 hd (k ad H locs ls h1 h2 h3 h4 h5 h6 h7.tl.tl.nl)
theorem aw_lsub (X : Cx p s m args meth c cc nL own Ts D dA B zE) {x y : Int64} (hd : decode cc pc = .ok (.lsub, 1)) (k : AW p l e R s m args below meth c Q D dA B zE nL ad0 M0 M cells slots (pc + 1) lv (vL (x - y) :: st)) : AW p l e R s m args below meth c Q D dA B zE nL ad0 M0 M cells slots pc lv (vL y :: vL x :: st) :=
  fun ad H locs ls h1 h2 h3 h4 h5 h6 h7 => lv_lsub X.1 X.2.1 hd (k ad H locs ls h1 h2 h3 h4 h5 h6 h7.tl.tl.nl)
theorem aw_lmul (X : Cx p s m args meth c cc nL own Ts D dA B zE) {x y : Int64} (hd : decode cc pc = .ok (.lmul, 1)) (k : AW p l e R s m args below meth c Q D dA B zE nL ad0 M0 M cells slots (pc + 1) lv (vL (x * y) :: st)) : AW p l e R s m args below meth c Q D dA B zE nL ad0 M0 M cells slots pc lv (vL y :: vL x :: st) :=
  fun ad H locs ls h1 h2 h3 h4 h5 h6 h7 => lv_lmul X.1 X.2.1 hd (k ad H locs ls h1 h2 h3 h4 h5 h6 h7.tl.tl.nl)
theorem aw_land (X : Cx p s m args meth c cc nL own Ts D dA B zE) {x y : Int64} (hd : decode cc pc = .ok (.land, 1)) (k : AW p l e R s m args below meth c Q D dA B zE nL ad0 M0 M cells slots (pc + 1) lv (vL (x &&& y) :: st)) : AW p l e R s m args below meth c Q D dA B zE nL ad0 M0 M cells slots pc lv (vL y :: vL x :: st) :=
  fun ad H locs ls h1 h2 h3 h4 h5 h6 h7 => lv_land X.1 X.2.1 hd (k ad H locs ls h1 h2 h3 h4 h5 h6 h7.tl.tl.nl)
theorem aw_lor (X : Cx p s m args meth c cc nL own Ts D dA B zE) {x y : Int64} (hd : decode cc pc = .ok (.lor, 1)) (k : AW p l e R s m args below meth c Q D dA B zE nL ad0 M0 M cells slots (pc + 1) lv (vL (x ||| y) :: st)) : AW p l e R s m args below meth c Q D dA B zE nL ad0 M0 M cells slots pc lv (vL y :: vL x :: st) :=
  fun ad H locs ls h1 h2 h3 h4 h5 h6 h7 => lv_lor X.1 X.2.1 hd (k ad H locs ls h1 h2 h3 h4 h5 h6 h7.tl.tl.nl)
theorem aw_lxor (X : Cx p s m args meth c cc nL own Ts D dA B zE) {x y : Int64} (hd : decode cc pc = .ok (.lxor, 1)) (k : AW p l e R s m args below meth c Q D dA B zE nL ad0 M0 M cells slots (pc + 1) lv (vL (x ^^^ y) :: st)) : AW p l e R s m args below meth c Q D dA B zE nL ad0 M0 M cells slots pc lv (vL y :: vL x :: st) :=
  fun ad H locs ls h1 h2 h3 h4 h5 h6 h7 => lv_lxor X.1 X.2.1 hd (k ad H locs ls h1 h2 h3 h4 h5 h6 h7.tl.tl.nl)
theorem aw_irem (X : Cx p s m args meth c cc nL own Ts D dA B zE) {x y : Int32} (hne : ¬ y = 0) (hd : decode cc pc = .ok (.irem, 1)) (k : AW p l e R s m args below meth c Q D dA B zE nL ad0 M0 M cells slots (pc + 1) lv (vI (x - x / y * y) :: st)) : AW p l e R s m args below meth c Q D dA B zE nL ad0 M0 M cells slots pc lv (vI y :: vI x :: st) :=
  fun ad H locs ls h1 h2 h3 h4 h5 h6 h7 => lv_irem X.1 X.2.1 hd hne (k ad H locs ls h1 h2 h3 h4 h5 h6 h7.tl.tl.ni)
theorem aw_idiv (X : Cx p s m args meth c cc nL own Ts D dA B zE) {x y : Int32} (hne : ¬ y = 0) (hd : decode cc pc = .ok (.idiv, 1)) (k : AW p l e R s m args below meth c Q D dA B zE nL ad0 M0 M cells slots (pc + 1) lv (vI (x / y) :: st)) : AW p l e R s m args below meth c Q D dA B zE nL ad0 M0 M cells slots pc lv (vI y :: vI x :: st) :=
  fun ad H locs ls h1 h2 h3 h4 h5 h6 h7 => lv_idiv X.1 X.2.1 hd hne (k ad H locs ls h1 h2 h3 h4 h5 h6 h7.tl.tl.ni)
theorem aw_ineg (X : Cx p s m args meth c cc nL own Ts D dA B zE) {x : Int32} (hd : decode cc pc = .ok (.ineg, 1)) (k : AW p l e R s m args below meth c Q D dA B zE nL ad0 M0 M cells slots (pc + 1) lv (vI (-x) :: st)) : AW p l e R s m args below meth c Q D dA B zE nL ad0 M0 M cells slots pc lv (vI x :: st) :=
  fun ad H locs ls h1 h2 h3 h4 h5 h6 h7 => lv_ineg X.1 X.2.1 hd (k ad H locs ls h1 h2 h3 h4 h5 h6 h7.tl.ni)
theorem aw_iushr (X : Cx p s m args meth c cc nL own Ts D dA B zE) {x y : Int32} (hd : decode cc pc = .ok (.iushr, 1)) (k : AW p l e R s m args below meth c Q D dA B zE nL ad0 M0 M cells slots (pc + 1) lv (vI (x.toUInt32 >>> (y.toUInt32 &&& Int32.toUInt32 31)).toInt32 :: st)) : AW p l e R s m args below meth c Q D dA B zE nL ad0 M0 M cells slots pc lv (vI y :: vI x :: st) :=
  fun ad H locs ls h1 h2 h3 h4 h5 h6 h7 => lv_iushr X.1 X.2.1 hd rfl (k ad H locs ls h1 h2 h3 h4 h5 h6 h7.tl.tl.ni)
theorem aw_i2l (X : Cx p s m args meth c cc nL own Ts D dA B zE) {x : Int32} (hd : decode cc pc = .ok (.i2l, 1)) (k : AW p l e R s m args below meth c Q D dA B zE nL ad0 M0 M cells slots (pc + 1) lv (vL x.toInt64 :: st)) : AW p l e R s m args below meth c Q D dA B zE nL ad0 M0 M cells slots pc lv (vI x :: st) :=
  fun ad H locs ls h1 h2 h3 h4 h5 h6 h7 => lv_i2l X.1 X.2.1 hd rfl (k ad H locs ls h1 h2 h3 h4 h5 h6 h7.tl.nl)
theorem aw_l2i (X : Cx p s m args meth c cc nL own Ts D dA B zE) {x : Int64} (hd : decode cc pc = .ok (.l2i, 1)) (k : AW p l e R s m args below meth c Q D dA B zE nL ad0 M0 M cells slots (pc + 1) lv (vI x.toInt32 :: st)) : AW p l e R s m args below meth c Q D dA B zE nL ad0 M0 M cells slots pc lv (vL x :: st) :=
  fun ad H locs ls h1 h2 h3 h4 h5 h6 h7 => lv_l2i X.1 X.2.1 hd rfl (k ad H locs ls h1 h2 h3 h4 h5 h6 h7.tl.ni)
theorem aw_i2b (X : Cx p s m args meth c cc nL own Ts D dA B zE) {x : Int32} (hd : decode cc pc = .ok (.i2b, 1)) (k : AW p l e R s m args below meth c Q D dA B zE nL ad0 M0 M cells slots (pc + 1) lv (vI x.toInt8.toInt32 :: st)) : AW p l e R s m args below meth c Q D dA B zE nL ad0 M0 M cells slots pc lv (vI x :: st) :=
  fun ad H locs ls h1 h2 h3 h4 h5 h6 h7 => lv_i2b X.1 X.2.1 hd rfl (k ad H locs ls h1 h2 h3 h4 h5 h6 h7.tl.ni)
theorem aw_lcmp (X : Cx p s m args meth c cc nL own Ts D dA B zE) {x y : Int64} (hd : decode cc pc = .ok (.lcmp, 1)) (k : AW p l e R s m args below meth c Q D dA B zE nL ad0 M0 M cells slots (pc + 1) lv (vI (lg_cmp x y) :: st)) : AW p l e R s m args below meth c Q D dA B zE nL ad0 M0 M cells slots pc lv (vL y :: vL x :: st) :=
  fun ad H locs ls h1 h2 h3 h4 h5 h6 h7 => W.lcmp X.1 X.2.1 hd (k ad H locs ls h1 h2 h3 h4 h5 h6 h7.tl.tl.ni)
theorem aw_dup (X : Cx p s m args meth c cc nL own Ts D dA B zE) {v : AV} (hv : acat v = 1) (hd : decode cc pc = .ok (.dup, 1)) (k : AW p l e R s m args below meth c Q D dA B zE nL ad0 M0 M cells slots (pc + 1) lv (v :: v :: st)) : AW p l e R s m args below meth c Q D dA B zE nL ad0 M0 M cells slots pc lv (v :: st) :=
  fun ad H locs ls h1 h2 h3 h4 h5 h6 h7 => lv_dup X.1 X.2.1 hd ((cv_cat ad v).trans hv) (k ad H locs ls h1 h2 h3 h4 h5 h6 (h7.cn h7.hd))
theorem aw_pop (X : Cx p s m args meth c cc nL own Ts D dA B zE) {v : AV} (hv : acat v = 1) (hd : decode cc pc = .ok (.pop, 1)) (k : AW p l e R s m args below meth c Q D dA B zE nL ad0 M0 M cells slots (pc + 1) lv (st)) : AW p l e R s m args below meth c Q D dA B zE nL ad0 M0 M cells slots pc lv (v :: st) :=
  fun ad H locs ls h1 h2 h3 h4 h5 h6 h7 => lv_pop X.1 X.2.1 hd ((cv_cat ad v).trans hv) (k ad H locs ls h1 h2 h3 h4 h5 h6 h7.tl)
theorem aw_dup_x1 (X : Cx p s m args meth c cc nL own Ts D dA B zE) {v w : AV} (hv : acat v = 1) (hw : acat w = 1) (hd : decode cc pc = .ok (.dup_x1, 1)) (k : AW p l e R s m args below meth c Q D dA B zE nL ad0 M0 M cells slots (pc + 1) lv (v :: w :: v :: st)) : AW p l e R s m args below meth c Q D dA B zE nL ad0 M0 M cells slots pc lv (v :: w :: st) :=
  fun ad H locs ls h1 h2 h3 h4 h5 h6 h7 => lv_dup_x1 X.1 X.2.1 hd ((cv_cat ad v).trans hv) ((cv_cat ad w).trans hw) (k ad H locs ls h1 h2 h3 h4 h5 h6 (((h7.tl.tl.cn h7.hd).cn h7.tl.hd).cn h7.hd))
theorem aw_dup_x2 (X : Cx p s m args meth c cc nL own Ts D dA B zE) {v w u : AV} (hv : acat v = 1) (hw : acat w = 1) (hu : acat u = 1) (hd : decode cc pc = .ok (.dup_x2, 1)) (k : AW p l e R s m args below meth c Q D dA B zE nL ad0 M0 M cells slots (pc + 1) lv (v :: w :: u :: v :: st)) : AW p l e R s m args below meth c Q D dA B zE nL ad0 M0 M cells slots pc lv (v :: w :: u :: st) :=
  fun ad H locs ls h1 h2 h3 h4 h5 h6 h7 => lv_dup_x2 X.1 X.2.1 hd ((cv_cat ad v).trans hv) ((cv_cat ad w).trans hw) ((cv_cat ad u).trans hu) (k ad H locs ls h1 h2 h3 h4 h5 h6 ((((h7.tl.tl.tl.cn h7.hd).cn h7.tl.tl.hd).cn h7.tl.hd).cn h7.hd))
theorem aw_dup2 (X : Cx p s m args meth c cc nL own Ts D dA B zE) {v w : AV} (hv : acat v = 1) (hw : acat w = 1) (hd : decode cc pc = .ok (.dup2, 1)) (k : AW p l e R s m args below meth c Q D dA B zE nL ad0 M0 M cells slots (pc + 1) lv (v :: w :: v :: w :: st)) : AW p l e R s m args below meth c Q D dA B zE nL ad0 M0 M cells slots pc lv (v :: w :: st) :=
  fun ad H locs ls h1 h2 h3 h4 h5 h6 h7 => lv_dup2_11 X.1 X.2.1 hd ((cv_cat ad v).trans hv) ((cv_cat ad w).trans hw) (k ad H locs ls h1 h2 h3 h4 h5 h6 ((h7.cn h7.tl.hd).cn h7.hd))
theorem aw_dup2L (X : Cx p s m args meth c cc nL own Ts D dA B zE) {v : AV} (hv : acat v = 2) (hd : decode cc pc = .ok (.dup2, 1)) (k : AW p l e R s m args below meth c Q D dA B zE nL ad0 M0 M cells slots (pc + 1) lv (v :: v :: st)) : AW p l e R s m args below meth c Q D dA B zE nL ad0 M0 M cells slots pc lv (v :: st) :=
  fun ad H locs ls h1 h2 h3 h4 h5 h6 h7 => lv_dup2_2 X.1 X.2.1 hd ((cv_cat ad v).trans hv) (k ad H locs ls h1 h2 h3 h4 h5 h6 (h7.cn h7.hd))
theorem aw_iload_n (X : Cx p s m args meth c cc nL own Ts D dA B zE) {n : Fin 4} {i : Nat} {x : Int32} (j : Nat) (hj : lv[j]? = some (i, vI x)) (hd : decode cc pc = .ok (.iload_n n, 1)) (hi : (n : Nat) = i) (k : AW p l e R s m args below meth c Q D dA B zE nL ad0 M0 M cells slots (pc + 1) lv (vI x :: st)) : AW p l e R s m args below meth c Q D dA B zE nL ad0 M0 M cells slots pc lv st :=
  fun ad H locs ls h1 h2 h3 h4 h5 h6 h7 => lv_iload_n X.1 X.2.1 hd hi (lv_at h5 j (cvL_at hj)) (k ad H locs ls h1 h2 h3 h4 h5 h6 h7.ni)
theorem aw_iload (X : Cx p s m args meth c cc nL own Ts D dA B zE) {i : Nat} {x : Int32} (j : Nat) (hj : lv[j]? = some (i, vI x)) (hd : decode cc pc = .ok (.iload i, 2)) (k : AW p l e R s m args below meth c Q D dA B zE nL ad0 M0 M cells slots (pc + 2) lv (vI x :: st)) : AW p l e R s m args below meth c Q D dA B zE nL ad0 M0 M cells slots pc lv st :=
  fun ad H locs ls h1 h2 h3 h4 h5 h6 h7 => lv_iload X.1 X.2.1 hd (lv_at h5 j (cvL_at hj)) (k ad H locs ls h1 h2 h3 h4 h5 h6 h7.ni)
theorem aw_lload_n (X : Cx p s m args meth c cc nL own Ts D dA B zE) {n : Fin 4} {i : Nat} {x : Int64} (j : Nat) (hj : lv[j]? = some (i, vL x)) (hd : decode cc pc = .ok (.lload_n n, 1)) (hi : (n : Nat) = i) (k : AW p l e R s m args below meth c Q D dA B zE nL ad0 M0 M cells slots (pc + 1) lv (vL x :: st)) : AW p l e R s m args below meth c Q D dA B zE nL ad0 M0 M cells slots pc lv st :=
  fun ad H locs ls h1 h2 h3 h4 h5 h6 h7 => lv_lload_n X.1 X.2.1 hd hi (lv_at h5 j (cvL_at hj)) (k ad H locs ls h1 h2 h3 h4 h5 h6 h7.nl)
theorem aw_lload (X : Cx p s m args meth c cc nL own Ts D dA B zE) {i : Nat} {x : Int64} (j : Nat) (hj : lv[j]? = some (i, vL x)) (hd : decode cc pc = .ok (.lload i, 2)) (k : AW p l e R s m args below meth c Q D dA B zE nL ad0 M0 M cells slots (pc + 2) lv (vL x :: st)) : AW p l e R s m args below meth c Q D dA B zE nL ad0 M0 M cells slots pc lv st :=
  fun ad H locs ls h1 h2 h3 h4 h5 h6 h7 => lv_lload X.1 X.2.1 hd (lv_at h5 j (cvL_at hj)) (k ad H locs ls h1 h2 h3 h4 h5 h6 h7.nl)
theorem aw_aload_n (X : Cx p s m args meth c cc nL own Ts D dA B zE) {n : Fin 4} {i : Nat} {x : Option Ro} (j : Nat) (hj : lv[j]? = some (i, vR x)) (hd : decode cc pc = .ok (.aload_n n, 1)) (hi : (n : Nat) = i) (k : AW p l e R s m args below meth c Q D dA B zE nL ad0 M0 M cells slots (pc + 1) lv (vR x :: st)) : AW p l e R s m args below meth c Q D dA B zE nL ad0 M0 M cells slots pc lv st := by
  intro ad H locs ls h1 h2 h3 h4 h5 h6 h7
  have hq := lv_at h5 j (cvL_at hj)
  have hk := k ad H locs ls h1 h2 h3 h4 h5 h6 (h7.cn (h6 _ (List.mem_of_getElem? hj)))
  cases x with
  | none => exact lv_aload_nN X.1 X.2.1 hd hi hq hk
  | some r => exact lv_aload_n X.1 X.2.1 hd hi hq hk
theorem aw_aload (X : Cx p s m args meth c cc nL own Ts D dA B zE) {i : Nat} {x : Option Ro} (j : Nat) (hj : lv[j]? = some (i, vR x)) (hd : decode cc pc = .ok (.aload i, 2)) (k : AW p l e R s m args below meth c Q D dA B zE nL ad0 M0 M cells slots (pc + 2) lv (vR x :: st)) : AW p l e R s m args below meth c Q D dA B zE nL ad0 M0 M cells slots pc lv st := by
  intro ad H locs ls h1 h2 h3 h4 h5 h6 h7
  have hq := lv_at h5 j (cvL_at hj)
  have hk := k ad H locs ls h1 h2 h3 h4 h5 h6 (h7.cn (h6 _ (List.mem_of_getElem? hj)))
  cases x with
  | none => exact lv_aloadN X.1 X.2.1 hd hq hk
  | some r => exact lv_aload X.1 X.2.1 hd hq hk
theorem aw_istore_n (X : Cx p s m args meth c cc nL own Ts D dA B zE) {n : Fin 4} {i : Nat} {x : Int32} (hd : decode cc pc = .ok (.istore_n n, 1)) (hi : (n : Nat) = i) (hn : i < nL) (hl : (i, vI x) :: lv.filter (fun q => !(q.1 == i) && !(q.1 + 1 == i && acat q.2 == 2)) = lvn) (k : AW p l e R s m args below meth c Q D dA B zE nL ad0 M0 M cells slots (pc + 1) lvn st) : AW p l e R s m args below meth c Q D dA B zE nL ad0 M0 M cells slots pc lv (vI x :: st) :=
  fun ad H locs ls h1 h2 h3 h4 h5 h6 h7 => lv_istore_n X.1 X.2.1 hd hi h5 hn (by rw [cvL_f1, ← hl]; rfl) (fun ls1 hl1 => k ad H locs ls1 h1 h2 h3 h4 hl1 (lvL_st h6 h7.hd hl) h7.tl)
theorem aw_istore (X : Cx p s m args meth c cc nL own Ts D dA B zE) {i : Nat} {x : Int32} (hd : decode cc pc = .ok (.istore i, 2)) (hn : i < nL) (hl : (i, vI x) :: lv.filter (fun q => !(q.1 == i) && !(q.1 + 1 == i && acat q.2 == 2)) = lvn) (k : AW p l e R s m args below meth c Q D dA B zE nL ad0 M0 M cells slots (pc + 2) lvn st) : AW p l e R s m args below meth c Q D dA B zE nL ad0 M0 M cells slots pc lv (vI x :: st) :=
  fun ad H locs ls h1 h2 h3 h4 h5 h6 h7 => lv_istore X.1 X.2.1 hd h5 hn (by rw [cvL_f1, ← hl]; rfl) (fun ls1 hl1 => k ad H locs ls1 h1 h2 h3 h4 hl1 (lvL_st h6 h7.hd hl) h7.tl)
theorem aw_lstore_n (X : Cx p s m args meth c cc nL own Ts D dA B zE) {n : Fin 4} {i : Nat} {x : Int64} (hd : decode cc pc = .ok (.lstore_n n, 1)) (hi : (n : Nat) = i) (hn : i + 1 < nL) (hl : (i, vL x) :: lv.filter (fun q => !(q.1 == i) && (!(q.1 == i + 1) && !(q.1 + 1 == i && acat q.2 == 2))) = lvn) (k : AW p l e R s m args below meth c Q D dA B zE nL ad0 M0 M cells slots (pc + 1) lvn st) : AW p l e R s m args below meth c Q D dA B zE nL ad0 M0 M cells slots pc lv (vL x :: st) :=
  fun ad H locs ls h1 h2 h3 h4 h5 h6 h7 => lv_lstore_n X.1 X.2.1 hd hi h5 hn (by rw [cvL_f2, ← hl]; rfl) (fun ls1 hl1 => k ad H locs ls1 h1 h2 h3 h4 hl1 (lvL_st h6 h7.hd hl) h7.tl)
theorem aw_lstore (X : Cx p s m args meth c cc nL own Ts D dA B zE) {i : Nat} {x : Int64} (hd : decode cc pc = .ok (.lstore i, 2)) (hn : i + 1 < nL) (hl : (i, vL x) :: lv.filter (fun q => !(q.1 == i) && (!(q.1 == i + 1) && !(q.1 + 1 == i && acat q.2 == 2))) = lvn) (k : AW p l e R s m args below meth c Q D dA B zE nL ad0 M0 M cells slots (pc + 2) lvn st) : AW p l e R s m args below meth c Q D dA B zE nL ad0 M0 M cells slots pc lv (vL x :: st) :=
  fun ad H locs ls h1 h2 h3 h4 h5 h6 h7 => lv_lstore X.1 X.2.1 hd h5 hn (by rw [cvL_f2, ← hl]; rfl) (fun ls1 hl1 => k ad H locs ls1 h1 h2 h3 h4 hl1 (lvL_st h6 h7.hd hl) h7.tl)
theorem aw_astore_n (X : Cx p s m args meth c cc nL own Ts D dA B zE) {n : Fin 4} {i : Nat} {x : Option Ro} (hd : decode cc pc = .ok (.astore_n n, 1)) (hi : (n : Nat) = i) (hn : i < nL) (hl : (i, vR x) :: lv.filter (fun q => !(q.1 == i) && !(q.1 + 1 == i && acat q.2 == 2)) = lvn) (k : AW p l e R s m args below meth c Q D dA B zE nL ad0 M0 M cells slots (pc + 1) lvn st) : AW p l e R s m args below meth c Q D dA B zE nL ad0 M0 M cells slots pc lv (vR x :: st) := by
  intro ad H locs ls h1 h2 h3 h4 h5 h6 h7
  have hk := fun ls1 hl1 => k ad H locs ls1 h1 h2 h3 h4 hl1 (lvL_st h6 h7.hd hl) h7.tl
  cases x with
  | none => exact lv_astore_nN X.1 X.2.1 hd hi h5 hn (by rw [cvL_f1, ← hl]; rfl) hk
  | some r => exact lv_astore_n X.1 X.2.1 hd hi h5 hn (by rw [cvL_f1, ← hl]; rfl) hk
theorem aw_astore (X : Cx p s m args meth c cc nL own Ts D dA B zE) {i : Nat} {x : Option Ro} (hd : decode cc pc = .ok (.astore i, 2)) (hn : i < nL) (hl : (i, vR x) :: lv.filter (fun q => !(q.1 == i) && !(q.1 + 1 == i && acat q.2 == 2)) = lvn) (k : AW p l e R s m args below meth c Q D dA B zE nL ad0 M0 M cells slots (pc + 2) lvn st) : AW p l e R s m args below meth c Q D dA B zE nL ad0 M0 M cells slots pc lv (vR x :: st) := by
  intro ad H locs ls h1 h2 h3 h4 h5 h6 h7
  have hk := fun ls1 hl1 => k ad H locs ls1 h1 h2 h3 h4 hl1 (lvL_st h6 h7.hd hl) h7.tl
  cases x with
  | none => exact lv_astoreN X.1 X.2.1 hd h5 hn (by rw [cvL_f1, ← hl]; rfl) hk
  | some r => exact lv_astore X.1 X.2.1 hd h5 hn (by rw [cvL_f1, ← hl]; rfl) hk
theorem aw_iinc (X : Cx p s m args meth c cc nL own Ts D dA B zE) {i : Nat} {n : Int} {x y : Int32} (j : Nat) (hj : lv[j]? = some (i, vI x)) (hd : decode cc pc = .ok (.iinc i n, 3)) (hv : x + Int32.ofInt n = y) (hn : i < nL) (hl : (i, vI y) :: lv.filter (fun q => !(q.1 == i) && !(q.1 + 1 == i && acat q.2 == 2)) = lvn) (k : AW p l e R s m args below meth c Q D dA B zE nL ad0 M0 M cells slots (pc + 3) lvn st) : AW p l e R s m args below meth c Q D dA B zE nL ad0 M0 M cells slots pc lv st :=
  fun ad H locs ls h1 h2 h3 h4 h5 h6 h7 => lv_iinc X.1 X.2.1 hd h5 (cvL_at hj) hv hn (by rw [cvL_f1, ← hl]; rfl) (fun ls1 hl1 => k ad H locs ls1 h1 h2 h3 h4 hl1 (lvL_st h6 lv1_I hl) h7)
theorem lvL_pick {M : wM} {lv lvn : List (Nat × AV)} (ks : List Nat) (h : lvL M lv) (hl : ks.filterMap (fun k => lv[k]?) = lvn) : lvL M lvn := by
  subst hl
  intro q hq
  obtain ⟨k, -, hk⟩ := List.mem_filterMap.mp hq
  exact h q (List.mem_of_getElem? hk)
theorem aw_lv (ks : List Nat) (hl : ks.filterMap (fun k => lv[k]?) = lvn) (k : AW p l e R s m args below meth c Q D dA B zE nL ad0 M0 M cells slots pc lvn st) : AW p l e R s m args below meth c Q D dA B zE nL ad0 M0 M cells slots pc lv st :=
  fun ad H locs ls h1 h2 h3 h4 h5 h6 h7 => k ad H locs ls h1 h2 h3 h4 (lv_sub h5 ks (by
    rw [← hl]
    unfold lv_pick cvL
    rw [List.map_filterMap]
    congr 1
    funext k
    rw [List.getElem?_map])) (lvL_pick ks h6 hl) h7
theorem aw_widen {ce sl : Nat} (hc : cells ≤ ce) (hs : slots ≤ sl) (k : AW p l e R s m args below meth c Q D dA B zE nL ad0 M0 M ce sl pc lv st) : AW p l e R s m args below meth c Q D dA B zE nL ad0 M0 M cells slots pc lv st :=
  fun ad H locs ls h1 h2 h3 h4 h5 h6 h7 => W.widen hc hs (k ad H locs ls h1 h2 h3 h4 h5 h6 h7)
theorem aw_M {M' : wM} (h : M = M') (k : AW p l e R s m args below meth c Q D dA B zE nL ad0 M0 M' cells slots pc lv st) : AW p l e R s m args below meth c Q D dA B zE nL ad0 M0 M cells slots pc lv st := h ▸ k
theorem aw_icmp_eq (X : Cx p s m args meth c cc nL own Ts D dA B zE) {x y : Int32} {off : Int} {tgt : Nat} (hd : decode cc pc = .ok (.if_icmp .eq off, 3)) (ht : (pc : Int) + off = (tgt : Int)) (kt : x = y → AW p l e R s m args below meth c Q D dA B zE nL ad0 M0 M cells slots tgt lv st) (kf : ¬ x = y → AW p l e R s m args below meth c Q D dA B zE nL ad0 M0 M cells slots (pc + 3) lv st) : AW p l e R s m args below meth c Q D dA B zE nL ad0 M0 M cells slots pc lv (vI y :: vI x :: st) :=
  fun ad H locs ls h1 h2 h3 h4 h5 h6 h7 => lv_icmp_eq X.1 X.2.1 hd ht (fun q => kt q ad H locs ls h1 h2 h3 h4 h5 h6 h7.tl.tl) (fun q => kf q ad H locs ls h1 h2 h3 h4 h5 h6 h7.tl.tl)
theorem aw_icmp_ne (X : Cx p s m args meth c cc nL own Ts D dA B zE) {x y : Int32} {off : Int} {tgt : Nat} (hd : decode cc pc = .ok (.if_icmp .ne off, 3)) (ht : (pc : Int) + off = (tgt : Int)) (kt : ¬ x = y → AW p l e R s m args below meth c Q D dA B zE nL ad0 M0 M cells slots tgt lv st) (kf : x = y → AW p l e R s m args below meth c Q D dA B zE nL ad0 M0 M cells slots (pc + 3) lv st) : AW p l e R s m args below meth c Q D dA B zE nL ad0 M0 M cells slots pc lv (vI y :: vI x :: st) :=
  fun ad H locs ls h1 h2 h3 h4 h5 h6 h7 => lv_icmp_ne X.1 X.2.1 hd ht (fun q => kt q ad H locs ls h1 h2 h3 h4 h5 h6 h7.tl.tl) (fun q => kf q ad H locs ls h1 h2 h3 h4 h5 h6 h7.tl.tl)
theorem aw_icmp_lt (X : Cx p s m args meth c cc nL own Ts D dA B zE) {x y : Int32} {off : Int} {tgt : Nat} (hd : decode cc pc = .ok (.if_icmp .lt off, 3)) (ht : (pc : Int) + off = (tgt : Int)) (kt : x < y → AW p l e R s m args below meth c Q D dA B zE nL ad0 M0 M cells slots tgt lv st) (kf : ¬ x < y → AW p l e R s m args below meth c Q D dA B zE nL ad0 M0 M cells slots (pc + 3) lv st) : AW p l e R s m args below meth c Q D dA B zE nL ad0 M0 M cells slots pc lv (vI y :: vI x :: st) :=
  fun ad H locs ls h1 h2 h3 h4 h5 h6 h7 => lv_icmp_lt X.1 X.2.1 hd ht (fun q => kt q ad H locs ls h1 h2 h3 h4 h5 h6 h7.tl.tl) (fun q => kf q ad H locs ls h1 h2 h3 h4 h5 h6 h7.tl.tl)
theorem aw_icmp_ge (X : Cx p s m args meth c cc nL own Ts D dA B zE) {x y : Int32} {off : Int} {tgt : Nat} (hd : decode cc pc = .ok (.if_icmp .ge off, 3)) (ht : (pc : Int) + off = (tgt : Int)) (kt : y ≤ x → AW p l e R s m args below meth c Q D dA B zE nL ad0 M0 M cells slots tgt lv st) (kf : ¬ y ≤ x → AW p l e R s m args below meth c Q D dA B zE nL ad0 M0 M cells slots (pc + 3) lv st) : AW p l e R s m args below meth c Q D dA B zE nL ad0 M0 M cells slots pc lv (vI y :: vI x :: st) :=
  fun ad H locs ls h1 h2 h3 h4 h5 h6 h7 => lv_icmp_ge X.1 X.2.1 hd ht (fun q => kt q ad H locs ls h1 h2 h3 h4 h5 h6 h7.tl.tl) (fun q => kf q ad H locs ls h1 h2 h3 h4 h5 h6 h7.tl.tl)
theorem aw_icmp_gt (X : Cx p s m args meth c cc nL own Ts D dA B zE) {x y : Int32} {off : Int} {tgt : Nat} (hd : decode cc pc = .ok (.if_icmp .gt off, 3)) (ht : (pc : Int) + off = (tgt : Int)) (kt : y < x → AW p l e R s m args below meth c Q D dA B zE nL ad0 M0 M cells slots tgt lv st) (kf : ¬ y < x → AW p l e R s m args below meth c Q D dA B zE nL ad0 M0 M cells slots (pc + 3) lv st) : AW p l e R s m args below meth c Q D dA B zE nL ad0 M0 M cells slots pc lv (vI y :: vI x :: st) :=
  fun ad H locs ls h1 h2 h3 h4 h5 h6 h7 => lv_icmp_gt X.1 X.2.1 hd ht (fun q => kt q ad H locs ls h1 h2 h3 h4 h5 h6 h7.tl.tl) (fun q => kf q ad H locs ls h1 h2 h3 h4 h5 h6 h7.tl.tl)
theorem aw_icmp_le (X : Cx p s m args meth c cc nL own Ts D dA B zE) {x y : Int32} {off : Int} {tgt : Nat} (hd : decode cc pc = .ok (.if_icmp .le off, 3)) (ht : (pc : Int) + off = (tgt : Int)) (kt : x ≤ y → AW p l e R s m args below meth c Q D dA B zE nL ad0 M0 M cells slots tgt lv st) (kf : ¬ x ≤ y → AW p l e R s m args below meth c Q D dA B zE nL ad0 M0 M cells slots (pc + 3) lv st) : AW p l e R s m args below meth c Q D dA B zE nL ad0 M0 M cells slots pc lv (vI y :: vI x :: st) :=
  fun ad H locs ls h1 h2 h3 h4 h5 h6 h7 => lv_icmp_le X.1 X.2.1 hd ht (fun q => kt q ad H locs ls h1 h2 h3 h4 h5 h6 h7.tl.tl) (fun q => kf q ad H locs ls h1 h2 h3 h4 h5 h6 h7.tl.tl)
theorem aw_if_eq (X : Cx p s m args meth c cc nL own Ts D dA B zE) {x : Int32} {off : Int} {tgt : Nat} (hd : decode cc pc = .ok (.ifCond .eq off, 3)) (ht : (pc : Int) + off = (tgt : Int)) (kt : x = 0 → AW p l e R s m args below meth c Q D dA B zE nL ad0 M0 M cells slots tgt lv st) (kf : ¬ x = 0 → AW p l e R s m args below meth c Q D dA B zE nL ad0 M0 M cells slots (pc + 3) lv st) : AW p l e R s m args below meth c Q D dA B zE nL ad0 M0 M cells slots pc lv (vI x :: st) :=
  fun ad H locs ls h1 h2 h3 h4 h5 h6 h7 => lv_if_eq X.1 X.2.1 hd ht (fun q => kt q ad H locs ls h1 h2 h3 h4 h5 h6 h7.tl) (fun q => kf q ad H locs ls h1 h2 h3 h4 h5 h6 h7.tl)
theorem aw_if_ne (X : Cx p s m args meth c cc nL own Ts D dA B zE) {x : Int32} {off : Int} {tgt : Nat} (hd : decode cc pc = .ok (.ifCond .ne off, 3)) (ht : (pc : Int) + off = (tgt : Int)) (kt : ¬ x = 0 → AW p l e R s m args below meth c Q D dA B zE nL ad0 M0 M cells slots tgt lv st) (kf : x = 0 → AW p l e R s m args below meth c Q D dA B zE nL ad0 M0 M cells slots (pc + 3) lv st) : AW p l e R s m args below meth c Q D dA B zE nL ad0 M0 M cells slots pc lv (vI x :: st) :=
  fun ad H locs ls h1 h2 h3 h4 h5 h6 h7 => lv_if_ne X.1 X.2.1 hd ht (fun q => kt q ad H locs ls h1 h2 h3 h4 h5 h6 h7.tl) (fun q => kf q ad H locs ls h1 h2 h3 h4 h5 h6 h7.tl)
theorem aw_if_lt (X : Cx p s m args meth c cc nL own Ts D dA B zE) {x : Int32} {off : Int} {tgt : Nat} (hd : decode cc pc = .ok (.ifCond .lt off, 3)) (ht : (pc : Int) + off = (tgt : Int)) (kt : x < 0 → AW p l e R s m args below meth c Q D dA B zE nL ad0 M0 M cells slots tgt lv st) (kf : ¬ x < 0 → AW p l e R s m args below meth c Q D dA B zE nL ad0 M0 M cells slots (pc + 3) lv st) : AW p l e R s m args below meth c Q D dA B zE nL ad0 M0 M cells slots pc lv (vI x :: st) :=
  fun ad H locs ls h1 h2 h3 h4 h5 h6 h7 => lv_if_lt X.1 X.2.1 hd ht (fun q => kt q ad H locs ls h1 h2 h3 h4 h5 h6 h7.tl) (fun q => kf q ad H locs ls h1 h2 h3 h4 h5 h6 h7.tl)
theorem aw_if_ge (X : Cx p s m args meth c cc nL own Ts D dA B zE) {x : Int32} {off : Int} {tgt : Nat} (hd : decode cc pc = .ok (.ifCond .ge off, 3)) (ht : (pc : Int) + off = (tgt : Int)) (kt : 0 ≤ x → AW p l e R s m args below meth c Q D dA B zE nL ad0 M0 M cells slots tgt lv st) (kf : ¬ 0 ≤ x → AW p l e R s m args below meth c Q D dA B zE nL ad0 M0 M cells slots (pc + 3) lv st) : AW p l e R s m args below meth c Q D dA B zE nL ad0 M0 M cells slots pc lv (vI x :: st) :=
  fun ad H locs ls h1 h2 h3 h4 h5 h6 h7 => lv_if_ge X.1 X.2.1 hd ht (fun q => kt q ad H locs ls h1 h2 h3 h4 h5 h6 h7.tl) (fun q => kf q ad H locs ls h1 h2 h3 h4 h5 h6 h7.tl)
theorem aw_if_gt (X : Cx p s m args meth c cc nL own Ts D dA B zE) {x : Int32} {off : Int} {tgt : Nat} (hd : decode cc pc = .ok (.ifCond .gt off, 3)) (ht : (pc : Int) + off = (tgt : Int)) (kt : 0 < x → AW p l e R s m args below meth c Q D dA B zE nL ad0 M0 M cells slots tgt lv st) (kf : ¬ 0 < x → AW p l e R s m args below meth c Q D dA B zE nL ad0 M0 M cells slots (pc + 3) lv st) : AW p l e R s m args below meth c Q D dA B zE nL ad0 M0 M cells slots pc lv (vI x :: st) :=
  fun ad H locs ls h1 h2 h3 h4 h5 h6 h7 => lv_if_gt X.1 X.2.1 hd ht (fun q => kt q ad H locs ls h1 h2 h3 h4 h5 h6 h7.tl) (fun q => kf q ad H locs ls h1 h2 h3 h4 h5 h6 h7.tl)
theorem aw_if_le (X : Cx p s m args meth c cc nL own Ts D dA B zE) {x : Int32} {off : Int} {tgt : Nat} (hd : decode cc pc = .ok (.ifCond .le off, 3)) (ht : (pc : Int) + off = (tgt : Int)) (kt : x ≤ 0 → AW p l e R s m args below meth c Q D dA B zE nL ad0 M0 M cells slots tgt lv st) (kf : ¬ x ≤ 0 → AW p l e R s m args below meth c Q D dA B zE nL ad0 M0 M cells slots (pc + 3) lv st) : AW p l e R s m args below meth c Q D dA B zE nL ad0 M0 M cells slots pc lv (vI x :: st) :=
  fun ad H locs ls h1 h2 h3 h4 h5 h6 h7 => lv_if_le X.1 X.2.1 hd ht (fun q => kt q ad H locs ls h1 h2 h3 h4 h5 h6 h7.tl) (fun q => kf q ad H locs ls h1 h2 h3 h4 h5 h6 h7.tl)
theorem aw_goto (X : Cx p s m args meth c cc nL own Ts D dA B zE) {off : Int} {tgt : Nat} (hd : decode cc pc = .ok (.goto off, 3)) (ht : (pc : Int) + off = (tgt : Int)) (k : AW p l e R s m args below meth c Q D dA B zE nL ad0 M0 M cells slots tgt lv st) : AW p l e R s m args below meth c Q D dA B zE nL ad0 M0 M cells slots pc lv st :=
  fun ad H locs ls h1 h2 h3 h4 h5 h6 h7 => lv_goto X.1 X.2.1 hd ht (k ad H locs ls h1 h2 h3 h4 h5 h6 h7)
theorem aw_ifnull (X : Cx p s m args meth c cc nL own Ts D dA B zE) {x : Option Ro} {off : Int} {tgt : Nat} (hd : decode cc pc = .ok (.ifnull off, 3)) (ht : (pc : Int) + off = (tgt : Int)) (kt : x = none → AW p l e R s m args below meth c Q D dA B zE nL ad0 M0 M cells slots tgt lv st) (kf : ¬ x = none → AW p l e R s m args below meth c Q D dA B zE nL ad0 M0 M cells slots (pc + 3) lv st) : AW p l e R s m args below meth c Q D dA B zE nL ad0 M0 M cells slots pc lv (vR x :: st) := by
  intro ad H locs ls h1 h2 h3 h4 h5 h6 h7
  cases x with
  | none => exact lv_ifnullN X.1 X.2.1 hd ht (kt rfl ad H locs ls h1 h2 h3 h4 h5 h6 h7.tl)
  | some r => exact lv_ifnull X.1 X.2.1 hd (kf (fun q => nomatch q) ad H locs ls h1 h2 h3 h4 h5 h6 h7.tl)
theorem aw_ifnonnull (X : Cx p s m args meth c cc nL own Ts D dA B zE) {x : Option Ro} {off : Int} {tgt : Nat} (hd : decode cc pc = .ok (.ifnonnull off, 3)) (ht : (pc : Int) + off = (tgt : Int)) (kt : ¬ x = none → AW p l e R s m args below meth c Q D dA B zE nL ad0 M0 M cells slots tgt lv st) (kf : x = none → AW p l e R s m args below meth c Q D dA B zE nL ad0 M0 M cells slots (pc + 3) lv st) : AW p l e R s m args below meth c Q D dA B zE nL ad0 M0 M cells slots pc lv (vR x :: st) := by
  intro ad H locs ls h1 h2 h3 h4 h5 h6 h7
  cases x with
  | none => exact lv_ifnonnullN X.1 X.2.1 hd (kf rfl ad H locs ls h1 h2 h3 h4 h5 h6 h7.tl)
  | some r => exact lv_ifnonnull X.1 X.2.1 hd ht (kt (fun q => nomatch q) ad H locs ls h1 h2 h3 h4 h5 h6 h7.tl)
theorem aw_tableIn (X : Cx p s m args meth c cc nL own Ts D dA B zE) {dflt lo hi : Int} {offs : Array Int} {len : Nat} {x y : Int32} {off : Int} {tgt : Nat} (hd : decode cc pc = .ok (.tableswitch dflt lo hi offs, len)) (hxy : x = y) (hq1 : ¬ y.toInt < lo) (hq2 : ¬ hi < y.toInt) (ho : offs[(y.toInt - lo).toNat]? = some off) (ht : (pc : Int) + off = (tgt : Int)) (k : AW p l e R s m args below meth c Q D dA B zE nL ad0 M0 M cells slots tgt lv st) : AW p l e R s m args below meth c Q D dA B zE nL ad0 M0 M cells slots pc lv (vI x :: st) := by
  subst hxy
  exact fun ad H locs ls h1 h2 h3 h4 h5 h6 h7 => lv_tableIn X.1 X.2.1 hd hq1 hq2 ho ht (k ad H locs ls h1 h2 h3 h4 h5 h6 h7.tl)
theorem aw_tableOut (X : Cx p s m args meth c cc nL own Ts D dA B zE) {dflt lo hi : Int} {offs : Array Int} {len : Nat} {x : Int32} {tgt : Nat} (hd : decode cc pc = .ok (.tableswitch dflt lo hi offs, len)) (h : x.toInt < lo ∨ hi < x.toInt) (ht : (pc : Int) + dflt = (tgt : Int)) (k : AW p l e R s m args below meth c Q D dA B zE nL ad0 M0 M cells slots tgt lv st) : AW p l e R s m args below meth c Q D dA B zE nL ad0 M0 M cells slots pc lv (vI x :: st) :=
  fun ad H locs ls h1 h2 h3 h4 h5 h6 h7 => lv_tableOut X.1 X.2.1 hd h ht (k ad H locs ls h1 h2 h3 h4 h5 h6 h7.tl)
theorem aw_lookup (X : Cx p s m args meth c cc nL own Ts D dA B zE) {dflt : Int} {ps : Array (Int × Int)} {len : Nat} {x : Int32} {off : Int} {tgt : Nat} (hd : decode cc pc = .ok (.lookupswitch dflt ps, len)) (hp : (ps.toList.zip (ps.toList.drop 1)).all (fun (a, next) => a.1 < next.1) = true) (ho : Op.lookupswitch.offset ps.toList dflt x.toInt = off) (ht : (pc : Int) + off = (tgt : Int)) (k : AW p l e R s m args below meth c Q D dA B zE nL ad0 M0 M cells slots tgt lv st) : AW p l e R s m args below meth c Q D dA B zE nL ad0 M0 M cells slots pc lv (vI x :: st) :=
  fun ad H locs ls h1 h2 h3 h4 h5 h6 h7 => lv_lookup X.1 X.2.1 hd hp ho ht (k ad H locs ls h1 h2 h3 h4 h5 h6 h7.tl)
theorem aw_ldc (X : Cx p s m args meth c cc nL own Ts D dA B zE) {index : Nat} {v : Int32} (hc : Cond.constant own index v ∈ Ts) (hd : decode cc pc = .ok (.ldc index, 2)) (k : AW p l e R s m args below meth c Q D dA B zE nL ad0 M0 M cells slots (pc + 2) lv (vI v :: st)) : AW p l e R s m args below meth c Q D dA B zE nL ad0 M0 M cells slots pc lv st :=
  fun ad H locs ls h1 h2 h3 h4 h5 h6 h7 => lv_ldc X.1 X.2.1 X.2.2.2.1 (X.2.2.2.2.1 _ hc) hd (k ad H locs ls h1 h2 h3 h4 h5 h6 h7.ni)
theorem aw_ldc2 (X : Cx p s m args meth c cc nL own Ts D dA B zE) {index : Nat} {v : Int64} (hc : Cond.constantLong own index v ∈ Ts) (hd : decode cc pc = .ok (.ldc2_w index, 3)) (k : AW p l e R s m args below meth c Q D dA B zE nL ad0 M0 M cells slots (pc + 3) lv (vL v :: st)) : AW p l e R s m args below meth c Q D dA B zE nL ad0 M0 M cells slots pc lv st :=
  fun ad H locs ls h1 h2 h3 h4 h5 h6 h7 => lv_ldc2 X.1 X.2.1 X.2.2.2.1 (X.2.2.2.2.1 _ hc) hd (k ad H locs ls h1 h2 h3 h4 h5 h6 h7.nl)

end AWR
end
section
section AW2
variable {p : Program} {l : Launch} {e : Env} {R : Room} {s : State} {m : MethodId} {args : Array Value} {below : List Frame} {meth : Method} {c : Code} {Q : State → Prop} {D : va_G} {dA : Nat → ClassId} {B : Nat} {zE : Nat × Nat} {nL : Nat} {ad0 : Ro → Nat} {M0 M : wM} {cells slots pc : Nat} {lv lvn : List (Nat × AV)} {st : List AV} {cc : ByteArray} {own : String} {Ts : List Cond}

theorem Cx.hK (X : Cx p s m args meth c cc nL own Ts D dA B zE) : va_K D classes (tysA dA) s := X.2.2.2.2.2.1.1
theorem Cx.hts (X : Cx p s m args meth c cc nL own Ts D dA B zE) : ∀ w ∈ Ts, w.before args s = true := X.2.2.2.2.1
theorem Cx.hown (X : Cx p s m args meth c cc nL own Ts D dA B zE) : s.vm.findClass own = some m.cls := X.2.2.2.1
theorem Cx.hG (X : Cx p s m args meth c cc nL own Ts D dA B zE) : gP D dA B zE s := X.2.2.2.2.2.1
theorem Cx.hlk (X : Cx p s m args meth c cc nL own Ts D dA B zE) : meth.locks = false := X.2.2.2.2.2.2
theorem Cx.hA (X : Cx p s m args meth c cc nL own Ts D dA B zE) : ∀ q, s.heap.size ≤ q → wA B q := fun _ h => Nat.le_trans X.hG.2.1 h
theorem WA.ro {ad : Ro → Nat} {H : Heap} {r : Ro} {ci : Nat} {fs : List AV} (h : WA D dA B zE ad M H) (hM : M r = some (ob ci fs)) : r.1 < 90 := (h.2.1.okO hM).2
theorem WA.ra {ad : Ro → Nat} {H : Heap} {r : Ro} {t n : Nat} {f : AC} (h : WA D dA B zE ad M H) (hM : M r = some (.inr (t, n, f))) (hn : 0 < n) : r.1 < 90 := by
  rcases h.2.1 r _ hM with k | k | k
  · exact k.2
  · have := k.2
    cases this
    exact absurd hn (by decide)
  · have := k.2
    cases this
    exact absurd hn (by decide)
theorem vp_in.pos {x : Int32} {n : Nat} (h : vp_in x n) : 0 < n := by
  rcases Nat.eq_zero_or_pos n with g | g
  · exact absurd (Or.inr (by omega)) h
  · exact g
theorem WA.put {ad : Ro → Nat} {H H1 : Heap} {r : Ro} {e1 : AE} (h : WA D dA B zE ad M H) (hr : r.1 < 90) (hok : okE (up M r e1) e1) (hw : wr D classes (wA B) (w2 (cW dA ad M) r.1 r.2 (some (ad r, cvE dA ad e1))) H1) : WA D dA B zE ad (up M r e1) H1 := by
  rw [cW_up hr] at hw
  refine ⟨hw, h.2.1.up hr hok, h.2.2.1, ?_, ?_⟩
  · rw [up_n (fun q => by rw [← q] at hr; exact absurd hr (by decide))]
    exact h.2.2.2.1
  · rw [up_n (fun q => by rw [← q] at hr; exact absurd hr (by decide))]
    exact h.2.2.2.2
theorem WA.new {ad : Ro → Nat} {H H1 : Heap} {r : Ro} {q : Nat} {e1 : AE} (h : WA D dA B zE ad M H) (hn : M r = none) (hr : r.1 < 90) (hok : okE (up M r e1) e1) (hw : wr D classes (wA B) (w2 (cW dA ad M) r.1 r.2 (some (q, cvE dA (adN ad r q) e1))) H1) : WA D dA B zE (adN ad r q) (up M r e1) H1 := by
  rw [cW_new h.2.1 hn hr] at hw
  have hne : ((90, 0) : Ro) ≠ r := fun q => by rw [← q] at hr; exact absurd hr (by decide)
  have hne1 : ((91, 0) : Ro) ≠ r := fun q => by rw [← q] at hr; exact absurd hr (by decide)
  refine ⟨hw, h.2.1.up hr hok, ⟨?_, ?_⟩, ?_, ?_⟩
  · rw [adN_xt (q := q) hn (90, 0) (by rw [h.2.2.2.1]; exact fun z => nomatch z)]
    exact h.2.2.1.1
  · rw [adN_xt (q := q) hn (91, 0) (by rw [h.2.2.2.2]; exact fun z => nomatch z)]
    exact h.2.2.1.2
  · rw [up_n hne]
    exact h.2.2.2.1
  · rw [up_n hne1]
    exact h.2.2.2.2
theorem okE_set {ci k : Nat} {fs : List AV} {v : AV} {r : Ro} (hM : okE M (ob ci fs)) (hv : lv1 M v) : okE (up M r (ob ci (fs.set k v))) (ob ci (fs.set k v)) := fun w hw => by
  rcases List.mem_or_eq_of_mem_set hw with g | g
  · exact (hM w g).sb sb_up1
  · rw [g]
    exact hv.sb sb_up1
/-- the heap's steps, as the method's text has them -/
def gI (M : wM) (o : Option Ro) (ci k : Nat) (K : Int32 → Prop) : Prop := ∃ (r : Ro) (fs : List AV) (x : Int32), o = some r ∧ M r = some (ob ci fs) ∧ fs[k]? = some (vI x) ∧ K x
def gL (M : wM) (o : Option Ro) (ci k : Nat) (K : Int64 → Prop) : Prop := ∃ (r : Ro) (fs : List AV) (x : Int64), o = some r ∧ M r = some (ob ci fs) ∧ fs[k]? = some (vL x) ∧ K x
def gR (M : wM) (o : Option Ro) (ci k : Nat) (K : Option Ro → Prop) : Prop := ∃ (r : Ro) (fs : List AV) (x : Option Ro), o = some r ∧ M r = some (ob ci fs) ∧ fs[k]? = some (vR x) ∧ K x
def pF (M : wM) (o : Option Ro) (ci k : Nat) (v : AV) (K : wM → Prop) : Prop := ∃ (r : Ro) (fs : List AV), o = some r ∧ M r = some (ob ci fs) ∧ k < fs.length ∧ K (up M r (ob ci (fs.set k v)))
def pZ (M : wM) (o : Option Ro) (ci k : Nat) (x : Int32) (K : wM → Prop) : Prop := (x = 0 ∨ x = 1) ∧ pF M o ci k (vI x) K
def lI (M : wM) (o : Option Ro) (x : Int32) (K : Int32 → Prop) : Prop := ∃ (r : Ro) (n : Nat) (f : Nat → Int32), o = some r ∧ M r = some (ai 0 n f) ∧ vp_in x n ∧ K (f x.toNatClampNeg)
def lZ (M : wM) (o : Option Ro) (x : Int32) (K : Int32 → Prop) : Prop := ∃ (r : Ro) (n : Nat) (f : Nat → Int32), o = some r ∧ M r = some (ai 2 n f) ∧ vp_in x n ∧ K (f x.toNatClampNeg)
def lL (M : wM) (o : Option Ro) (x : Int32) (K : Int64 → Prop) : Prop := ∃ (r : Ro) (n : Nat) (f : Nat → Int64), o = some r ∧ M r = some (al 1 n f) ∧ vp_in x n ∧ K (f x.toNatClampNeg)
def lR (M : wM) (o : Option Ro) (x : Int32) (K : Option Ro → Prop) : Prop := ∃ (r : Ro) (t n : Nat) (f : Nat → Option Ro) (C : String), o = some r ∧ M r = some (ar t n f) ∧ aT[t]? = some (.object C) ∧ vp_in x n ∧ K (f x.toNatClampNeg)
def sI (M : wM) (o : Option Ro) (x v : Int32) (K : wM → Prop) : Prop := ∃ (r : Ro) (n : Nat) (f : Nat → Int32), o = some r ∧ M r = some (ai 0 n f) ∧ vp_in x n ∧ K (up M r (ai 0 n (upd f x.toNatClampNeg v)))
def sZ (M : wM) (o : Option Ro) (x v : Int32) (K : wM → Prop) : Prop := ∃ (r : Ro) (n : Nat) (f : Nat → Int32), o = some r ∧ M r = some (ai 2 n f) ∧ vp_in x n ∧ K (up M r (ai 2 n (upd f x.toNatClampNeg (vp_nar .boolean v))))
def sL (M : wM) (o : Option Ro) (x : Int32) (v : Int64) (K : wM → Prop) : Prop := ∃ (r : Ro) (n : Nat) (f : Nat → Int64), o = some r ∧ M r = some (al 1 n f) ∧ vp_in x n ∧ K (up M r (al 1 n (vp_updL f x.toNatClampNeg v)))
/-- an object of class ci may stand in an array of type t -/
def asg (t ci : Nat) : Prop := ∃ (q : vw_C) (E : String), classes[ci]? = some q ∧ aT[t]? = some (.object E) ∧ (E = q.1 ∨ Cond.castable q.1 E ∈ nestW)
def sR (M : wM) (o : Option Ro) (x : Int32) (v : Option Ro) (K : wM → Prop) : Prop := ∃ (r : Ro) (t n : Nat) (f : Nat → Option Ro) (C : String), o = some r ∧ M r = some (ar t n f) ∧ aT[t]? = some (.object C) ∧ vp_in x n ∧ (∀ q, v = some q → ∃ ci fs, M q = some (ob ci fs) ∧ asg t ci) ∧ K (up M r (ar t n (va_up f x.toNatClampNeg v)))
def aN (M : wM) (o : Option Ro) (K : Int32 → Prop) : Prop := ∃ (r : Ro) (t n : Nat) (f : AC), o = some r ∧ M r = some (.inr (t, n, f)) ∧ t ≠ 99 ∧ K (nI n)
def nA (M : wM) (x : Int32) (bd : Nat) (e : Nat → AE) (K : Option Ro → wM → Prop) : Prop := ¬ x < 0 ∧ x.toNatClampNeg ≤ bd ∧ ∃ r : Ro, r.1 < 90 ∧ M r = none ∧ K (some r) (up M r (e x.toNatClampNeg))
def nO (M : wM) (ci : Nat) (fs : List AV) (K : Option Ro → wM → Prop) : Prop := ∃ r : Ro, r.1 < 90 ∧ M r = none ∧ K (some r) (up M r (ob ci fs))
def ck (M : wM) (o : Option Ro) (ci : Nat) (K : Prop) : Prop := (∀ r, o = some r → ∃ fs, M r = some (ob ci fs)) ∧ K
def cV (M : wM) (o : Option Ro) (ci : Nat) (K : Prop) : Prop := (∃ r fs, o = some r ∧ M r = some (ob ci fs)) ∧ K
def cpI (M : wM) (o1 : Option Ro) (sp : Int32) (o2 : Option Ro) (dp n : Int32) (K : wM → Prop) : Prop := ∃ (r1 r2 : Ro) (n1 n2 : Nat) (f g : Nat → Int32), o1 = some r1 ∧ o2 = some r2 ∧ M r1 = some (ai 0 n1 f) ∧ M r2 = some (ai 0 n2 g) ∧ ¬ sp < 0 ∧ ¬ dp < 0 ∧ ¬ n < 0 ∧ sp.toNatClampNeg + n.toNatClampNeg ≤ n1 ∧ dp.toNatClampNeg + n.toNatClampNeg ≤ n2 ∧ 0 < n1 ∧ 0 < n2 ∧ K (up M r2 (ai 0 n2 (va_cpy f g sp.toNatClampNeg dp.toNatClampNeg n.toNatClampNeg)))
def cpL (M : wM) (o1 : Option Ro) (sp : Int32) (o2 : Option Ro) (dp n : Int32) (K : wM → Prop) : Prop := ∃ (r1 r2 : Ro) (n1 n2 : Nat) (f g : Nat → Int64), o1 = some r1 ∧ o2 = some r2 ∧ M r1 = some (al 1 n1 f) ∧ M r2 = some (al 1 n2 g) ∧ ¬ sp < 0 ∧ ¬ dp < 0 ∧ ¬ n < 0 ∧ sp.toNatClampNeg + n.toNatClampNeg ≤ n1 ∧ dp.toNatClampNeg + n.toNatClampNeg ≤ n2 ∧ 0 < n1 ∧ 0 < n2 ∧ K (up M r2 (al 1 n2 (va_cpy f g sp.toNatClampNeg dp.toNatClampNeg n.toNatClampNeg)))
def cpR (M : wM) (o1 : Option Ro) (sp : Int32) (o2 : Option Ro) (dp n : Int32) (K : wM → Prop) : Prop := ∃ (r1 r2 : Ro) (t1 t2 n1 n2 ci : Nat) (f g : Nat → Option Ro) (q : vw_C) (E1 E2 : String), o1 = some r1 ∧ o2 = some r2 ∧ M r1 = some (ar t1 n1 f) ∧ M r2 = some (ar t2 n2 g) ∧ aT[t1]? = some (.object E1) ∧ aT[t2]? = some (.object E2) ∧ classes[ci]? = some q ∧ Cond.castable q.1 E2 ∈ nestW ∧ ¬ sp < 0 ∧ ¬ dp < 0 ∧ ¬ n < 0 ∧ sp.toNatClampNeg + n.toNatClampNeg ≤ n1 ∧ dp.toNatClampNeg + n.toNatClampNeg ≤ n2 ∧ 0 < n1 ∧ 0 < n2 ∧ (∀ i, i < n.toNatClampNeg → ∀ r, f (sp.toNatClampNeg + i) = some r → ∃ fs, M r = some (ob ci fs)) ∧ K (up M r2 (ar t2 n2 (va_cpy f g sp.toNatClampNeg dp.toNatClampNeg n.toNatClampNeg)))

theorem aw_gI (X : Cx p s m args meth c cc nL own Ts D dA B zE) {ci : Nat} {C : String} {T : u_T} {N : Nat} (hc : classes[ci]? = some (C, T, N)) (hin : ∀ w ∈ u_ws C T N, w ∈ Ts) {index : Nat} {ref : String} (k : Nat) (hk : k < N) (hl : Cond.fieldLink own index ref (T k).2.1 (T k).2.2.1 ∈ Ts) (hsm : ∀ (a : Array Value) (u : State), (∀ w ∈ Ts, w.before a u = true) → ∀ x, u.fieldFound? (T k).1 (T k).2.1 (T k).2.2.1 = some x → u.fieldFound? ref (T k).2.1 (T k).2.2.1 = some x) (hd : decode cc pc = .ok (.getfield index, 3)) {o : Option Ro} (h : gI M o ci k (fun x => AW p l e R s m args below meth c Q D dA B zE nL ad0 M0 M cells slots (pc + 3) lv (vI x :: st))) : AW p l e R s m args below meth c Q D dA B zE nL ad0 M0 M cells slots pc lv (vR o :: st) := by
  obtain ⟨r, fs, x, rfl, hM, hv, kk⟩ := h
  intro ad H locs ls h1 h2 h3 h4 h5 h6 h7
  exact wr_get X.1 X.2.1 X.hts hin X.hown X.hK h3.1 r.1 r.2 (cW_at (h3.ro hM) hM) hc k hk (X.hts _ hl) (hsm _ _ X.hts) (by rw [List.getElem?_map, hv]; rfl) hd (kk ad H locs ls h1 h2 h3 h4 h5 h6 h7.tl.ni)
theorem aw_gIN (X : Cx p s m args meth c cc nL own Ts D dA B zE) {ci : Nat} {C : String} {T : u_T} {N : Nat} (hc : classes[ci]? = some (C, T, N)) (hin : ∀ w ∈ u_ws C T N, w ∈ Ts) {index : Nat} {ref : String} (k : Nat) (hk : k < N) {host : String} (hl : Cond.fieldLinkNest own index ref (T k).2.1 (T k).2.2.1 host ∈ nestW) (hsm : ∀ (a : Array Value) (u : State), (∀ w ∈ Ts, w.before a u = true) → ∀ x, u.fieldFound? (T k).1 (T k).2.1 (T k).2.2.1 = some x → u.fieldFound? ref (T k).2.1 (T k).2.2.1 = some x) (hd : decode cc pc = .ok (.getfield index, 3)) {o : Option Ro} (h : gI M o ci k (fun x => AW p l e R s m args below meth c Q D dA B zE nL ad0 M0 M cells slots (pc + 3) lv (vI x :: st))) : AW p l e R s m args below meth c Q D dA B zE nL ad0 M0 M cells slots pc lv (vR o :: st) := by
  obtain ⟨r, fs, x, rfl, hM, hv, kk⟩ := h
  intro ad H locs ls h1 h2 h3 h4 h5 h6 h7
  exact wr_getN X.1 X.2.1 X.hts hin X.hown X.hK h3.1 r.1 r.2 (cW_at (h3.ro hM) hM) hc k hk ((X.hG.2.2.2 _ hl).use (nestW_tab _ hl)) (hsm _ _ X.hts) (by rw [List.getElem?_map, hv]; rfl) hd (kk ad H locs ls h1 h2 h3 h4 h5 h6 h7.tl.ni)
theorem aw_gL (X : Cx p s m args meth c cc nL own Ts D dA B zE) {ci : Nat} {C : String} {T : u_T} {N : Nat} (hc : classes[ci]? = some (C, T, N)) (hin : ∀ w ∈ u_ws C T N, w ∈ Ts) {index : Nat} {ref : String} (k : Nat) (hk : k < N) (hl : Cond.fieldLink own index ref (T k).2.1 (T k).2.2.1 ∈ Ts) (hsm : ∀ (a : Array Value) (u : State), (∀ w ∈ Ts, w.before a u = true) → ∀ x, u.fieldFound? (T k).1 (T k).2.1 (T k).2.2.1 = some x → u.fieldFound? ref (T k).2.1 (T k).2.2.1 = some x) (hd : decode cc pc = .ok (.getfield index, 3)) {o : Option Ro} (h : gL M o ci k (fun x => AW p l e R s m args below meth c Q D dA B zE nL ad0 M0 M cells slots (pc + 3) lv (vL x :: st))) : AW p l e R s m args below meth c Q D dA B zE nL ad0 M0 M cells slots pc lv (vR o :: st) := by
  obtain ⟨r, fs, x, rfl, hM, hv, kk⟩ := h
  intro ad H locs ls h1 h2 h3 h4 h5 h6 h7
  exact wr_get X.1 X.2.1 X.hts hin X.hown X.hK h3.1 r.1 r.2 (cW_at (h3.ro hM) hM) hc k hk (X.hts _ hl) (hsm _ _ X.hts) (by rw [List.getElem?_map, hv]; rfl) hd (kk ad H locs ls h1 h2 h3 h4 h5 h6 h7.tl.nl)
theorem aw_gLN (X : Cx p s m args meth c cc nL own Ts D dA B zE) {ci : Nat} {C : String} {T : u_T} {N : Nat} (hc : classes[ci]? = some (C, T, N)) (hin : ∀ w ∈ u_ws C T N, w ∈ Ts) {index : Nat} {ref : String} (k : Nat) (hk : k < N) {host : String} (hl : Cond.fieldLinkNest own index ref (T k).2.1 (T k).2.2.1 host ∈ nestW) (hsm : ∀ (a : Array Value) (u : State), (∀ w ∈ Ts, w.before a u = true) → ∀ x, u.fieldFound? (T k).1 (T k).2.1 (T k).2.2.1 = some x → u.fieldFound? ref (T k).2.1 (T k).2.2.1 = some x) (hd : decode cc pc = .ok (.getfield index, 3)) {o : Option Ro} (h : gL M o ci k (fun x => AW p l e R s m args below meth c Q D dA B zE nL ad0 M0 M cells slots (pc + 3) lv (vL x :: st))) : AW p l e R s m args below meth c Q D dA B zE nL ad0 M0 M cells slots pc lv (vR o :: st) := by
  obtain ⟨r, fs, x, rfl, hM, hv, kk⟩ := h
  intro ad H locs ls h1 h2 h3 h4 h5 h6 h7
  exact wr_getN X.1 X.2.1 X.hts hin X.hown X.hK h3.1 r.1 r.2 (cW_at (h3.ro hM) hM) hc k hk ((X.hG.2.2.2 _ hl).use (nestW_tab _ hl)) (hsm _ _ X.hts) (by rw [List.getElem?_map, hv]; rfl) hd (kk ad H locs ls h1 h2 h3 h4 h5 h6 h7.tl.nl)
theorem aw_gR (X : Cx p s m args meth c cc nL own Ts D dA B zE) {ci : Nat} {C : String} {T : u_T} {N : Nat} (hc : classes[ci]? = some (C, T, N)) (hin : ∀ w ∈ u_ws C T N, w ∈ Ts) {index : Nat} {ref : String} (k : Nat) (hk : k < N) (hl : Cond.fieldLink own index ref (T k).2.1 (T k).2.2.1 ∈ Ts) (hsm : ∀ (a : Array Value) (u : State), (∀ w ∈ Ts, w.before a u = true) → ∀ x, u.fieldFound? (T k).1 (T k).2.1 (T k).2.2.1 = some x → u.fieldFound? ref (T k).2.1 (T k).2.2.1 = some x) (hd : decode cc pc = .ok (.getfield index, 3)) {o : Option Ro} (h : gR M o ci k (fun x => AW p l e R s m args below meth c Q D dA B zE nL ad0 M0 M cells slots (pc + 3) lv (vR x :: st))) : AW p l e R s m args below meth c Q D dA B zE nL ad0 M0 M cells slots pc lv (vR o :: st) := by
  obtain ⟨r, fs, x, rfl, hM, hv, kk⟩ := h
  intro ad H locs ls h1 h2 h3 h4 h5 h6 h7
  exact wr_get X.1 X.2.1 X.hts hin X.hown X.hK h3.1 r.1 r.2 (cW_at (h3.ro hM) hM) hc k hk (X.hts _ hl) (hsm _ _ X.hts) (by rw [List.getElem?_map, hv]; rfl) hd (kk ad H locs ls h1 h2 h3 h4 h5 h6 (h7.tl.cn ((h3.2.1.okO hM).1 _ (List.mem_of_getElem? hv))))
theorem aw_gRN (X : Cx p s m args meth c cc nL own Ts D dA B zE) {ci : Nat} {C : String} {T : u_T} {N : Nat} (hc : classes[ci]? = some (C, T, N)) (hin : ∀ w ∈ u_ws C T N, w ∈ Ts) {index : Nat} {ref : String} (k : Nat) (hk : k < N) {host : String} (hl : Cond.fieldLinkNest own index ref (T k).2.1 (T k).2.2.1 host ∈ nestW) (hsm : ∀ (a : Array Value) (u : State), (∀ w ∈ Ts, w.before a u = true) → ∀ x, u.fieldFound? (T k).1 (T k).2.1 (T k).2.2.1 = some x → u.fieldFound? ref (T k).2.1 (T k).2.2.1 = some x) (hd : decode cc pc = .ok (.getfield index, 3)) {o : Option Ro} (h : gR M o ci k (fun x => AW p l e R s m args below meth c Q D dA B zE nL ad0 M0 M cells slots (pc + 3) lv (vR x :: st))) : AW p l e R s m args below meth c Q D dA B zE nL ad0 M0 M cells slots pc lv (vR o :: st) := by
  obtain ⟨r, fs, x, rfl, hM, hv, kk⟩ := h
  intro ad H locs ls h1 h2 h3 h4 h5 h6 h7
  exact wr_getN X.1 X.2.1 X.hts hin X.hown X.hK h3.1 r.1 r.2 (cW_at (h3.ro hM) hM) hc k hk ((X.hG.2.2.2 _ hl).use (nestW_tab _ hl)) (hsm _ _ X.hts) (by rw [List.getElem?_map, hv]; rfl) hd (kk ad H locs ls h1 h2 h3 h4 h5 h6 (h7.tl.cn ((h3.2.1.okO hM).1 _ (List.mem_of_getElem? hv))))
theorem aw_pF (X : Cx p s m args meth c cc nL own Ts D dA B zE) {ci : Nat} {C : String} {T : u_T} {N : Nat} (hc : classes[ci]? = some (C, T, N)) (hin : ∀ w ∈ u_ws C T N, w ∈ Ts) {index : Nat} {ref : String} (k : Nat) (hk : k < N) (ty0 : Nat → FieldType) (hty : ∀ k, k < N → parseFieldDescriptor (T k).2.2.1 = some (ty0 k)) (hnm : ∀ a, a < N → ∀ b, b < N → a ≠ b → (T a).2.1 ≠ (T b).2.1) (hl : Cond.fieldLink own index ref (T k).2.1 (T k).2.2.1 ∈ Ts) (hsm : ∀ (a : Array Value) (u : State), (∀ w ∈ Ts, w.before a u = true) → ∀ x, u.fieldFound? (T k).1 (T k).2.1 (T k).2.2.1 = some x → u.fieldFound? ref (T k).2.1 (T k).2.2.1 = some x) (hfin : (T k).2.2.2 = false) {ty : FieldType} {v : AV} (hdt : parseFieldDescriptor (T k).2.2.1 = some ty) (hnf : ∀ ad : Ro → Nat, narrow ty (cv ad v) = cv ad v ∧ fits ty (cv ad v) = true) (hd : decode cc pc = .ok (.putfield index, 3)) {o : Option Ro} (h : pF M o ci k v (fun M' => AW p l e R s m args below meth c Q D dA B zE nL ad0 M0 M' cells slots (pc + 3) lv st)) : AW p l e R s m args below meth c Q D dA B zE nL ad0 M0 M cells slots pc lv (v :: vR o :: st) := by
  obtain ⟨r, fs, rfl, hM, hv, kk⟩ := h
  intro ad H locs ls h1 h2 h3 h4 h5 h6 h7
  refine wr_put X.1 X.2.1 X.hts hin ty0 hty hnm X.hown X.hK h3.1 h4 r.1 r.2 (cW_at (h3.ro hM) hM) hc k hk (X.hts _ hl) (hsm _ _ X.hts) hfin hdt (hnf ad).1 (hnf ad).2 (by rw [List.length_map]; exact hv) hd (fun H1 locs1 hw hS => ?_)
  refine kk ad H1 locs1 ls h1 (sb_up h2) (h3.put (h3.ro hM) (okE_set (h3.2.1.okO hM).1 h7.hd) ?_) hS h5 (h6.sb sb_up1) (h7.tl.tl.sb sb_up1)
  show wr D classes (wA B) (w2 (cW dA ad M) r.1 r.2 (some (ad r, Sum.inr (ci, (fs.set k v).map (cv ad))))) H1
  rw [List.map_set]
  exact hw
theorem aw_pFN (X : Cx p s m args meth c cc nL own Ts D dA B zE) {ci : Nat} {C : String} {T : u_T} {N : Nat} (hc : classes[ci]? = some (C, T, N)) (hin : ∀ w ∈ u_ws C T N, w ∈ Ts) {index : Nat} {ref : String} (k : Nat) (hk : k < N) (ty0 : Nat → FieldType) (hty : ∀ k, k < N → parseFieldDescriptor (T k).2.2.1 = some (ty0 k)) (hnm : ∀ a, a < N → ∀ b, b < N → a ≠ b → (T a).2.1 ≠ (T b).2.1) {host : String} (hl : Cond.fieldLinkNest own index ref (T k).2.1 (T k).2.2.1 host ∈ nestW) (hsm : ∀ (a : Array Value) (u : State), (∀ w ∈ Ts, w.before a u = true) → ∀ x, u.fieldFound? (T k).1 (T k).2.1 (T k).2.2.1 = some x → u.fieldFound? ref (T k).2.1 (T k).2.2.1 = some x) (hfin : (T k).2.2.2 = false) {ty : FieldType} {v : AV} (hdt : parseFieldDescriptor (T k).2.2.1 = some ty) (hnf : ∀ ad : Ro → Nat, narrow ty (cv ad v) = cv ad v ∧ fits ty (cv ad v) = true) (hd : decode cc pc = .ok (.putfield index, 3)) {o : Option Ro} (h : pF M o ci k v (fun M' => AW p l e R s m args below meth c Q D dA B zE nL ad0 M0 M' cells slots (pc + 3) lv st)) : AW p l e R s m args below meth c Q D dA B zE nL ad0 M0 M cells slots pc lv (v :: vR o :: st) := by
  obtain ⟨r, fs, rfl, hM, hv, kk⟩ := h
  intro ad H locs ls h1 h2 h3 h4 h5 h6 h7
  refine wr_putN X.1 X.2.1 X.hts hin ty0 hty hnm X.hown X.hK h3.1 h4 r.1 r.2 (cW_at (h3.ro hM) hM) hc k hk ((X.hG.2.2.2 _ hl).use (nestW_tab _ hl)) (hsm _ _ X.hts) hfin hdt (hnf ad).1 (hnf ad).2 (by rw [List.length_map]; exact hv) hd (fun H1 locs1 hw hS => ?_)
  refine kk ad H1 locs1 ls h1 (sb_up h2) (h3.put (h3.ro hM) (okE_set (h3.2.1.okO hM).1 h7.hd) ?_) hS h5 (h6.sb sb_up1) (h7.tl.tl.sb sb_up1)
  show wr D classes (wA B) (w2 (cW dA ad M) r.1 r.2 (some (ad r, Sum.inr (ci, (fs.set k v).map (cv ad))))) H1
  rw [List.map_set]
  exact hw
theorem aw_pFF (X : Cx p s m args meth c cc nL own Ts D dA B zE) {ci : Nat} {C : String} {T : u_T} {N : Nat} (hc : classes[ci]? = some (C, T, N)) (hin : ∀ w ∈ u_ws C T N, w ∈ Ts) {index : Nat} {ref : String} (k : Nat) (hk : k < N) (ty0 : Nat → FieldType) (hty : ∀ k, k < N → parseFieldDescriptor (T k).2.2.1 = some (ty0 k)) (hnm : ∀ a, a < N → ∀ b, b < N → a ≠ b → (T a).2.1 ≠ (T b).2.1) (hl : Cond.fieldLink own index ref (T k).2.1 (T k).2.2.1 ∈ Ts) (hsm : ∀ (a : Array Value) (u : State), (∀ w ∈ Ts, w.before a u = true) → ∀ x, u.fieldFound? (T k).1 (T k).2.1 (T k).2.2.1 = some x → u.fieldFound? ref (T k).2.1 (T k).2.2.1 = some x) (hfin : (T k).2.2.2 = true) (hin2 : meth.name = "<init>") (hdecl : (T k).1 = own) {ty : FieldType} {v : AV} (hdt : parseFieldDescriptor (T k).2.2.1 = some ty) (hnf : ∀ ad : Ro → Nat, narrow ty (cv ad v) = cv ad v ∧ fits ty (cv ad v) = true) (hd : decode cc pc = .ok (.putfield index, 3)) {o : Option Ro} (h : pF M o ci k v (fun M' => AW p l e R s m args below meth c Q D dA B zE nL ad0 M0 M' cells slots (pc + 3) lv st)) : AW p l e R s m args below meth c Q D dA B zE nL ad0 M0 M cells slots pc lv (v :: vR o :: st) := by
  obtain ⟨r, fs, rfl, hM, hv, kk⟩ := h
  intro ad H locs ls h1 h2 h3 h4 h5 h6 h7
  refine wr_putF X.1 X.2.1 X.hts hin ty0 hty hnm X.hown X.hK h3.1 h4 r.1 r.2 (cW_at (h3.ro hM) hM) hc k hk (X.hts _ hl) (hsm _ _ X.hts) hfin hin2 hdecl hdt (hnf ad).1 (hnf ad).2 (by rw [List.length_map]; exact hv) hd (fun H1 locs1 hw hS => ?_)
  refine kk ad H1 locs1 ls h1 (sb_up h2) (h3.put (h3.ro hM) (okE_set (h3.2.1.okO hM).1 h7.hd) ?_) hS h5 (h6.sb sb_up1) (h7.tl.tl.sb sb_up1)
  show wr D classes (wA B) (w2 (cW dA ad M) r.1 r.2 (some (ad r, Sum.inr (ci, (fs.set k v).map (cv ad))))) H1
  rw [List.map_set]
  exact hw
theorem aw_lI (X : Cx p s m args meth c cc nL own Ts D dA B zE) (hd : decode cc pc = .ok (.iaload, 1)) {o : Option Ro} {x : Int32} (h : lI M o x (fun y => AW p l e R s m args below meth c Q D dA B zE nL ad0 M0 M cells slots (pc + 1) lv (vI y :: st))) : AW p l e R s m args below meth c Q D dA B zE nL ad0 M0 M cells slots pc lv (vI x :: vR o :: st) := by
  obtain ⟨r, n, f, rfl, hM, hv, kk⟩ := h
  intro ad H locs ls h1 h2 h3 h4 h5 h6 h7
  exact wr_iald X.1 X.2.1 X.hK h3.1 0 r.1 r.2 (cW_at (h3.ra hM hv.pos) hM) (tysA_at rfl) hv hd (kk ad H locs ls h1 h2 h3 h4 h5 h6 h7.tl.tl.ni)
theorem aw_lZ (X : Cx p s m args meth c cc nL own Ts D dA B zE) (hd : decode cc pc = .ok (.baload, 1)) {o : Option Ro} {x : Int32} (h : lZ M o x (fun y => AW p l e R s m args below meth c Q D dA B zE nL ad0 M0 M cells slots (pc + 1) lv (vI y :: st))) : AW p l e R s m args below meth c Q D dA B zE nL ad0 M0 M cells slots pc lv (vI x :: vR o :: st) := by
  obtain ⟨r, n, f, rfl, hM, hv, kk⟩ := h
  intro ad H locs ls h1 h2 h3 h4 h5 h6 h7
  exact wr_zald X.1 X.2.1 X.hK h3.1 2 r.1 r.2 (cW_at (h3.ra hM hv.pos) hM) (tysA_at rfl) hv hd (kk ad H locs ls h1 h2 h3 h4 h5 h6 h7.tl.tl.ni)
theorem aw_lL (X : Cx p s m args meth c cc nL own Ts D dA B zE) (hd : decode cc pc = .ok (.laload, 1)) {o : Option Ro} {x : Int32} (h : lL M o x (fun y => AW p l e R s m args below meth c Q D dA B zE nL ad0 M0 M cells slots (pc + 1) lv (vL y :: st))) : AW p l e R s m args below meth c Q D dA B zE nL ad0 M0 M cells slots pc lv (vI x :: vR o :: st) := by
  obtain ⟨r, n, f, rfl, hM, hv, kk⟩ := h
  intro ad H locs ls h1 h2 h3 h4 h5 h6 h7
  exact wr_lald X.1 X.2.1 X.hK h3.1 1 r.1 r.2 (cW_at (h3.ra hM hv.pos) hM) (tysA_at rfl) hv hd (kk ad H locs ls h1 h2 h3 h4 h5 h6 h7.tl.tl.nl)
theorem aw_lR (X : Cx p s m args meth c cc nL own Ts D dA B zE) (hd : decode cc pc = .ok (.aaload, 1)) {o : Option Ro} {x : Int32} (h : lR M o x (fun y => AW p l e R s m args below meth c Q D dA B zE nL ad0 M0 M cells slots (pc + 1) lv (vR y :: st))) : AW p l e R s m args below meth c Q D dA B zE nL ad0 M0 M cells slots pc lv (vI x :: vR o :: st) := by
  obtain ⟨r, t, n, f, C, rfl, hM, ht, hv, kk⟩ := h
  intro ad H locs ls h1 h2 h3 h4 h5 h6 h7
  exact wr_aldq X.1 X.2.1 X.hK h3.1 t r.1 r.2 (cW_at (h3.ra hM hv.pos) hM) (tysA_at ht) hv hd (kk ad H locs ls h1 h2 h3 h4 h5 h6 (h7.tl.tl.cn ((h3.2.1.ok hM (h3.ra hM hv.pos)).2 _)))
theorem aw_aN (X : Cx p s m args meth c cc nL own Ts D dA B zE) (hd : decode cc pc = .ok (.arraylength, 1)) {o : Option Ro} (h : aN M o (fun y => AW p l e R s m args below meth c Q D dA B zE nL ad0 M0 M cells slots (pc + 1) lv (vI y :: st))) : AW p l e R s m args below meth c Q D dA B zE nL ad0 M0 M cells slots pc lv (vR o :: st) := by
  obtain ⟨r, t, n, f, rfl, hM, h99, kk⟩ := h
  intro ad H locs ls h1 h2 h3 h4 h5 h6 h7
  have hk := kk ad H locs ls h1 h2 h3 h4 h5 h6 h7.tl.ni
  rcases h3.2.1 r _ hM with g | g | g
  · exact wr_alen X.1 X.2.1 X.hK h3.1 t r.1 r.2 (cW_at g.2 hM) (tysA_at (List.getElem?_eq_getElem g.1.1)) rfl hd hk
  · obtain ⟨g, ge⟩ := g
    subst g
    cases ge
    show W p l e R s m args below meth c H locs cells slots Q (F0 m pc ls (.ref (ad (90, 0)) :: st.map (cv ad)))
    rw [h3.2.2.1.1]
    exact va_tlen X.1 X.2.1 X.hG.2.2.1.2.1 h4 rfl hd hk
  · have := g.2
    cases this
    exact absurd rfl h99
theorem aw_sI (X : Cx p s m args meth c cc nL own Ts D dA B zE) (hd : decode cc pc = .ok (.iastore, 1)) {o : Option Ro} {x : Int32} {v : Int32} (h : sI M o x v (fun M' => AW p l e R s m args below meth c Q D dA B zE nL ad0 M0 M' cells slots (pc + 1) lv st)) : AW p l e R s m args below meth c Q D dA B zE nL ad0 M0 M cells slots pc lv (vI v :: vI x :: vR o :: st) := by
  obtain ⟨r, n, f, rfl, hM, hv, kk⟩ := h
  intro ad H locs ls h1 h2 h3 h4 h5 h6 h7
  refine wr_iast X.1 X.2.1 X.hK h3.1 h4 0 r.1 r.2 (cW_at (h3.ra hM hv.pos) hM) (tysA_at rfl) hv hd (fun H1 locs1 hw hS => ?_)
  exact kk ad H1 locs1 ls h1 (sb_up h2) (h3.put (e1 := ai 0 n (upd f x.toNatClampNeg v)) (h3.ra hM hv.pos) ⟨(h3.2.1.ok hM (h3.ra hM hv.pos)).1, trivial⟩ hw) hS h5 (h6.sb sb_up1) (h7.tl.tl.tl.sb sb_up1)
theorem aw_sZ (X : Cx p s m args meth c cc nL own Ts D dA B zE) (hd : decode cc pc = .ok (.bastore, 1)) {o : Option Ro} {x : Int32} {v : Int32} (h : sZ M o x v (fun M' => AW p l e R s m args below meth c Q D dA B zE nL ad0 M0 M' cells slots (pc + 1) lv st)) : AW p l e R s m args below meth c Q D dA B zE nL ad0 M0 M cells slots pc lv (vI v :: vI x :: vR o :: st) := by
  obtain ⟨r, n, f, rfl, hM, hv, kk⟩ := h
  intro ad H locs ls h1 h2 h3 h4 h5 h6 h7
  refine wr_zast X.1 X.2.1 X.hK h3.1 h4 2 r.1 r.2 (cW_at (h3.ra hM hv.pos) hM) (tysA_at rfl) hv hd (fun H1 locs1 hw hS => ?_)
  exact kk ad H1 locs1 ls h1 (sb_up h2) (h3.put (e1 := ai 2 n (upd f x.toNatClampNeg (vp_nar .boolean v))) (h3.ra hM hv.pos) ⟨(h3.2.1.ok hM (h3.ra hM hv.pos)).1, trivial⟩ hw) hS h5 (h6.sb sb_up1) (h7.tl.tl.tl.sb sb_up1)
theorem aw_sL (X : Cx p s m args meth c cc nL own Ts D dA B zE) (hd : decode cc pc = .ok (.lastore, 1)) {o : Option Ro} {x : Int32} {v : Int64} (h : sL M o x v (fun M' => AW p l e R s m args below meth c Q D dA B zE nL ad0 M0 M' cells slots (pc + 1) lv st)) : AW p l e R s m args below meth c Q D dA B zE nL ad0 M0 M cells slots pc lv (vL v :: vI x :: vR o :: st) := by
  obtain ⟨r, n, f, rfl, hM, hv, kk⟩ := h
  intro ad H locs ls h1 h2 h3 h4 h5 h6 h7
  refine wr_last X.1 X.2.1 X.hK h3.1 h4 1 r.1 r.2 (cW_at (h3.ra hM hv.pos) hM) (tysA_at rfl) hv hd (fun H1 locs1 hw hS => ?_)
  exact kk ad H1 locs1 ls h1 (sb_up h2) (h3.put (e1 := al 1 n (vp_updL f x.toNatClampNeg v)) (h3.ra hM hv.pos) ⟨(h3.2.1.ok hM (h3.ra hM hv.pos)).1, trivial⟩ hw) hS h5 (h6.sb sb_up1) (h7.tl.tl.tl.sb sb_up1)
theorem va_up_map {ad : Ro → Nat} {f : Nat → Option Ro} {i : Nat} {v : Option Ro} : (fun j => (va_up f i v j).map ad) = va_up (fun j => (f j).map ad) i (v.map ad) := by
  funext j
  by_cases h : j = i <;> simp [va_up, h]
theorem aw_sR (X : Cx p s m args meth c cc nL own Ts D dA B zE) (hd : decode cc pc = .ok (.aastore, 1)) {o v : Option Ro} {x : Int32} (h : sR M o x v (fun M' => AW p l e R s m args below meth c Q D dA B zE nL ad0 M0 M' cells slots (pc + 1) lv st)) : AW p l e R s m args below meth c Q D dA B zE nL ad0 M0 M cells slots pc lv (vR v :: vI x :: vR o :: st) := by
  obtain ⟨r, t, n, f, C, rfl, hM, ht, hv, hcl, kk⟩ := h
  intro ad H locs ls h1 h2 h3 h4 h5 h6 h7
  have hok : okE (up M r (ar t n (va_up f x.toNatClampNeg v))) (ar t n (va_up f x.toNatClampNeg v)) := by
    refine ⟨(h3.2.1.ok hM (h3.ra hM hv.pos)).1, fun j => ?_⟩
    by_cases hj : j = x.toNatClampNeg
    · have : va_up f x.toNatClampNeg v j = v := by simp [va_up, hj]
      rw [this]
      exact h7.hd.sb sb_up1
    · have : va_up f x.toNatClampNeg v j = f j := by simp [va_up, hj]
      rw [this]
      exact ((h3.2.1.ok hM (h3.ra hM hv.pos)).2 j).sb sb_up1
  have fin : ∀ (H1 : Heap) (locs1 : List Loc), wr D classes (wA B) (w2 (cW dA ad M) r.1 r.2 (some (ad r, .inl (dA t, n, .inr (.inr (.inr (.inr (va_up (fun j => (f j).map ad) x.toNatClampNeg (v.map ad)))))))) ) H1 → va_S (wA B) s.heap H1 locs1 → W p l e R s m args below meth c H1 locs1 cells slots Q (F0 m (pc + 1) ls (st.map (cv ad))) := fun H1 locs1 hw hS => by
    refine kk ad H1 locs1 ls h1 (sb_up h2) (h3.put (h3.ra hM hv.pos) hok ?_) hS h5 (h6.sb sb_up1) (h7.tl.tl.tl.sb sb_up1)
    show wr D classes (wA B) (w2 (cW dA ad M) r.1 r.2 (some (ad r, Sum.inl (dA t, n, Sum.inr (Sum.inr (Sum.inr (Sum.inr (fun j => (va_up f x.toNatClampNeg v j).map ad)))))))) H1
    rw [va_up_map]
    exact hw
  cases v with
  | none => exact wr_astqN X.1 X.2.1 X.hK h3.1 h4 t r.1 r.2 (cW_at (h3.ra hM hv.pos) hM) (tysA_at ht) hv hd fin
  | some z =>
    obtain ⟨ci, fs, hz, q, E, hq, hE, hor⟩ := hcl z rfl
    have hCE : C = E := by
      rw [ht] at hE
      cases hE
      rfl
    subst hCE
    rcases hor with hor | hor
    · exact wr_astq X.1 X.2.1 X.hK h3.1 h4 t ci r.1 r.2 (cW_at (h3.ra hM hv.pos) hM) (tysA_at (hor ▸ ht)) z.1 z.2 (cW_at (h3.ro hz) hz) hq hv hd fin
    · exact wr_astqO X.1 X.2.1 X.hK h3.1 h4 t ci r.1 r.2 (cW_at (h3.ra hM hv.pos) hM) (tysA_at ht) (X.hG.2.2.2 _ hor) z.1 z.2 (cW_at (h3.ro hz) hz) hq hv hd fin
theorem va_RA.uniq {U : State} {c1 c2 : ClassId} {ty : FieldType} (g1 : va_RA U c1 ty) (g2 : va_RA U c2 ty) : c1 = c2 := by
  cases ty with
  | object C =>
    obtain ⟨_, _, _, _, _, g1⟩ := g1
    obtain ⟨_, _, _, _, _, g2⟩ := g2
    exact Option.some.inj (g1.symm.trans g2)
  | _ => exact Option.some.inj (Eq.trans (Eq.symm g1) g2)
theorem tysA_last {dA : Nat → ClassId} {x : ClassId × FieldType} : (tysA dA ++ [x])[(tysA dA).length]? = some x := by simp
theorem aw_nO (X : Cx p s m args meth c cc nL own Ts D dA B zE) {ci : Nat} {C : String} {T : u_T} {N index : Nat} (hc : classes[ci]? = some (C, T, N)) (hin : ∀ w ∈ u_ws C T N, w ∈ Ts) (ty : Nat → FieldType) (hty : ∀ k, k < N → parseFieldDescriptor (T k).2.2.1 = some (ty k)) (hcl : Cond.classLink own index C ∈ Ts) (hinst : Cond.instantiable C N ∈ Ts) (hini : Cond.initialized C ∈ Ts) {fs : List AV} (hfs : ∀ (ad : Ro → Nat) j, j < N → defaultValue (ty j) = vp_V (fs.map (cv ad)) j) (hl : ∀ M : wM, ∀ v ∈ fs, lv1 M v) (hcells : cells + 1 ≤ R.cells) (hslots : slots + N ≤ R.slots) (hd : decode cc pc = .ok (.new index, 3)) (h : nO M ci fs (fun r M' => AW p l e R s m args below meth c Q D dA B zE nL ad0 M0 M' (cells + 1) (slots + N) (pc + 3) lv (vR r :: st))) : AW p l e R s m args below meth c Q D dA B zE nL ad0 M0 M cells slots pc lv st := by
  obtain ⟨r, hr, hn, kk⟩ := h
  intro ad H locs ls h1 h2 h3 h4 h5 h6 h7
  refine wr_new X.1 X.2.1 X.hts hin ty hty X.hown (X.hts _ hcl) (X.hts _ hinst) (X.hts _ hini) X.hK h3.1 h4 X.hA hc (hfs ad) hcells hslots hd r.1 r.2 (fun q H1 hw hS => ?_)
  have hx := adN_xt (ad := ad) (q := q) hn
  have hcvf : fs.map (cv (adN ad r q)) = fs.map (cv ad) := cvs_xt hx (hl M)
  have hk := kk (adN ad r q) H1 locs ls (fun z hz => (hx z (h2 z hz)).trans (h1 z hz)) (sb_up h2) (h3.new hn hr (hl _) (by
    show wr D classes (wA B) (w2 (cW dA ad M) r.1 r.2 (some (q, Sum.inr (ci, fs.map (cv (adN ad r q)))))) H1
    rw [hcvf]
    exact hw)) hS (by rw [cvL_xt hx h6]; exact h5) (h6.sb sb_up1) ((h7.sb sb_up1).cn (lv1_R up_s))
  have e1 : (vR (some r) :: st).map (cv (adN ad r q)) = .ref q :: st.map (cv ad) := by
    show .ref (adN ad r q r) :: st.map (cv (adN ad r q)) = _
    rw [adN_s, cvs_xt hx h7]
  rw [e1] at hk
  exact hk
theorem aw_nAI (X : Cx p s m args meth c cc nL own Ts D dA B zE) {atype : ArrayType} (hat : newarray.typeOf atype = .int) (harr : Cond.arrayClass (newarray.typeOf atype) ∈ Ts) (bd : Nat) (hbd : bd * componentBytes .int ≤ 536870912) (hcells : cells + 1 ≤ R.cells) (hslots : slots + bd ≤ R.slots) (hd : decode cc pc = .ok (.newarray atype, 2)) {x : Int32} (h : nA M x bd (fun n => ai 0 n (fun _ => 0)) (fun r M' => AW p l e R s m args below meth c Q D dA B zE nL ad0 M0 M' (cells + 1) (slots + bd) (pc + 2) lv (vR r :: st))) : AW p l e R s m args below meth c Q D dA B zE nL ad0 M0 M cells slots pc lv (vI x :: st) := by
  obtain ⟨hx0, hxb, r, hr, hn, kk⟩ := h
  intro ad H locs ls h1 h2 h3 h4 h5 h6 h7
  refine wr_newa0 (a0 := (x.toNatClampNeg, .inl (fun _ => 0))) X.1 X.2.1 (X.hts _ harr) hat X.hK h3.1 h4 X.hA (fun cA => rfl) hx0 rfl (Nat.le_trans (Nat.mul_le_mul_right _ hxb) hbd) hcells (Nat.le_trans (Nat.add_le_add_left hxb _) hslots) hd r.1 r.2 (fun q cA H1 hK1 hw hS => ?_)
  have hcA : cA = dA 0 := (hK1.2 (tysA dA).length (cA, .int) tysA_last).2.uniq (X.hK.2 0 _ (tysA_at rfl)).2
  subst hcA
  refine W.widen (Nat.le_refl _) (Nat.add_le_add_left hxb _) ?_
  have hx := adN_xt (ad := ad) (q := q) hn
  have hk := kk (adN ad r q) H1 locs ls (fun z hz => (hx z (h2 z hz)).trans (h1 z hz)) (sb_up h2) (h3.new hn hr ⟨(by decide : 0 < aT.length), trivial⟩ hw) hS (by rw [cvL_xt hx h6]; exact h5) (h6.sb sb_up1) ((h7.tl.sb sb_up1).cn (lv1_R up_s))
  have e1 : (vR (some r) :: st).map (cv (adN ad r q)) = .ref q :: st.map (cv ad) := by
    show .ref (adN ad r q r) :: st.map (cv (adN ad r q)) = _
    rw [adN_s, cvs_xt hx h7.tl]
  rw [e1] at hk
  exact hk
theorem aw_nAZ (X : Cx p s m args meth c cc nL own Ts D dA B zE) {atype : ArrayType} (hat : newarray.typeOf atype = .boolean) (harr : Cond.arrayClass (newarray.typeOf atype) ∈ Ts) (bd : Nat) (hbd : bd * componentBytes .boolean ≤ 536870912) (hcells : cells + 1 ≤ R.cells) (hslots : slots + bd ≤ R.slots) (hd : decode cc pc = .ok (.newarray atype, 2)) {x : Int32} (h : nA M x bd (fun n => ai 2 n (fun _ => 0)) (fun r M' => AW p l e R s m args below meth c Q D dA B zE nL ad0 M0 M' (cells + 1) (slots + bd) (pc + 2) lv (vR r :: st))) : AW p l e R s m args below meth c Q D dA B zE nL ad0 M0 M cells slots pc lv (vI x :: st) := by
  obtain ⟨hx0, hxb, r, hr, hn, kk⟩ := h
  intro ad H locs ls h1 h2 h3 h4 h5 h6 h7
  refine wr_newa0 (a0 := (x.toNatClampNeg, .inl (fun _ => 0))) X.1 X.2.1 (X.hts _ harr) hat X.hK h3.1 h4 X.hA (fun cA => rfl) hx0 rfl (Nat.le_trans (Nat.mul_le_mul_right _ hxb) hbd) hcells (Nat.le_trans (Nat.add_le_add_left hxb _) hslots) hd r.1 r.2 (fun q cA H1 hK1 hw hS => ?_)
  have hcA : cA = dA 2 := (hK1.2 (tysA dA).length (cA, .boolean) tysA_last).2.uniq (X.hK.2 2 _ (tysA_at rfl)).2
  subst hcA
  refine W.widen (Nat.le_refl _) (Nat.add_le_add_left hxb _) ?_
  have hx := adN_xt (ad := ad) (q := q) hn
  have hk := kk (adN ad r q) H1 locs ls (fun z hz => (hx z (h2 z hz)).trans (h1 z hz)) (sb_up h2) (h3.new hn hr ⟨(by decide : 2 < aT.length), trivial⟩ hw) hS (by rw [cvL_xt hx h6]; exact h5) (h6.sb sb_up1) ((h7.tl.sb sb_up1).cn (lv1_R up_s))
  have e1 : (vR (some r) :: st).map (cv (adN ad r q)) = .ref q :: st.map (cv ad) := by
    show .ref (adN ad r q r) :: st.map (cv (adN ad r q)) = _
    rw [adN_s, cvs_xt hx h7.tl]
  rw [e1] at hk
  exact hk
theorem aw_nAL (X : Cx p s m args meth c cc nL own Ts D dA B zE) {atype : ArrayType} (hat : newarray.typeOf atype = .long) (harr : Cond.arrayClass (newarray.typeOf atype) ∈ Ts) (bd : Nat) (hbd : bd * componentBytes .long ≤ 536870912) (hcells : cells + 1 ≤ R.cells) (hslots : slots + bd ≤ R.slots) (hd : decode cc pc = .ok (.newarray atype, 2)) {x : Int32} (h : nA M x bd (fun n => al 1 n (fun _ => 0)) (fun r M' => AW p l e R s m args below meth c Q D dA B zE nL ad0 M0 M' (cells + 1) (slots + bd) (pc + 2) lv (vR r :: st))) : AW p l e R s m args below meth c Q D dA B zE nL ad0 M0 M cells slots pc lv (vI x :: st) := by
  obtain ⟨hx0, hxb, r, hr, hn, kk⟩ := h
  intro ad H locs ls h1 h2 h3 h4 h5 h6 h7
  refine wr_newa0 (a0 := (x.toNatClampNeg, .inr (.inl (fun _ => 0)))) X.1 X.2.1 (X.hts _ harr) hat X.hK h3.1 h4 X.hA (fun cA => rfl) hx0 rfl (Nat.le_trans (Nat.mul_le_mul_right _ hxb) hbd) hcells (Nat.le_trans (Nat.add_le_add_left hxb _) hslots) hd r.1 r.2 (fun q cA H1 hK1 hw hS => ?_)
  have hcA : cA = dA 1 := (hK1.2 (tysA dA).length (cA, .long) tysA_last).2.uniq (X.hK.2 1 _ (tysA_at rfl)).2
  subst hcA
  refine W.widen (Nat.le_refl _) (Nat.add_le_add_left hxb _) ?_
  have hx := adN_xt (ad := ad) (q := q) hn
  have hk := kk (adN ad r q) H1 locs ls (fun z hz => (hx z (h2 z hz)).trans (h1 z hz)) (sb_up h2) (h3.new hn hr ⟨(by decide : 1 < aT.length), trivial⟩ hw) hS (by rw [cvL_xt hx h6]; exact h5) (h6.sb sb_up1) ((h7.tl.sb sb_up1).cn (lv1_R up_s))
  have e1 : (vR (some r) :: st).map (cv (adN ad r q)) = .ref q :: st.map (cv ad) := by
    show .ref (adN ad r q r) :: st.map (cv (adN ad r q)) = _
    rw [adN_s, cvs_xt hx h7.tl]
  rw [e1] at hk
  exact hk
theorem aw_nAR (X : Cx p s m args meth c cc nL own Ts D dA B zE) {C : String} {index t : Nat} (ht : aT[t]? = some (.object C)) (htl : t < aT.length) (hcl : Cond.classLink own index C ∈ Ts) (hov : va_AO C s) (bd : Nat) (hbd : bd * 4 ≤ 536870912) (hcells : cells + 1 ≤ R.cells) (hslots : slots + bd ≤ R.slots) (hd : decode cc pc = .ok (.anewarray index, 3)) {x : Int32} (h : nA M x bd (fun n => ar t n (fun _ => none)) (fun r M' => AW p l e R s m args below meth c Q D dA B zE nL ad0 M0 M' (cells + 1) (slots + bd) (pc + 3) lv (vR r :: st))) : AW p l e R s m args below meth c Q D dA B zE nL ad0 M0 M cells slots pc lv (vI x :: st) := by
  obtain ⟨hx0, hxb, r, hr, hn, kk⟩ := h
  intro ad H locs ls h1 h2 h3 h4 h5 h6 h7
  refine wr_newq0 X.1 X.2.1 X.hown (X.hts _ hcl) hov X.hK h3.1 h4 X.hA hx0 rfl (Nat.le_trans (Nat.mul_le_mul_right _ hxb) hbd) hcells (Nat.le_trans (Nat.add_le_add_left hxb _) hslots) hd r.1 r.2 (fun q cA H1 hK1 hw hS => ?_)
  have hcA : cA = dA t := (hK1.2 (tysA dA).length (cA, .object C) tysA_last).2.uniq (X.hK.2 t _ (tysA_at ht)).2
  subst hcA
  refine W.widen (Nat.le_refl _) (Nat.add_le_add_left hxb _) ?_
  have hx := adN_xt (ad := ad) (q := q) hn
  have hk := kk (adN ad r q) H1 locs ls (fun z hz => (hx z (h2 z hz)).trans (h1 z hz)) (sb_up h2) (h3.new hn hr ⟨htl, fun _ => lv1_N⟩ hw) hS (by rw [cvL_xt hx h6]; exact h5) (h6.sb sb_up1) ((h7.tl.sb sb_up1).cn (lv1_R up_s))
  have e1 : (vR (some r) :: st).map (cv (adN ad r q)) = .ref q :: st.map (cv ad) := by
    show .ref (adN ad r q r) :: st.map (cv (adN ad r q)) = _
    rw [adN_s, cvs_xt hx h7.tl]
  rw [e1] at hk
  exact hk
theorem WA.recv {ad : Ro → Nat} {H : Heap} {r : Ro} {ci : Nat} {fs : List AV} {q : vw_C} (h : WA D dA B zE ad M H) (hK : va_K D classes (tysA dA) s) (hq : classes[ci]? = some q) (hM : M r = some (ob ci fs)) : ∃ cell : Cell, H[ad r]? = some cell ∧ cell.vm.isStatics = false ∧ s.vm.findClass q.1 = some cell.cls := wr_recv hK h.1 hq (cW_at (dA := dA) (ad := ad) (h.ro hM) hM)
theorem aw_ck (X : Cx p s m args meth c cc nL own Ts D dA B zE) {ci index : Nat} {q : vw_C} (hq : classes[ci]? = some q) (hl : Cond.classLink own index q.1 ∈ Ts) (hd : decode cc pc = .ok (.checkcast index, 3)) {o : Option Ro} (h : ck M o ci (AW p l e R s m args below meth c Q D dA B zE nL ad0 M0 M cells slots (pc + 3) lv (vR o :: st))) : AW p l e R s m args below meth c Q D dA B zE nL ad0 M0 M cells slots pc lv (vR o :: st) := by
  obtain ⟨hr, kk⟩ := h
  intro ad H locs ls h1 h2 h3 h4 h5 h6 h7
  have hk := kk ad H locs ls h1 h2 h3 h4 h5 h6 h7
  cases o with
  | none => exact lv_castN X.1 X.2.1 hd hk
  | some r =>
    obtain ⟨fs, hM⟩ := hr r rfl
    exact va_castE X.1 X.2.1 X.hown (X.hts _ hl) (h3.recv X.hK hq hM) hd hk
def ns (x y : Option Ro) : Prop := ¬ (x = some (90, 0) ∧ y = some (91, 0)) ∧ ¬ (x = some (91, 0) ∧ y = some (90, 0))
theorem WA.stat {ad : Ro → Nat} {H : Heap} {r : Ro} (h : WA D dA B zE ad M H) (hz : ¬ wA B zE.1 ∧ ¬ wA B zE.2) (hr : M r ≠ none) : (r.1 < 90 ∧ wA B (ad r)) ∨ (¬ wA B (ad r) ∧ (r = (90, 0) ∨ r = (91, 0))) := by
  cases er : M r with
  | none => exact absurd er hr
  | some x =>
    rcases h.2.1 r _ er with g | g | g
    · exact Or.inl ⟨g.2, h.1.inA (cW_at (dA := dA) (ad := ad) g.2 er)⟩
    · refine Or.inr ⟨?_, Or.inl g.1⟩
      rw [g.1, h.2.2.1.1]
      exact hz.1
    · refine Or.inr ⟨?_, Or.inr g.1⟩
      rw [g.1, h.2.2.1.2]
      exact hz.2
theorem WA.inj {ad : Ro → Nat} {H : Heap} {a b : Ro} (h : WA D dA B zE ad M H) (hz : ¬ wA B zE.1 ∧ ¬ wA B zE.2) (hs : ns (some a) (some b)) (ha : M a ≠ none) (hb : M b ≠ none) (he : ad a = ad b) : a = b := by
  rcases h.stat hz ha with ga | ga <;> rcases h.stat hz hb with gb | gb
  · cases ea : M a with
    | none => exact absurd ea ha
    | some xa =>
      cases eb : M b with
      | none => exact absurd eb hb
      | some xb =>
        have h1 := cW_at (dA := dA) (ad := ad) ga.1 ea
        have h2 := cW_at (dA := dA) (ad := ad) gb.1 eb
        rw [← he] at h2
        have := h.1.one h1 h2
        exact Prod.ext this.1 this.2
  · exact absurd (he ▸ ga.2) gb.1
  · exact absurd (he.symm ▸ gb.2) ga.1
  · rcases ga.2 with ra | ra <;> rcases gb.2 with rb | rb
    · exact ra.trans rb.symm
    · exact absurd ⟨congrArg some ra, congrArg some rb⟩ hs.1
    · exact absurd ⟨congrArg some ra, congrArg some rb⟩ hs.2
    · exact ra.trans rb.symm
theorem WA.injO {ad : Ro → Nat} {H : Heap} {a b : Option Ro} (h : WA D dA B zE ad M H) (hz : ¬ wA B zE.1 ∧ ¬ wA B zE.2) (hs : ns a b) (ha : lv1 M (vR a)) (hb : lv1 M (vR b)) : a.map ad = b.map ad ↔ a = b := by
  constructor
  · intro he
    cases a with
    | none =>
      cases b with
      | none => rfl
      | some y => exact nomatch he
    | some x =>
      cases b with
      | none => exact nomatch he
      | some y => rw [h.inj hz hs (ha x rfl) (hb y rfl) (Option.some.inj he)]
  · intro he
    rw [he]
theorem aw_acmp_eq (X : Cx p s m args meth c cc nL own Ts D dA B zE) {x y : Option Ro} {off : Int} {tgt : Nat} (hns : ns x y) (hd : decode cc pc = .ok (.if_acmp .eq off, 3)) (ht : (pc : Int) + off = (tgt : Int)) (kt : x = y → AW p l e R s m args below meth c Q D dA B zE nL ad0 M0 M cells slots tgt lv st) (kf : ¬ x = y → AW p l e R s m args below meth c Q D dA B zE nL ad0 M0 M cells slots (pc + 3) lv st) : AW p l e R s m args below meth c Q D dA B zE nL ad0 M0 M cells slots pc lv (vR y :: vR x :: st) := by
  intro ad H locs ls h1 h2 h3 h4 h5 h6 h7
  have hi := h3.injO (gStat_out X.hG.2.2.1) hns h7.tl.hd h7.hd
  exact lv_acmp_eq X.1 X.2.1 hd ht (fun q => kt (hi.mp q) ad H locs ls h1 h2 h3 h4 h5 h6 h7.tl.tl) (fun q => kf (fun z => q (hi.mpr z)) ad H locs ls h1 h2 h3 h4 h5 h6 h7.tl.tl)
theorem aw_acmp_ne (X : Cx p s m args meth c cc nL own Ts D dA B zE) {x y : Option Ro} {off : Int} {tgt : Nat} (hns : ns x y) (hd : decode cc pc = .ok (.if_acmp .ne off, 3)) (ht : (pc : Int) + off = (tgt : Int)) (kt : ¬ x = y → AW p l e R s m args below meth c Q D dA B zE nL ad0 M0 M cells slots tgt lv st) (kf : x = y → AW p l e R s m args below meth c Q D dA B zE nL ad0 M0 M cells slots (pc + 3) lv st) : AW p l e R s m args below meth c Q D dA B zE nL ad0 M0 M cells slots pc lv (vR y :: vR x :: st) := by
  intro ad H locs ls h1 h2 h3 h4 h5 h6 h7
  have hi := h3.injO (gStat_out X.hG.2.2.1) hns h7.tl.hd h7.hd
  exact lv_acmp_ne X.1 X.2.1 hd ht (fun q => kt (fun z => q (hi.mpr z)) ad H locs ls h1 h2 h3 h4 h5 h6 h7.tl.tl) (fun q => kf (hi.mp q) ad H locs ls h1 h2 h3 h4 h5 h6 h7.tl.tl)
/-- the static empty array -/
theorem aw_gets (X : Cx p s m args meth c cc nL own Ts D dA B zE) {index : Nat} {ref : String} (hl : Cond.fieldLink own index ref gsN gsD ∈ Ts) (hr : ref = gsC) (hd : decode cc pc = .ok (.getstatic index, 3)) (k : AW p l e R s m args below meth c Q D dA B zE nL ad0 M0 M cells slots (pc + 3) lv (vR (some (90, 0)) :: st)) : AW p l e R s m args below meth c Q D dA B zE nL ad0 M0 M cells slots pc lv st := by
  subst hr
  intro ad H locs ls h1 h2 h3 h4 h5 h6 h7
  have hk := k ad H locs ls h1 h2 h3 h4 h5 h6 (h7.cn (lv1_R h3.2.2.2.1))
  have e1 : (vR (some (90, 0)) :: st).map (cv ad) = .ref zE.1 :: st.map (cv ad) := by
    show .ref (ad (90, 0)) :: st.map (cv ad) = _
    rw [h3.2.2.1.1]
  rw [e1] at hk
  exact va_gets X.1 X.2.1 X.hG.2.2.1.1 h4 X.hown (X.hts _ hl) (fun _ h => h) hd hk

/-- the class object of Object[] -/
theorem aw_ldcM (X : Cx p s m args meth c cc nL own Ts D dA B zE) {index : Nat} (hl : Cond.classLink own index gsD ∈ Ts) (hd : decode cc pc = .ok (.ldc index, 2)) (k : AW p l e R s m args below meth c Q D dA B zE nL ad0 M0 M cells slots (pc + 2) lv (vR (some (91, 0)) :: st)) : AW p l e R s m args below meth c Q D dA B zE nL ad0 M0 M cells slots pc lv st := by
  intro ad H locs ls h1 h2 h3 h4 h5 h6 h7
  have hk := k ad H locs ls h1 h2 h3 h4 h5 h6 (h7.cn (lv1_R h3.2.2.2.2))
  have e1 : (vR (some (91, 0)) :: st).map (cv ad) = .ref zE.2 :: st.map (cv ad) := by
    show .ref (ad (91, 0)) :: st.map (cv ad) = _
    rw [h3.2.2.1.2]
  rw [e1] at hk
  exact va_ldcM X.1 X.2.1 X.hown (X.hts _ hl) X.hG.2.2.1.2.2.1 hd hk
def gC (M : wM) (o : Option Ro) (K : Prop) : Prop := (∃ (r : Ro) (n : Nat) (f : Nat → Option Ro), o = some r ∧ r.1 < 90 ∧ M r = some (ar 3 n f)) ∧ K
abbrev gcN : MethodName := ⟨"java/lang/Object", "getClass", "()Ljava/lang/Class;"⟩
theorem aw_gC (X : Cx p s m args meth c cc nL own Ts D dA B zE) {index : Nat} (hl : Cond.methodLink own index gcN ∈ Ts) (hde : Cond.declares gcN ∈ nestW) (hse : Cond.selects gsD gcN gcN ∈ Ts) (him : Cond.instanceMethod gcN ∈ Ts) (hna : Cond.native gcN ∈ Ts) (hfr : 1 ≤ R.frames) (hlo : (st.map acat).sum + 14 ≤ R.locals) (hd : decode cc pc = .ok (.invokevirtual index, 3)) {o : Option Ro} (h : gC M o (AW p l e R s m args below meth c Q D dA B zE nL ad0 M0 M cells slots (pc + 3) lv (vR (some (91, 0)) :: st))) : AW p l e R s m args below meth c Q D dA B zE nL ad0 M0 M cells slots pc lv (vR o :: st) := by
  obtain ⟨⟨r, n, f, rfl, hr, hM⟩, k⟩ := h
  intro ad H locs ls h1 h2 h3 h4 h5 h6 h7
  have hk := k ad H locs ls h1 h2 h3 h4 h5 h6 (h7.tl.cn (lv1_R h3.2.2.2.2))
  have e1 : (vR (some (91, 0)) :: st).map (cv ad) = .ref zE.2 :: st.map (cv ad) := by
    show .ref (ad (91, 0)) :: st.map (cv ad) = _
    rw [h3.2.2.1.2]
  rw [e1] at hk
  have hP := h3.1.P (cW_at (dA := dA) (ad := ad) hr hM)
  have hc : H[ad r]? = some (vp_cell (dA 3) (n, .inr (.inr (.inr (.inr (fun j => (f j).map ad)))))) := hP 0 _ rfl
  have hra := (X.hK.2 3 _ (tysA_at (dA := dA) (t := 3) rfl)).2
  obtain ⟨_, _, _, _, _, hf⟩ := hra
  exact va_getC (C := gsD) X.1 X.2.1 (by rw [X.2.2.1]; exact h5.1.symm) X.hown (X.hts _ hl) ((X.hG.2.2.2 _ hde).use (nestW_tab _ hde)) (X.hts _ hse) (X.hts _ him) (X.hts _ hna) X.hG.2.2.1.2.2.1 ⟨_, hc, rfl, hf⟩ hfr (by rw [List.map_map, show (fun v : Value => v.category) ∘ cv ad = acat from funext (cv_cat ad)]; exact hlo) hd hk
def nn (o : Option Ro) (K : Prop) : Prop := (∃ r : Ro, o = some r) ∧ K
theorem aw_objInit (X : Cx p s m args meth c cc nL own Ts D dA B zE) {index : Nat} (hl : Cond.methodLink own index Lib.objectInit ∈ Ts) (him : Cond.instanceMethod Lib.objectInit ∈ Ts) (hco : Cond.code Lib.objectInit ⟨#[0xb1]⟩ 1 none ∈ Ts) (hfr : 1 ≤ R.frames) (hlo : (st.map acat).sum + 12 ≤ R.locals) (hd : decode cc pc = .ok (.invokespecial index, 3)) {r : Ro} (k : AW p l e R s m args below meth c Q D dA B zE nL ad0 M0 M cells slots (pc + 3) lv st) : AW p l e R s m args below meth c Q D dA B zE nL ad0 M0 M cells slots pc lv (vR (some r) :: st) := by
  intro ad H locs ls h1 h2 h3 h4 h5 h6 h7
  refine W.objInit X.1 X.2.1 X.hown (X.hts _ hl) (X.hts _ him) (X.hts _ hco) rfl (by rw [X.2.2.1]; exact h5.1) rfl hd hfr ?_ (k ad H locs ls h1 h2 h3 h4 h5 h6 h7.tl)
  rw [List.map_map, show (fun v : Value => v.category) ∘ cv ad = acat from funext (cv_cat ad)]
  show 2 * 0 + _ + 12 ≤ _
  omega

theorem aw_cpI (X : Cx p s m args meth c cc nL own Ts D dA B zE) {index : Nat} (hl : Cond.methodLink own index arraycopyName ∈ Ts) (hnat : Cond.native arraycopyName ∈ Ts) (hsta : Cond.static arraycopyName ∈ Ts) (hini : Cond.initialized "java/lang/System" ∈ Ts) (hfr : 1 ≤ R.frames) (hlo : (st.map acat).sum + (nativeFrameWords "java/lang/System" "arraycopy" 5 + 11) ≤ R.locals) (hd : decode cc pc = .ok (.invokestatic index, 3)) {o1 o2 : Option Ro} {sp dp n : Int32} (h : cpI M o1 sp o2 dp n (fun M' => AW p l e R s m args below meth c Q D dA B zE nL ad0 M0 M' cells slots (pc + 3) lv st)) : AW p l e R s m args below meth c Q D dA B zE nL ad0 M0 M cells slots pc lv (vI n :: vI dp :: vR o2 :: vI sp :: vR o1 :: st) := by
  obtain ⟨r1, r2, n1, n2, f, g, rfl, rfl, hM1, hM2, g1, g2, g3, g4, g5, g6, g7, kk⟩ := h
  intro ad H locs ls h1 h2 h3 h4 h5 h6 h7
  refine wr_copyi X.1 X.2.1 (by rw [X.2.2.1]; exact h5.1.symm) X.hown (X.hts _ hl) (X.hts _ hnat) (X.hts _ hsta) (X.hts _ hini) X.hK h3.1 h4 0 0 r1.1 r1.2 (cW_at (h3.ra hM1 g6) hM1) r2.1 r2.2 (cW_at (h3.ra hM2 g7) hM2) (tysA_at rfl) (tysA_at rfl) rfl g1 g2 g3 g4 g5 (fun _ _ => rfl) hfr (by rw [List.map_map, show (fun v : Value => v.category) ∘ cv ad = acat from funext (cv_cat ad)]; exact hlo) hd (fun H1 locs1 hw hS => ?_)
  exact kk ad H1 locs1 ls h1 (sb_up h2) (h3.put (e1 := ai 0 n2 (va_cpy f g sp.toNatClampNeg dp.toNatClampNeg n.toNatClampNeg)) (h3.ra hM2 g7) ⟨(h3.2.1.ok hM2 (h3.ra hM2 g7)).1, trivial⟩ hw) hS h5 (h6.sb sb_up1) (h7.tl.tl.tl.tl.tl.sb sb_up1)
theorem aw_cpL (X : Cx p s m args meth c cc nL own Ts D dA B zE) {index : Nat} (hl : Cond.methodLink own index arraycopyName ∈ Ts) (hnat : Cond.native arraycopyName ∈ Ts) (hsta : Cond.static arraycopyName ∈ Ts) (hini : Cond.initialized "java/lang/System" ∈ Ts) (hfr : 1 ≤ R.frames) (hlo : (st.map acat).sum + (nativeFrameWords "java/lang/System" "arraycopy" 5 + 11) ≤ R.locals) (hd : decode cc pc = .ok (.invokestatic index, 3)) {o1 o2 : Option Ro} {sp dp n : Int32} (h : cpL M o1 sp o2 dp n (fun M' => AW p l e R s m args below meth c Q D dA B zE nL ad0 M0 M' cells slots (pc + 3) lv st)) : AW p l e R s m args below meth c Q D dA B zE nL ad0 M0 M cells slots pc lv (vI n :: vI dp :: vR o2 :: vI sp :: vR o1 :: st) := by
  obtain ⟨r1, r2, n1, n2, f, g, rfl, rfl, hM1, hM2, g1, g2, g3, g4, g5, g6, g7, kk⟩ := h
  intro ad H locs ls h1 h2 h3 h4 h5 h6 h7
  refine wr_copyl X.1 X.2.1 (by rw [X.2.2.1]; exact h5.1.symm) X.hown (X.hts _ hl) (X.hts _ hnat) (X.hts _ hsta) (X.hts _ hini) X.hK h3.1 h4 1 1 r1.1 r1.2 (cW_at (h3.ra hM1 g6) hM1) r2.1 r2.2 (cW_at (h3.ra hM2 g7) hM2) (tysA_at rfl) (tysA_at rfl) rfl g1 g2 g3 g4 g5 (fun _ _ => rfl) hfr (by rw [List.map_map, show (fun v : Value => v.category) ∘ cv ad = acat from funext (cv_cat ad)]; exact hlo) hd (fun H1 locs1 hw hS => ?_)
  exact kk ad H1 locs1 ls h1 (sb_up h2) (h3.put (e1 := al 1 n2 (va_cpy f g sp.toNatClampNeg dp.toNatClampNeg n.toNatClampNeg)) (h3.ra hM2 g7) ⟨(h3.2.1.ok hM2 (h3.ra hM2 g7)).1, trivial⟩ hw) hS h5 (h6.sb sb_up1) (h7.tl.tl.tl.tl.tl.sb sb_up1)
theorem va_cpy_map {ad : Ro → Nat} {f g : Nat → Option Ro} {a b n : Nat} : (fun j => (va_cpy f g a b n j).map ad) = va_cpy (fun j => (f j).map ad) (fun j => (g j).map ad) a b n := by
  funext j
  by_cases h : b ≤ j ∧ j < b + n <;> simp [va_cpy, h]
theorem aw_cpR (X : Cx p s m args meth c cc nL own Ts D dA B zE) {index : Nat} (hl : Cond.methodLink own index arraycopyName ∈ Ts) (hnat : Cond.native arraycopyName ∈ Ts) (hsta : Cond.static arraycopyName ∈ Ts) (hini : Cond.initialized "java/lang/System" ∈ Ts) (hfr : 1 ≤ R.frames) (hlo : (st.map acat).sum + (nativeFrameWords "java/lang/System" "arraycopy" 5 + 11) ≤ R.locals) (hd : decode cc pc = .ok (.invokestatic index, 3)) {o1 o2 : Option Ro} {sp dp n : Int32} (h : cpR M o1 sp o2 dp n (fun M' => AW p l e R s m args below meth c Q D dA B zE nL ad0 M0 M' cells slots (pc + 3) lv st)) : AW p l e R s m args below meth c Q D dA B zE nL ad0 M0 M cells slots pc lv (vI n :: vI dp :: vR o2 :: vI sp :: vR o1 :: st) := by
  obtain ⟨r1, r2, t1, t2, n1, n2, ci, f, g, q, E1, E2, rfl, rfl, hM1, hM2, ht1, ht2, hq, hca, g1, g2, g3, g4, g5, g6, g7, hel, kk⟩ := h
  intro ad H locs ls h1 h2 h3 h4 h5 h6 h7
  refine wr_copyq (C := q.1) X.1 X.2.1 (by rw [X.2.2.1]; exact h5.1.symm) X.hown (X.hts _ hl) (X.hts _ hnat) (X.hts _ hsta) (X.hts _ hini) X.hK h3.1 h4 t1 t2 r1.1 r1.2 (cW_at (h3.ra hM1 g6) hM1) r2.1 r2.2 (cW_at (h3.ra hM2 g7) hM2) (tysA_at ht1) (tysA_at ht2) g1 g2 g3 g4 g5 (fun i hi y hy => ?_) (vb_asgC (X.hG.2.2.2 _ hca)) hfr (by rw [List.map_map, show (fun v : Value => v.category) ∘ cv ad = acat from funext (cv_cat ad)]; exact hlo) hd (fun H1 locs1 hw hS => ?_)
  · cases hf : f (sp.toNatClampNeg + i) with
    | none =>
      rw [hf] at hy
      exact nomatch hy
    | some r =>
      rw [hf] at hy
      cases hy
      obtain ⟨fs, hfs⟩ := hel i hi r hf
      exact h3.recv X.hK hq hfs
  · refine kk ad H1 locs1 ls h1 (sb_up h2) (h3.put (e1 := ar t2 n2 (va_cpy f g sp.toNatClampNeg dp.toNatClampNeg n.toNatClampNeg)) (h3.ra hM2 g7) ⟨(h3.2.1.ok hM2 (h3.ra hM2 g7)).1, fun j => ?_⟩ ?_) hS h5 (h6.sb sb_up1) (h7.tl.tl.tl.tl.tl.sb sb_up1)
    · by_cases hj : dp.toNatClampNeg ≤ j ∧ j < dp.toNatClampNeg + n.toNatClampNeg
      · have : va_cpy f g sp.toNatClampNeg dp.toNatClampNeg n.toNatClampNeg j = f (sp.toNatClampNeg + (j - dp.toNatClampNeg)) := by simp [va_cpy, hj]
        rw [this]
        exact ((h3.2.1.ok hM1 (h3.ra hM1 g6)).2 _).sb sb_up1
      · have : va_cpy f g sp.toNatClampNeg dp.toNatClampNeg n.toNatClampNeg j = g j := by simp [va_cpy, hj]
        rw [this]
        exact ((h3.2.1.ok hM2 (h3.ra hM2 g7)).2 _).sb sb_up1
    · show wr D classes (wA B) (w2 (cW dA ad M) r2.1 r2.2 (some (ad r2, Sum.inl (dA t2, n2, Sum.inr (Sum.inr (Sum.inr (Sum.inr (fun j => (va_cpy f g sp.toNatClampNeg dp.toNatClampNeg n.toNatClampNeg j).map ad)))))))) H1
      rw [va_cpy_map]
      exact hw
/-- contracts: the answer and the heap behind, in the method's own words -/
abbrev QI (D : va_G) (dA : Nat → ClassId) (B : Nat) (zE : Nat × Nat) (M : wM) (ad : Ro → Nat) (post : Int32 → wM → Prop) : Array Value → State → Outcome → State → Prop := va_Qi (fun x (u : (Ro → Nat) × wM) => post x u.2 ∧ sb M u.2 ∧ xt M ad u.1) (fun u t => WA D dA B zE u.1 u.2 t.heap) (wA B)
abbrev QL (D : va_G) (dA : Nat → ClassId) (B : Nat) (zE : Nat × Nat) (M : wM) (ad : Ro → Nat) (post : Int64 → wM → Prop) : Array Value → State → Outcome → State → Prop := va_Ql (fun x (u : (Ro → Nat) × wM) => post x u.2 ∧ sb M u.2 ∧ xt M ad u.1) (fun u t => WA D dA B zE u.1 u.2 t.heap) (wA B)
abbrev QV (D : va_G) (dA : Nat → ClassId) (B : Nat) (zE : Nat × Nat) (M : wM) (ad : Ro → Nat) (post : wM → Prop) : Array Value → State → Outcome → State → Prop := va_Qv (fun (u : (Ro → Nat) × wM) => post u.2 ∧ sb M u.2 ∧ xt M ad u.1) (fun u t => WA D dA B zE u.1 u.2 t.heap) (wA B)
abbrev QR (D : va_G) (dA : Nat → ClassId) (B : Nat) (zE : Nat × Nat) (M : wM) (ad : Ro → Nat) (post : Option Ro → wM → Prop) : Array Value → State → Outcome → State → Prop := va_Qq (fun x (u : (Ro → Nat) × wM) => ∃ o : Option Ro, x = o.map u.1 ∧ lv1 u.2 (vR o) ∧ post o u.2 ∧ sb M u.2 ∧ xt M ad u.1) (fun u t => WA D dA B zE u.1 u.2 t.heap) (wA B)
abbrev PA (D : va_G) (dA : Nat → ClassId) (B : Nat) (zE : Nat × Nat) (M : wM) (ad : Ro → Nat) (av : List AV) : Array Value → State → Prop := va_Pc (av.map (cv ad)) (fun U => gP D dA B zE U ∧ WA D dA B zE ad M U.heap)
theorem PA_blind {ad : Ro → Nat} {av : List AV} : FrameBlind (PA D dA B zE M ad av) := fun a U g mk q => ⟨q.1, q.2.1.blind a g mk, q.2.2⟩
theorem PA_pre {ad : Ro → Nat} {av : List AV} {H : Heap} {locs : List Loc} (hG : gP D dA B zE s) (h3 : WA D dA B zE ad M H) (h4 : va_S (wA B) s.heap H locs) : ∀ U : State, U.heap = H → s.WarmedH U.vm → PA D dA B zE M ad av (av.map (cv ad)).toArray U := fun U hU hW => ⟨rfl, hG.call h4 hU hW, by rw [hU]; exact h3⟩
def alv : Nat → List AV → List (Nat × AV)
  | _, [] => []
  | i, v :: vs => (i, v) :: alv (if acat v = 2 then i + 2 else i + 1) vs
theorem alv_cv {ad : Ro → Nat} : ∀ (av : List AV) (i : Nat), lv_args i (av.map (cv ad)) = cvL ad (alv i av)
  | [], _ => rfl
  | v :: vs, i => by
    show (i, cv ad v) :: lv_args (if (cv ad v).category = 2 then i + 2 else i + 1) (vs.map (cv ad)) = _
    rw [cv_cat, alv_cv vs]
    rfl
theorem alv_live {M : wM} : ∀ (av : List AV) (i : Nat), lvS M av → lvL M (alv i av)
  | [], _, _ => fun _ h => nomatch h
  | v :: vs, i, h => fun q hq => by
    rcases List.mem_cons.mp hq with g | g
    · rw [g]
      exact h.hd
    · exact alv_live vs _ h.tl q g
theorem sl_len {ad : Ro → Nat} : ∀ (av : List AV), (lg_sl (av.map (cv ad))).length = (av.map acat).sum
  | [] => rfl
  | v :: vs => by
    show ((if (cv ad v).category = 2 then [Slot.val (cv ad v), Slot.second] else [Slot.val (cv ad v)]) ++ lg_sl (vs.map (cv ad))).length = _
    rw [List.length_append, sl_len vs, cv_cat]
    rcases v with x | x | r <;> simp [acat]
/-- a method's contract out of a walk of its body -/
theorem AW_start {y : MethodName} {ws ws' : List Cond} {rm : Room} {Qc : Array Value → State → Outcome → State → Prop} {mc ms : Nat} {maxL : Nat} {ret : Option FieldType} {ad : Ro → Nat} (av : List AV) (lv0 : List (Nat × AV)) (hlv : lvS M av)
    (hy : plainName y.cls = true) (hw : ws = Cond.code y cc maxL ret :: ws') (hsub : ∀ w ∈ Ts, w ∈ ws) (h0 : alv 0 av = lv0) (hl0 : (av.map acat).sum ≤ maxL)
    (body : ∀ p e s m args below meth c, Cx p s m args meth c cc maxL y.cls Ts D dA B zE → meth.sig.returnType = ret → meth.name = y.name → AW p l e (headSpec ws rm).room s m args below meth c (MQ below Qc args s mc ms (wA B)) D dA B zE maxL ad M M 0 0 0 lv0 []) :
    Met l y ws rm (PA D dA B zE M ad av) Qc mc ms (wA B) := by
  refine Met.ofW hy hw ?_
  intro p e s m args below meth c s₁ BB hml hv
  obtain ⟨rfl, hG, hW⟩ := hv
  have hl := lv_entry (av.map (cv ad)) (n := maxL) (by rw [sl_len]; exact hl0)
  rw [lg_entry_eq]
  rw [alv_cv, h0] at hl
  exact body p e s m _ below meth c ⟨BB.exec, BB.bytes, hml, findClass_of_methodNamed BB.named, fun w h => atoms_spec (ws := ws) BB.pre w (hsub w h), hG, BB.notSynchronized⟩ BB.returns (name_of_methodNamed BB.named BB.method).1 ad s.heap [] _ (fun _ _ => rfl) sb_rf hW va_S.rf hl (h0 ▸ alv_live av 0 hlv) lvS_nil
/-- a method's contract out of a walk of its body -/
theorem AW_startF {y : MethodName} {ws ws' : List Cond} {rm : Room} {Qc : Array Value → State → Outcome → State → Prop} {mc ms : Nat} {maxL : Nat} {ret : Option FieldType} {ad : Ro → Nat} (av : List AV) (lv0 : List (Nat × AV)) (hlv : lvS M av)
    (hy : plainFor y = true) (hw : ws = Cond.code y cc maxL ret :: ws') (hsub : ∀ w ∈ Ts, w ∈ ws) (h0 : alv 0 av = lv0) (hl0 : (av.map acat).sum ≤ maxL)
    (body : ∀ p e s m args below meth c, Cx p s m args meth c cc maxL y.cls Ts D dA B zE → meth.sig.returnType = ret → meth.name = y.name → AW p l e (headSpec ws rm).room s m args below meth c (MQ below Qc args s mc ms (wA B)) D dA B zE maxL ad M M 0 0 0 lv0 []) :
    Met l y ws rm (PA D dA B zE M ad av) Qc mc ms (wA B) := by
  refine va_MetF hy hw ?_
  intro p e s m args below meth c s₁ BB hml hv
  obtain ⟨rfl, hG, hW⟩ := hv
  have hl := lv_entry (av.map (cv ad)) (n := maxL) (by rw [sl_len]; exact hl0)
  rw [lg_entry_eq]
  rw [alv_cv, h0] at hl
  exact body p e s m _ below meth c ⟨BB.exec, BB.bytes, hml, findClass_of_methodNamed BB.named, fun w h => atoms_spec (ws := ws) BB.pre w (hsub w h), hG, BB.notSynchronized⟩ BB.returns (name_of_methodNamed BB.named BB.method).1 ad s.heap [] _ (fun _ _ => rfl) sb_rf hW va_S.rf hl (h0 ▸ alv_live av 0 hlv) lvS_nil

theorem aw_iret (X : Cx p s m args meth c cc nL own Ts D dA B zE) {mc ms : Nat} {post : Int32 → wM → Prop} {x : Int32} (hr : meth.sig.returnType = some .int) (hc : cells ≤ mc) (hs : slots ≤ ms) (hd : decode cc pc = .ok (.ireturn, 1)) (hp : post x M) : AW p l e R s m args below meth c (MQ below (QI D dA B zE M0 ad0 post) args s mc ms (wA B)) D dA B zE nL ad0 M0 M cells slots pc lv [vI x] := by
  intro ad H locs ls h1 h2 h3 h4 h5 h6 h7
  refine W.widen hc hs ?_
  exact W.iret (v := x) X.1 X.2.1 hr (fun t ht hW => ⟨⟨x, (ad, M), rfl, ⟨hp, h2, h1⟩, by subst ht; exact h3⟩, h4.F ht⟩) h4.2.2 hd X.hlk
theorem aw_zret (X : Cx p s m args meth c cc nL own Ts D dA B zE) {mc ms : Nat} {post : Int32 → wM → Prop} {x : Int32} (hr : meth.sig.returnType = some .boolean) (hx : x = 0 ∨ x = 1) (hc : cells ≤ mc) (hs : slots ≤ ms) (hd : decode cc pc = .ok (.ireturn, 1)) (hp : post x M) : AW p l e R s m args below meth c (MQ below (QI D dA B zE M0 ad0 post) args s mc ms (wA B)) D dA B zE nL ad0 M0 M cells slots pc lv [vI x] := by
  intro ad H locs ls h1 h2 h3 h4 h5 h6 h7
  refine W.widen hc hs ?_
  exact W.zret (v := x) X.1 X.2.1 hr (by rcases hx with rfl | rfl <;> rfl) (fun t ht hW => ⟨⟨x, (ad, M), rfl, ⟨hp, h2, h1⟩, by subst ht; exact h3⟩, h4.F ht⟩) h4.2.2 hd X.hlk
theorem aw_lret (X : Cx p s m args meth c cc nL own Ts D dA B zE) {mc ms : Nat} {post : Int64 → wM → Prop} {x : Int64} (hr : meth.sig.returnType = some .long) (hc : cells ≤ mc) (hs : slots ≤ ms) (hd : decode cc pc = .ok (.lreturn, 1)) (hp : post x M) : AW p l e R s m args below meth c (MQ below (QL D dA B zE M0 ad0 post) args s mc ms (wA B)) D dA B zE nL ad0 M0 M cells slots pc lv [vL x] := by
  intro ad H locs ls h1 h2 h3 h4 h5 h6 h7
  refine W.widen hc hs ?_
  exact W.lret (v := x) X.1 X.2.1 hr (fun t ht hW => ⟨⟨x, (ad, M), rfl, ⟨hp, h2, h1⟩, by subst ht; exact h3⟩, h4.F ht⟩) h4.2.2 hd X.hlk
theorem aw_vret (X : Cx p s m args meth c cc nL own Ts D dA B zE) {mc ms : Nat} {post : wM → Prop} (hr : meth.sig.returnType = none) (hc : cells ≤ mc) (hs : slots ≤ ms) (hd : decode cc pc = .ok (.return_, 1)) (hp : post M) : AW p l e R s m args below meth c (MQ below (QV D dA B zE M0 ad0 post) args s mc ms (wA B)) D dA B zE nL ad0 M0 M cells slots pc lv [] := by
  intro ad H locs ls h1 h2 h3 h4 h5 h6 h7
  refine W.widen hc hs ?_
  exact W.vret X.1 X.2.1 hr (fun t ht hW => ⟨⟨(ad, M), rfl, ⟨hp, h2, h1⟩, by subst ht; exact h3⟩, h4.F ht⟩) h4.2.2 hd X.hlk
theorem aw_aret (X : Cx p s m args meth c cc nL own Ts D dA B zE) {mc ms : Nat} {post : Option Ro → wM → Prop} {x : Option Ro} {rt : FieldType} (hr : meth.sig.returnType = some rt) (hrt : (∃ n, rt = .object n) ∨ ∃ t, rt = .array t) (hc : cells ≤ mc) (hs : slots ≤ ms) (hd : decode cc pc = .ok (.areturn, 1)) (hp : post x M) : AW p l e R s m args below meth c (MQ below (QR D dA B zE M0 ad0 post) args s mc ms (wA B)) D dA B zE nL ad0 M0 M cells slots pc lv [vR x] := by
  intro ad H locs ls h1 h2 h3 h4 h5 h6 h7
  refine W.widen hc hs ?_
  exact W.aret (v := va_rf (x.map ad)) X.1 X.2.1 hr hrt (by cases x <;> simp [va_rf]) (fun t ht hW => ⟨⟨x.map ad, (ad, M), rfl, ⟨x, rfl, h7.hd, hp, h2, h1⟩, by subst ht; exact h3⟩, h4.F ht⟩) h4.2.2 hd X.hlk
theorem aw_cVi (X : Cx p s m args meth c cc nL own Ts D dA B zE) {y : MethodName} {bytes : ByteArray} {maxL mc ms n index : Nat} {ret : Option FieldType} {ws : List Cond} {rm : Room} {C : String} {r : Ro} {post : Int32 → wM → Prop} (As : List AV) (hM : ∀ ad : Ro → Nat, lvS M (vR (some r) :: As) → Met l y ws rm (PA D dA B zE M ad (vR (some r) :: As)) (QI D dA B zE M ad post) mc ms (wA B)) (cw : CallW R s args own C index y bytes maxL ret ws rm mc ms n) (hob : ∃ (ci : Nat) (fs : List AV) (q : vw_C), M r = some (ob ci fs) ∧ classes[ci]? = some q ∧ q.1 = C) {st0 : List AV} (hst : st0 = As.reverse ++ vR (some r) :: st) (hn : As.length = n) (hrm : (st.map acat).sum ≤ 8) (hd : decode cc pc = .ok (.invokevirtual index, 3)) (hf : cells + mc ≤ R.cells ∧ slots + ms ≤ R.slots) (k : ∀ x M', post x M' → AW p l e R s m args below meth c Q D dA B zE nL ad0 M0 M' (cells + mc) (slots + ms) (pc + 3) lv (vI x :: st)) : AW p l e R s m args below meth c Q D dA B zE nL ad0 M0 M cells slots pc lv st0 := by
  intro ad H locs ls h1 h2 h3 h4 h5 h6 h7
  have hst7 : lvS M st := fun v hv => h7 v (by rw [hst]; exact List.mem_append_right _ (List.mem_cons_of_mem _ hv))
  have hAs : lvS M (vR (some r) :: As) := fun v hv => h7 v (by rw [hst]; rcases List.mem_cons.mp hv with g | g; exact List.mem_append_right _ (g ▸ List.mem_cons_self); exact List.mem_append_left _ (List.mem_reverse.mpr g))
  have hstk : st0.map (cv ad) = (As.map (cv ad)).reverse ++ .ref (ad r) :: st.map (cv ad) := by rw [hst, List.map_append, List.map_reverse]; rfl
  obtain ⟨ci, fs, q, hMr, hq, hqC⟩ := hob
  refine va_calli (va_runV (As := As.map (cv ad)) (rest := st.map (cv ad)) ⟨X.1, X.2.1, X.2.2.1, X.hown, X.hts⟩ (hM ad hAs) cw ⟨PA_blind, hqC ▸ h3.recv X.hK hq hMr, PA_pre X.hG h3 h4⟩ rfl (by rw [List.length_map]; exact hn) h5.1 hstk (lv_room (by rw [List.map_map, show (fun v : Value => v.category) ∘ cv ad = acat from funext (cv_cat ad)]; exact hrm)) hd hf) h4 (fun q _ h => h) (fun q h => h) (fun x u t H1 locs1 ht hvm hp hB hz hk hS => ?_)
  obtain ⟨hp1, hp2, hp3⟩ := hp
  have hk := k x u.2 hp1 u.1 H1 locs1 ls (fun z hz => (hp3 z (h2 z hz)).trans (h1 z hz)) (sb_tr h2 hp2) (by rw [← ht]; exact hB) hS (by rw [cvL_xt hp3 h6]; exact h5) (h6.sb hp2) (hst7.sb hp2).ni
  have e1 : (vI x :: st).map (cv u.1) = .int x :: st.map (cv ad) := by rw [List.map_cons, cvs_xt hp3 hst7]; rfl
  rw [e1] at hk
  exact hk
theorem aw_cVl (X : Cx p s m args meth c cc nL own Ts D dA B zE) {y : MethodName} {bytes : ByteArray} {maxL mc ms n index : Nat} {ret : Option FieldType} {ws : List Cond} {rm : Room} {C : String} {r : Ro} {post : Int64 → wM → Prop} (As : List AV) (hM : ∀ ad : Ro → Nat, lvS M (vR (some r) :: As) → Met l y ws rm (PA D dA B zE M ad (vR (some r) :: As)) (QL D dA B zE M ad post) mc ms (wA B)) (cw : CallW R s args own C index y bytes maxL ret ws rm mc ms n) (hob : ∃ (ci : Nat) (fs : List AV) (q : vw_C), M r = some (ob ci fs) ∧ classes[ci]? = some q ∧ q.1 = C) {st0 : List AV} (hst : st0 = As.reverse ++ vR (some r) :: st) (hn : As.length = n) (hrm : (st.map acat).sum ≤ 8) (hd : decode cc pc = .ok (.invokevirtual index, 3)) (hf : cells + mc ≤ R.cells ∧ slots + ms ≤ R.slots) (k : ∀ x M', post x M' → AW p l e R s m args below meth c Q D dA B zE nL ad0 M0 M' (cells + mc) (slots + ms) (pc + 3) lv (vL x :: st)) : AW p l e R s m args below meth c Q D dA B zE nL ad0 M0 M cells slots pc lv st0 := by
  intro ad H locs ls h1 h2 h3 h4 h5 h6 h7
  have hst7 : lvS M st := fun v hv => h7 v (by rw [hst]; exact List.mem_append_right _ (List.mem_cons_of_mem _ hv))
  have hAs : lvS M (vR (some r) :: As) := fun v hv => h7 v (by rw [hst]; rcases List.mem_cons.mp hv with g | g; exact List.mem_append_right _ (g ▸ List.mem_cons_self); exact List.mem_append_left _ (List.mem_reverse.mpr g))
  have hstk : st0.map (cv ad) = (As.map (cv ad)).reverse ++ .ref (ad r) :: st.map (cv ad) := by rw [hst, List.map_append, List.map_reverse]; rfl
  obtain ⟨ci, fs, q, hMr, hq, hqC⟩ := hob
  refine va_calll (va_runV (As := As.map (cv ad)) (rest := st.map (cv ad)) ⟨X.1, X.2.1, X.2.2.1, X.hown, X.hts⟩ (hM ad hAs) cw ⟨PA_blind, hqC ▸ h3.recv X.hK hq hMr, PA_pre X.hG h3 h4⟩ rfl (by rw [List.length_map]; exact hn) h5.1 hstk (lv_room (by rw [List.map_map, show (fun v : Value => v.category) ∘ cv ad = acat from funext (cv_cat ad)]; exact hrm)) hd hf) h4 (fun q _ h => h) (fun q h => h) (fun x u t H1 locs1 ht hvm hp hB hz hk hS => ?_)
  obtain ⟨hp1, hp2, hp3⟩ := hp
  have hk := k x u.2 hp1 u.1 H1 locs1 ls (fun z hz => (hp3 z (h2 z hz)).trans (h1 z hz)) (sb_tr h2 hp2) (by rw [← ht]; exact hB) hS (by rw [cvL_xt hp3 h6]; exact h5) (h6.sb hp2) (hst7.sb hp2).nl
  have e1 : (vL x :: st).map (cv u.1) = .long x :: st.map (cv ad) := by rw [List.map_cons, cvs_xt hp3 hst7]; rfl
  rw [e1] at hk
  exact hk
theorem aw_cVv (X : Cx p s m args meth c cc nL own Ts D dA B zE) {y : MethodName} {bytes : ByteArray} {maxL mc ms n index : Nat} {ret : Option FieldType} {ws : List Cond} {rm : Room} {C : String} {r : Ro} {post : wM → Prop} (As : List AV) (hM : ∀ ad : Ro → Nat, lvS M (vR (some r) :: As) → Met l y ws rm (PA D dA B zE M ad (vR (some r) :: As)) (QV D dA B zE M ad post) mc ms (wA B)) (cw : CallW R s args own C index y bytes maxL ret ws rm mc ms n) (hob : ∃ (ci : Nat) (fs : List AV) (q : vw_C), M r = some (ob ci fs) ∧ classes[ci]? = some q ∧ q.1 = C) {st0 : List AV} (hst : st0 = As.reverse ++ vR (some r) :: st) (hn : As.length = n) (hrm : (st.map acat).sum ≤ 8) (hd : decode cc pc = .ok (.invokevirtual index, 3)) (hf : cells + mc ≤ R.cells ∧ slots + ms ≤ R.slots) (k : ∀ M', post M' → AW p l e R s m args below meth c Q D dA B zE nL ad0 M0 M' (cells + mc) (slots + ms) (pc + 3) lv (st)) : AW p l e R s m args below meth c Q D dA B zE nL ad0 M0 M cells slots pc lv st0 := by
  intro ad H locs ls h1 h2 h3 h4 h5 h6 h7
  have hst7 : lvS M st := fun v hv => h7 v (by rw [hst]; exact List.mem_append_right _ (List.mem_cons_of_mem _ hv))
  have hAs : lvS M (vR (some r) :: As) := fun v hv => h7 v (by rw [hst]; rcases List.mem_cons.mp hv with g | g; exact List.mem_append_right _ (g ▸ List.mem_cons_self); exact List.mem_append_left _ (List.mem_reverse.mpr g))
  have hstk : st0.map (cv ad) = (As.map (cv ad)).reverse ++ .ref (ad r) :: st.map (cv ad) := by rw [hst, List.map_append, List.map_reverse]; rfl
  obtain ⟨ci, fs, q, hMr, hq, hqC⟩ := hob
  refine va_callv (va_runV (As := As.map (cv ad)) (rest := st.map (cv ad)) ⟨X.1, X.2.1, X.2.2.1, X.hown, X.hts⟩ (hM ad hAs) cw ⟨PA_blind, hqC ▸ h3.recv X.hK hq hMr, PA_pre X.hG h3 h4⟩ rfl (by rw [List.length_map]; exact hn) h5.1 hstk (lv_room (by rw [List.map_map, show (fun v : Value => v.category) ∘ cv ad = acat from funext (cv_cat ad)]; exact hrm)) hd hf) h4 (fun q _ h => h) (fun q h => h) (fun u t H1 locs1 ht hvm hp hB hz hk hS => ?_)
  obtain ⟨hp1, hp2, hp3⟩ := hp
  have hk := k u.2 hp1 u.1 H1 locs1 ls (fun z hz => (hp3 z (h2 z hz)).trans (h1 z hz)) (sb_tr h2 hp2) (by rw [← ht]; exact hB) hS (by rw [cvL_xt hp3 h6]; exact h5) (h6.sb hp2) (hst7.sb hp2)
  have e1 : st.map (cv u.1) = st.map (cv ad) := cvs_xt hp3 hst7
  rw [e1] at hk
  exact hk
theorem aw_cVr (X : Cx p s m args meth c cc nL own Ts D dA B zE) {y : MethodName} {bytes : ByteArray} {maxL mc ms n index : Nat} {ret : Option FieldType} {ws : List Cond} {rm : Room} {C : String} {r : Ro} {post : Option Ro → wM → Prop} (As : List AV) (hM : ∀ ad : Ro → Nat, lvS M (vR (some r) :: As) → Met l y ws rm (PA D dA B zE M ad (vR (some r) :: As)) (QR D dA B zE M ad post) mc ms (wA B)) (cw : CallW R s args own C index y bytes maxL ret ws rm mc ms n) (hob : ∃ (ci : Nat) (fs : List AV) (q : vw_C), M r = some (ob ci fs) ∧ classes[ci]? = some q ∧ q.1 = C) {st0 : List AV} (hst : st0 = As.reverse ++ vR (some r) :: st) (hn : As.length = n) (hrm : (st.map acat).sum ≤ 8) (hd : decode cc pc = .ok (.invokevirtual index, 3)) (hf : cells + mc ≤ R.cells ∧ slots + ms ≤ R.slots) (k : ∀ x M', post x M' → AW p l e R s m args below meth c Q D dA B zE nL ad0 M0 M' (cells + mc) (slots + ms) (pc + 3) lv (vR x :: st)) : AW p l e R s m args below meth c Q D dA B zE nL ad0 M0 M cells slots pc lv st0 := by
  intro ad H locs ls h1 h2 h3 h4 h5 h6 h7
  have hst7 : lvS M st := fun v hv => h7 v (by rw [hst]; exact List.mem_append_right _ (List.mem_cons_of_mem _ hv))
  have hAs : lvS M (vR (some r) :: As) := fun v hv => h7 v (by rw [hst]; rcases List.mem_cons.mp hv with g | g; exact List.mem_append_right _ (g ▸ List.mem_cons_self); exact List.mem_append_left _ (List.mem_reverse.mpr g))
  have hstk : st0.map (cv ad) = (As.map (cv ad)).reverse ++ .ref (ad r) :: st.map (cv ad) := by rw [hst, List.map_append, List.map_reverse]; rfl
  obtain ⟨ci, fs, q, hMr, hq, hqC⟩ := hob
  refine va_callq (va_runV (As := As.map (cv ad)) (rest := st.map (cv ad)) ⟨X.1, X.2.1, X.2.2.1, X.hown, X.hts⟩ (hM ad hAs) cw ⟨PA_blind, hqC ▸ h3.recv X.hK hq hMr, PA_pre X.hG h3 h4⟩ rfl (by rw [List.length_map]; exact hn) h5.1 hstk (lv_room (by rw [List.map_map, show (fun v : Value => v.category) ∘ cv ad = acat from funext (cv_cat ad)]; exact hrm)) hd hf) h4 (fun q _ h => h) (fun q h => h) (fun x u t H1 locs1 ht hvm hp hB hz hk hS => ?_)
  obtain ⟨o, ho, hlo, hp1, hp2, hp3⟩ := hp
  have hk := k o u.2 hp1 u.1 H1 locs1 ls (fun z hz => (hp3 z (h2 z hz)).trans (h1 z hz)) (sb_tr h2 hp2) (by rw [← ht]; exact hB) hS (by rw [cvL_xt hp3 h6]; exact h5) (h6.sb hp2) ((hst7.sb hp2).cn hlo)
  have e1 : (vR o :: st).map (cv u.1) = va_rf x :: st.map (cv ad) := by rw [List.map_cons, cvs_xt hp3 hst7, ho]; rfl
  rw [e1] at hk
  exact hk
theorem aw_cSi (X : Cx p s m args meth c cc nL own Ts D dA B zE) {y : MethodName} {bytes : ByteArray} {maxL mc ms n index : Nat} {ret : Option FieldType} {ws : List Cond} {rm : Room} {post : Int32 → wM → Prop} (As : List AV) (hM : ∀ ad : Ro → Nat, lvS M (As) → Met l y ws rm (PA D dA B zE M ad (As)) (QI D dA B zE M ad post) mc ms (wA B)) (cw : CallB R s args own index y bytes maxL ret ws rm mc ms n ∧ (Cond.static y).before args s = true) {st0 : List AV} (hst : st0 = As.reverse ++ st) (hn : As.length = n) (hrm : (st.map acat).sum ≤ 8) (hd : decode cc pc = .ok (.invokestatic index, 3)) (hf : cells + mc ≤ R.cells ∧ slots + ms ≤ R.slots) (k : ∀ x M', post x M' → AW p l e R s m args below meth c Q D dA B zE nL ad0 M0 M' (cells + mc) (slots + ms) (pc + 3) lv (vI x :: st)) : AW p l e R s m args below meth c Q D dA B zE nL ad0 M0 M cells slots pc lv st0 := by
  intro ad H locs ls h1 h2 h3 h4 h5 h6 h7
  have hst7 : lvS M st := fun v hv => h7 v (by rw [hst]; exact List.mem_append_right _ hv)
  have hAs : lvS M As := fun v hv => h7 v (by rw [hst]; exact List.mem_append_left _ (List.mem_reverse.mpr hv))
  have hstk : st0.map (cv ad) = (As.map (cv ad)).reverse ++ st.map (cv ad) := by rw [hst, List.map_append, List.map_reverse]
  refine va_calli (va_runS (As := As.map (cv ad)) (rest := st.map (cv ad)) ⟨X.1, X.2.1, X.2.2.1, X.hown, X.hts⟩ (hM ad hAs) cw ⟨PA_blind, PA_pre X.hG h3 h4⟩ rfl (by rw [List.length_map]; exact hn) h5.1 hstk (lv_room (by rw [List.map_map, show (fun v : Value => v.category) ∘ cv ad = acat from funext (cv_cat ad)]; exact hrm)) hd hf) h4 (fun q _ h => h) (fun q h => h) (fun x u t H1 locs1 ht hvm hp hB hz hk hS => ?_)
  obtain ⟨hp1, hp2, hp3⟩ := hp
  have hk := k x u.2 hp1 u.1 H1 locs1 ls (fun z hz => (hp3 z (h2 z hz)).trans (h1 z hz)) (sb_tr h2 hp2) (by rw [← ht]; exact hB) hS (by rw [cvL_xt hp3 h6]; exact h5) (h6.sb hp2) (hst7.sb hp2).ni
  have e1 : (vI x :: st).map (cv u.1) = .int x :: st.map (cv ad) := by rw [List.map_cons, cvs_xt hp3 hst7]; rfl
  rw [e1] at hk
  exact hk
theorem aw_cSl (X : Cx p s m args meth c cc nL own Ts D dA B zE) {y : MethodName} {bytes : ByteArray} {maxL mc ms n index : Nat} {ret : Option FieldType} {ws : List Cond} {rm : Room} {post : Int64 → wM → Prop} (As : List AV) (hM : ∀ ad : Ro → Nat, lvS M (As) → Met l y ws rm (PA D dA B zE M ad (As)) (QL D dA B zE M ad post) mc ms (wA B)) (cw : CallB R s args own index y bytes maxL ret ws rm mc ms n ∧ (Cond.static y).before args s = true) {st0 : List AV} (hst : st0 = As.reverse ++ st) (hn : As.length = n) (hrm : (st.map acat).sum ≤ 8) (hd : decode cc pc = .ok (.invokestatic index, 3)) (hf : cells + mc ≤ R.cells ∧ slots + ms ≤ R.slots) (k : ∀ x M', post x M' → AW p l e R s m args below meth c Q D dA B zE nL ad0 M0 M' (cells + mc) (slots + ms) (pc + 3) lv (vL x :: st)) : AW p l e R s m args below meth c Q D dA B zE nL ad0 M0 M cells slots pc lv st0 := by
  intro ad H locs ls h1 h2 h3 h4 h5 h6 h7
  have hst7 : lvS M st := fun v hv => h7 v (by rw [hst]; exact List.mem_append_right _ hv)
  have hAs : lvS M As := fun v hv => h7 v (by rw [hst]; exact List.mem_append_left _ (List.mem_reverse.mpr hv))
  have hstk : st0.map (cv ad) = (As.map (cv ad)).reverse ++ st.map (cv ad) := by rw [hst, List.map_append, List.map_reverse]
  refine va_calll (va_runS (As := As.map (cv ad)) (rest := st.map (cv ad)) ⟨X.1, X.2.1, X.2.2.1, X.hown, X.hts⟩ (hM ad hAs) cw ⟨PA_blind, PA_pre X.hG h3 h4⟩ rfl (by rw [List.length_map]; exact hn) h5.1 hstk (lv_room (by rw [List.map_map, show (fun v : Value => v.category) ∘ cv ad = acat from funext (cv_cat ad)]; exact hrm)) hd hf) h4 (fun q _ h => h) (fun q h => h) (fun x u t H1 locs1 ht hvm hp hB hz hk hS => ?_)
  obtain ⟨hp1, hp2, hp3⟩ := hp
  have hk := k x u.2 hp1 u.1 H1 locs1 ls (fun z hz => (hp3 z (h2 z hz)).trans (h1 z hz)) (sb_tr h2 hp2) (by rw [← ht]; exact hB) hS (by rw [cvL_xt hp3 h6]; exact h5) (h6.sb hp2) (hst7.sb hp2).nl
  have e1 : (vL x :: st).map (cv u.1) = .long x :: st.map (cv ad) := by rw [List.map_cons, cvs_xt hp3 hst7]; rfl
  rw [e1] at hk
  exact hk
theorem aw_cSv (X : Cx p s m args meth c cc nL own Ts D dA B zE) {y : MethodName} {bytes : ByteArray} {maxL mc ms n index : Nat} {ret : Option FieldType} {ws : List Cond} {rm : Room} {post : wM → Prop} (As : List AV) (hM : ∀ ad : Ro → Nat, lvS M (As) → Met l y ws rm (PA D dA B zE M ad (As)) (QV D dA B zE M ad post) mc ms (wA B)) (cw : CallB R s args own index y bytes maxL ret ws rm mc ms n ∧ (Cond.static y).before args s = true) {st0 : List AV} (hst : st0 = As.reverse ++ st) (hn : As.length = n) (hrm : (st.map acat).sum ≤ 8) (hd : decode cc pc = .ok (.invokestatic index, 3)) (hf : cells + mc ≤ R.cells ∧ slots + ms ≤ R.slots) (k : ∀ M', post M' → AW p l e R s m args below meth c Q D dA B zE nL ad0 M0 M' (cells + mc) (slots + ms) (pc + 3) lv (st)) : AW p l e R s m args below meth c Q D dA B zE nL ad0 M0 M cells slots pc lv st0 := by
  intro ad H locs ls h1 h2 h3 h4 h5 h6 h7
  have hst7 : lvS M st := fun v hv => h7 v (by rw [hst]; exact List.mem_append_right _ hv)
  have hAs : lvS M As := fun v hv => h7 v (by rw [hst]; exact List.mem_append_left _ (List.mem_reverse.mpr hv))
  have hstk : st0.map (cv ad) = (As.map (cv ad)).reverse ++ st.map (cv ad) := by rw [hst, List.map_append, List.map_reverse]
  refine va_callv (va_runS (As := As.map (cv ad)) (rest := st.map (cv ad)) ⟨X.1, X.2.1, X.2.2.1, X.hown, X.hts⟩ (hM ad hAs) cw ⟨PA_blind, PA_pre X.hG h3 h4⟩ rfl (by rw [List.length_map]; exact hn) h5.1 hstk (lv_room (by rw [List.map_map, show (fun v : Value => v.category) ∘ cv ad = acat from funext (cv_cat ad)]; exact hrm)) hd hf) h4 (fun q _ h => h) (fun q h => h) (fun u t H1 locs1 ht hvm hp hB hz hk hS => ?_)
  obtain ⟨hp1, hp2, hp3⟩ := hp
  have hk := k u.2 hp1 u.1 H1 locs1 ls (fun z hz => (hp3 z (h2 z hz)).trans (h1 z hz)) (sb_tr h2 hp2) (by rw [← ht]; exact hB) hS (by rw [cvL_xt hp3 h6]; exact h5) (h6.sb hp2) (hst7.sb hp2)
  have e1 : st.map (cv u.1) = st.map (cv ad) := cvs_xt hp3 hst7
  rw [e1] at hk
  exact hk
theorem aw_cSr (X : Cx p s m args meth c cc nL own Ts D dA B zE) {y : MethodName} {bytes : ByteArray} {maxL mc ms n index : Nat} {ret : Option FieldType} {ws : List Cond} {rm : Room} {post : Option Ro → wM → Prop} (As : List AV) (hM : ∀ ad : Ro → Nat, lvS M (As) → Met l y ws rm (PA D dA B zE M ad (As)) (QR D dA B zE M ad post) mc ms (wA B)) (cw : CallB R s args own index y bytes maxL ret ws rm mc ms n ∧ (Cond.static y).before args s = true) {st0 : List AV} (hst : st0 = As.reverse ++ st) (hn : As.length = n) (hrm : (st.map acat).sum ≤ 8) (hd : decode cc pc = .ok (.invokestatic index, 3)) (hf : cells + mc ≤ R.cells ∧ slots + ms ≤ R.slots) (k : ∀ x M', post x M' → AW p l e R s m args below meth c Q D dA B zE nL ad0 M0 M' (cells + mc) (slots + ms) (pc + 3) lv (vR x :: st)) : AW p l e R s m args below meth c Q D dA B zE nL ad0 M0 M cells slots pc lv st0 := by
  intro ad H locs ls h1 h2 h3 h4 h5 h6 h7
  have hst7 : lvS M st := fun v hv => h7 v (by rw [hst]; exact List.mem_append_right _ hv)
  have hAs : lvS M As := fun v hv => h7 v (by rw [hst]; exact List.mem_append_left _ (List.mem_reverse.mpr hv))
  have hstk : st0.map (cv ad) = (As.map (cv ad)).reverse ++ st.map (cv ad) := by rw [hst, List.map_append, List.map_reverse]
  refine va_callq (va_runS (As := As.map (cv ad)) (rest := st.map (cv ad)) ⟨X.1, X.2.1, X.2.2.1, X.hown, X.hts⟩ (hM ad hAs) cw ⟨PA_blind, PA_pre X.hG h3 h4⟩ rfl (by rw [List.length_map]; exact hn) h5.1 hstk (lv_room (by rw [List.map_map, show (fun v : Value => v.category) ∘ cv ad = acat from funext (cv_cat ad)]; exact hrm)) hd hf) h4 (fun q _ h => h) (fun q h => h) (fun x u t H1 locs1 ht hvm hp hB hz hk hS => ?_)
  obtain ⟨o, ho, hlo, hp1, hp2, hp3⟩ := hp
  have hk := k o u.2 hp1 u.1 H1 locs1 ls (fun z hz => (hp3 z (h2 z hz)).trans (h1 z hz)) (sb_tr h2 hp2) (by rw [← ht]; exact hB) hS (by rw [cvL_xt hp3 h6]; exact h5) (h6.sb hp2) ((hst7.sb hp2).cn hlo)
  have e1 : (vR o :: st).map (cv u.1) = va_rf x :: st.map (cv ad) := by rw [List.map_cons, cvs_xt hp3 hst7, ho]; rfl
  rw [e1] at hk
  exact hk
theorem aw_cIv (X : Cx p s m args meth c cc nL own Ts D dA B zE) {y : MethodName} {bytes : ByteArray} {maxL mc ms n index : Nat} {ws : List Cond} {rm : Room} {r : Ro} {post : wM → Prop} (As : List AV) (hM : ∀ ad : Ro → Nat, lvS M (vR (some r) :: As) → Met l y ws rm (PA D dA B zE M ad (vR (some r) :: As)) (QV D dA B zE M ad post) mc ms (wA B)) (cw : CallB R s args own index y bytes maxL none ws rm mc ms n ∧ y.name = "<init>" ∧ (Cond.instanceMethod y).before args s = true) {st0 : List AV} (hst : st0 = As.reverse ++ vR (some r) :: st) (hn : As.length = n) (hrm : (st.map acat).sum ≤ 8) (hd : decode cc pc = .ok (.invokespecial index, 3)) (hf : cells + mc ≤ R.cells ∧ slots + ms ≤ R.slots) (k : ∀ M', post M' → AW p l e R s m args below meth c Q D dA B zE nL ad0 M0 M' (cells + mc) (slots + ms) (pc + 3) lv (st)) : AW p l e R s m args below meth c Q D dA B zE nL ad0 M0 M cells slots pc lv st0 := by
  intro ad H locs ls h1 h2 h3 h4 h5 h6 h7
  have hst7 : lvS M st := fun v hv => h7 v (by rw [hst]; exact List.mem_append_right _ (List.mem_cons_of_mem _ hv))
  have hAs : lvS M (vR (some r) :: As) := fun v hv => h7 v (by rw [hst]; rcases List.mem_cons.mp hv with g | g; exact List.mem_append_right _ (g ▸ List.mem_cons_self); exact List.mem_append_left _ (List.mem_reverse.mpr g))
  have hstk : st0.map (cv ad) = (As.map (cv ad)).reverse ++ .ref (ad r) :: st.map (cv ad) := by rw [hst, List.map_append, List.map_reverse]; rfl
  refine va_callv (va_runI (As := As.map (cv ad)) (rest := st.map (cv ad)) ⟨X.1, X.2.1, X.2.2.1, X.hown, X.hts⟩ (hM ad hAs) cw ⟨PA_blind, PA_pre X.hG h3 h4⟩ rfl (by rw [List.length_map]; exact hn) h5.1 hstk (lv_room (by rw [List.map_map, show (fun v : Value => v.category) ∘ cv ad = acat from funext (cv_cat ad)]; exact hrm)) hd hf) h4 (fun q _ h => h) (fun q h => h) (fun u t H1 locs1 ht hvm hp hB hz hk hS => ?_)
  obtain ⟨hp1, hp2, hp3⟩ := hp
  have hk := k u.2 hp1 u.1 H1 locs1 ls (fun z hz => (hp3 z (h2 z hz)).trans (h1 z hz)) (sb_tr h2 hp2) (by rw [← ht]; exact hB) hS (by rw [cvL_xt hp3 h6]; exact h5) (h6.sb hp2) (hst7.sb hp2)
  have e1 : st.map (cv u.1) = st.map (cv ad) := cvs_xt hp3 hst7
  rw [e1] at hk
  exact hk
theorem aw_cVNi (X : Cx p s m args meth c cc nL own Ts D dA B zE) {y : MethodName} {bytes : ByteArray} {maxL mc ms n index : Nat} {ret : Option FieldType} {ws : List Cond} {rm : Room} {C : String} {host : String} {r : Ro} {post : Int32 → wM → Prop} (As : List AV) (hM : ∀ ad : Ro → Nat, lvS M (vR (some r) :: As) → Met l y ws rm (PA D dA B zE M ad (vR (some r) :: As)) (QI D dA B zE M ad post) mc ms (wA B)) (cw : va_CN R s args own index y host bytes maxL ret ws rm mc ms n ∧ (Cond.instanceMethod y).before args s = true ∧ (Cond.selects C y y).before args s = true) (hob : ∃ (ci : Nat) (fs : List AV) (q : vw_C), M r = some (ob ci fs) ∧ classes[ci]? = some q ∧ q.1 = C) {st0 : List AV} (hst : st0 = As.reverse ++ vR (some r) :: st) (hn : As.length = n) (hrm : (st.map acat).sum ≤ 8) (hd : decode cc pc = .ok (.invokevirtual index, 3)) (hf : cells + mc ≤ R.cells ∧ slots + ms ≤ R.slots) (k : ∀ x M', post x M' → AW p l e R s m args below meth c Q D dA B zE nL ad0 M0 M' (cells + mc) (slots + ms) (pc + 3) lv (vI x :: st)) : AW p l e R s m args below meth c Q D dA B zE nL ad0 M0 M cells slots pc lv st0 := by
  intro ad H locs ls h1 h2 h3 h4 h5 h6 h7
  have hst7 : lvS M st := fun v hv => h7 v (by rw [hst]; exact List.mem_append_right _ (List.mem_cons_of_mem _ hv))
  have hAs : lvS M (vR (some r) :: As) := fun v hv => h7 v (by rw [hst]; rcases List.mem_cons.mp hv with g | g; exact List.mem_append_right _ (g ▸ List.mem_cons_self); exact List.mem_append_left _ (List.mem_reverse.mpr g))
  have hstk : st0.map (cv ad) = (As.map (cv ad)).reverse ++ .ref (ad r) :: st.map (cv ad) := by rw [hst, List.map_append, List.map_reverse]; rfl
  obtain ⟨ci, fs, q, hMr, hq, hqC⟩ := hob
  refine va_calli (va_runVN (As := As.map (cv ad)) (rest := st.map (cv ad)) ⟨X.1, X.2.1, X.2.2.1, X.hown, X.hts⟩ (hM ad hAs) cw ⟨PA_blind, hqC ▸ h3.recv X.hK hq hMr, PA_pre X.hG h3 h4⟩ rfl (by rw [List.length_map]; exact hn) h5.1 hstk (lv_room (by rw [List.map_map, show (fun v : Value => v.category) ∘ cv ad = acat from funext (cv_cat ad)]; exact hrm)) hd hf) h4 (fun q _ h => h) (fun q h => h) (fun x u t H1 locs1 ht hvm hp hB hz hk hS => ?_)
  obtain ⟨hp1, hp2, hp3⟩ := hp
  have hk := k x u.2 hp1 u.1 H1 locs1 ls (fun z hz => (hp3 z (h2 z hz)).trans (h1 z hz)) (sb_tr h2 hp2) (by rw [← ht]; exact hB) hS (by rw [cvL_xt hp3 h6]; exact h5) (h6.sb hp2) (hst7.sb hp2).ni
  have e1 : (vI x :: st).map (cv u.1) = .int x :: st.map (cv ad) := by rw [List.map_cons, cvs_xt hp3 hst7]; rfl
  rw [e1] at hk
  exact hk
theorem aw_cVNl (X : Cx p s m args meth c cc nL own Ts D dA B zE) {y : MethodName} {bytes : ByteArray} {maxL mc ms n index : Nat} {ret : Option FieldType} {ws : List Cond} {rm : Room} {C : String} {host : String} {r : Ro} {post : Int64 → wM → Prop} (As : List AV) (hM : ∀ ad : Ro → Nat, lvS M (vR (some r) :: As) → Met l y ws rm (PA D dA B zE M ad (vR (some r) :: As)) (QL D dA B zE M ad post) mc ms (wA B)) (cw : va_CN R s args own index y host bytes maxL ret ws rm mc ms n ∧ (Cond.instanceMethod y).before args s = true ∧ (Cond.selects C y y).before args s = true) (hob : ∃ (ci : Nat) (fs : List AV) (q : vw_C), M r = some (ob ci fs) ∧ classes[ci]? = some q ∧ q.1 = C) {st0 : List AV} (hst : st0 = As.reverse ++ vR (some r) :: st) (hn : As.length = n) (hrm : (st.map acat).sum ≤ 8) (hd : decode cc pc = .ok (.invokevirtual index, 3)) (hf : cells + mc ≤ R.cells ∧ slots + ms ≤ R.slots) (k : ∀ x M', post x M' → AW p l e R s m args below meth c Q D dA B zE nL ad0 M0 M' (cells + mc) (slots + ms) (pc + 3) lv (vL x :: st)) : AW p l e R s m args below meth c Q D dA B zE nL ad0 M0 M cells slots pc lv st0 := by
  intro ad H locs ls h1 h2 h3 h4 h5 h6 h7
  have hst7 : lvS M st := fun v hv => h7 v (by rw [hst]; exact List.mem_append_right _ (List.mem_cons_of_mem _ hv))
  have hAs : lvS M (vR (some r) :: As) := fun v hv => h7 v (by rw [hst]; rcases List.mem_cons.mp hv with g | g; exact List.mem_append_right _ (g ▸ List.mem_cons_self); exact List.mem_append_left _ (List.mem_reverse.mpr g))
  have hstk : st0.map (cv ad) = (As.map (cv ad)).reverse ++ .ref (ad r) :: st.map (cv ad) := by rw [hst, List.map_append, List.map_reverse]; rfl
  obtain ⟨ci, fs, q, hMr, hq, hqC⟩ := hob
  refine va_calll (va_runVN (As := As.map (cv ad)) (rest := st.map (cv ad)) ⟨X.1, X.2.1, X.2.2.1, X.hown, X.hts⟩ (hM ad hAs) cw ⟨PA_blind, hqC ▸ h3.recv X.hK hq hMr, PA_pre X.hG h3 h4⟩ rfl (by rw [List.length_map]; exact hn) h5.1 hstk (lv_room (by rw [List.map_map, show (fun v : Value => v.category) ∘ cv ad = acat from funext (cv_cat ad)]; exact hrm)) hd hf) h4 (fun q _ h => h) (fun q h => h) (fun x u t H1 locs1 ht hvm hp hB hz hk hS => ?_)
  obtain ⟨hp1, hp2, hp3⟩ := hp
  have hk := k x u.2 hp1 u.1 H1 locs1 ls (fun z hz => (hp3 z (h2 z hz)).trans (h1 z hz)) (sb_tr h2 hp2) (by rw [← ht]; exact hB) hS (by rw [cvL_xt hp3 h6]; exact h5) (h6.sb hp2) (hst7.sb hp2).nl
  have e1 : (vL x :: st).map (cv u.1) = .long x :: st.map (cv ad) := by rw [List.map_cons, cvs_xt hp3 hst7]; rfl
  rw [e1] at hk
  exact hk
theorem aw_cVNv (X : Cx p s m args meth c cc nL own Ts D dA B zE) {y : MethodName} {bytes : ByteArray} {maxL mc ms n index : Nat} {ret : Option FieldType} {ws : List Cond} {rm : Room} {C : String} {host : String} {r : Ro} {post : wM → Prop} (As : List AV) (hM : ∀ ad : Ro → Nat, lvS M (vR (some r) :: As) → Met l y ws rm (PA D dA B zE M ad (vR (some r) :: As)) (QV D dA B zE M ad post) mc ms (wA B)) (cw : va_CN R s args own index y host bytes maxL ret ws rm mc ms n ∧ (Cond.instanceMethod y).before args s = true ∧ (Cond.selects C y y).before args s = true) (hob : ∃ (ci : Nat) (fs : List AV) (q : vw_C), M r = some (ob ci fs) ∧ classes[ci]? = some q ∧ q.1 = C) {st0 : List AV} (hst : st0 = As.reverse ++ vR (some r) :: st) (hn : As.length = n) (hrm : (st.map acat).sum ≤ 8) (hd : decode cc pc = .ok (.invokevirtual index, 3)) (hf : cells + mc ≤ R.cells ∧ slots + ms ≤ R.slots) (k : ∀ M', post M' → AW p l e R s m args below meth c Q D dA B zE nL ad0 M0 M' (cells + mc) (slots + ms) (pc + 3) lv (st)) : AW p l e R s m args below meth c Q D dA B zE nL ad0 M0 M cells slots pc lv st0 := by
  intro ad H locs ls h1 h2 h3 h4 h5 h6 h7
  have hst7 : lvS M st := fun v hv => h7 v (by rw [hst]; exact List.mem_append_right _ (List.mem_cons_of_mem _ hv))
  have hAs : lvS M (vR (some r) :: As) := fun v hv => h7 v (by rw [hst]; rcases List.mem_cons.mp hv with g | g; exact List.mem_append_right _ (g ▸ List.mem_cons_self); exact List.mem_append_left _ (List.mem_reverse.mpr g))
  have hstk : st0.map (cv ad) = (As.map (cv ad)).reverse ++ .ref (ad r) :: st.map (cv ad) := by rw [hst, List.map_append, List.map_reverse]; rfl
  obtain ⟨ci, fs, q, hMr, hq, hqC⟩ := hob
  refine va_callv (va_runVN (As := As.map (cv ad)) (rest := st.map (cv ad)) ⟨X.1, X.2.1, X.2.2.1, X.hown, X.hts⟩ (hM ad hAs) cw ⟨PA_blind, hqC ▸ h3.recv X.hK hq hMr, PA_pre X.hG h3 h4⟩ rfl (by rw [List.length_map]; exact hn) h5.1 hstk (lv_room (by rw [List.map_map, show (fun v : Value => v.category) ∘ cv ad = acat from funext (cv_cat ad)]; exact hrm)) hd hf) h4 (fun q _ h => h) (fun q h => h) (fun u t H1 locs1 ht hvm hp hB hz hk hS => ?_)
  obtain ⟨hp1, hp2, hp3⟩ := hp
  have hk := k u.2 hp1 u.1 H1 locs1 ls (fun z hz => (hp3 z (h2 z hz)).trans (h1 z hz)) (sb_tr h2 hp2) (by rw [← ht]; exact hB) hS (by rw [cvL_xt hp3 h6]; exact h5) (h6.sb hp2) (hst7.sb hp2)
  have e1 : st.map (cv u.1) = st.map (cv ad) := cvs_xt hp3 hst7
  rw [e1] at hk
  exact hk
theorem aw_cVNr (X : Cx p s m args meth c cc nL own Ts D dA B zE) {y : MethodName} {bytes : ByteArray} {maxL mc ms n index : Nat} {ret : Option FieldType} {ws : List Cond} {rm : Room} {C : String} {host : String} {r : Ro} {post : Option Ro → wM → Prop} (As : List AV) (hM : ∀ ad : Ro → Nat, lvS M (vR (some r) :: As) → Met l y ws rm (PA D dA B zE M ad (vR (some r) :: As)) (QR D dA B zE M ad post) mc ms (wA B)) (cw : va_CN R s args own index y host bytes maxL ret ws rm mc ms n ∧ (Cond.instanceMethod y).before args s = true ∧ (Cond.selects C y y).before args s = true) (hob : ∃ (ci : Nat) (fs : List AV) (q : vw_C), M r = some (ob ci fs) ∧ classes[ci]? = some q ∧ q.1 = C) {st0 : List AV} (hst : st0 = As.reverse ++ vR (some r) :: st) (hn : As.length = n) (hrm : (st.map acat).sum ≤ 8) (hd : decode cc pc = .ok (.invokevirtual index, 3)) (hf : cells + mc ≤ R.cells ∧ slots + ms ≤ R.slots) (k : ∀ x M', post x M' → AW p l e R s m args below meth c Q D dA B zE nL ad0 M0 M' (cells + mc) (slots + ms) (pc + 3) lv (vR x :: st)) : AW p l e R s m args below meth c Q D dA B zE nL ad0 M0 M cells slots pc lv st0 := by
  intro ad H locs ls h1 h2 h3 h4 h5 h6 h7
  have hst7 : lvS M st := fun v hv => h7 v (by rw [hst]; exact List.mem_append_right _ (List.mem_cons_of_mem _ hv))
  have hAs : lvS M (vR (some r) :: As) := fun v hv => h7 v (by rw [hst]; rcases List.mem_cons.mp hv with g | g; exact List.mem_append_right _ (g ▸ List.mem_cons_self); exact List.mem_append_left _ (List.mem_reverse.mpr g))
  have hstk : st0.map (cv ad) = (As.map (cv ad)).reverse ++ .ref (ad r) :: st.map (cv ad) := by rw [hst, List.map_append, List.map_reverse]; rfl
  obtain ⟨ci, fs, q, hMr, hq, hqC⟩ := hob
  refine va_callq (va_runVN (As := As.map (cv ad)) (rest := st.map (cv ad)) ⟨X.1, X.2.1, X.2.2.1, X.hown, X.hts⟩ (hM ad hAs) cw ⟨PA_blind, hqC ▸ h3.recv X.hK hq hMr, PA_pre X.hG h3 h4⟩ rfl (by rw [List.length_map]; exact hn) h5.1 hstk (lv_room (by rw [List.map_map, show (fun v : Value => v.category) ∘ cv ad = acat from funext (cv_cat ad)]; exact hrm)) hd hf) h4 (fun q _ h => h) (fun q h => h) (fun x u t H1 locs1 ht hvm hp hB hz hk hS => ?_)
  obtain ⟨o, ho, hlo, hp1, hp2, hp3⟩ := hp
  have hk := k o u.2 hp1 u.1 H1 locs1 ls (fun z hz => (hp3 z (h2 z hz)).trans (h1 z hz)) (sb_tr h2 hp2) (by rw [← ht]; exact hB) hS (by rw [cvL_xt hp3 h6]; exact h5) (h6.sb hp2) ((hst7.sb hp2).cn hlo)
  have e1 : (vR o :: st).map (cv u.1) = va_rf x :: st.map (cv ad) := by rw [List.map_cons, cvs_xt hp3 hst7, ho]; rfl
  rw [e1] at hk
  exact hk
theorem aw_cSNi (X : Cx p s m args meth c cc nL own Ts D dA B zE) {y : MethodName} {bytes : ByteArray} {maxL mc ms n index : Nat} {ret : Option FieldType} {ws : List Cond} {rm : Room} {host : String} {post : Int32 → wM → Prop} (As : List AV) (hM : ∀ ad : Ro → Nat, lvS M (As) → Met l y ws rm (PA D dA B zE M ad (As)) (QI D dA B zE M ad post) mc ms (wA B)) (cw : va_CN R s args own index y host bytes maxL ret ws rm mc ms n ∧ (Cond.static y).before args s = true ∧ True) {st0 : List AV} (hst : st0 = As.reverse ++ st) (hn : As.length = n) (hrm : (st.map acat).sum ≤ 8) (hd : decode cc pc = .ok (.invokestatic index, 3)) (hf : cells + mc ≤ R.cells ∧ slots + ms ≤ R.slots) (k : ∀ x M', post x M' → AW p l e R s m args below meth c Q D dA B zE nL ad0 M0 M' (cells + mc) (slots + ms) (pc + 3) lv (vI x :: st)) : AW p l e R s m args below meth c Q D dA B zE nL ad0 M0 M cells slots pc lv st0 := by
  intro ad H locs ls h1 h2 h3 h4 h5 h6 h7
  have hst7 : lvS M st := fun v hv => h7 v (by rw [hst]; exact List.mem_append_right _ hv)
  have hAs : lvS M As := fun v hv => h7 v (by rw [hst]; exact List.mem_append_left _ (List.mem_reverse.mpr hv))
  have hstk : st0.map (cv ad) = (As.map (cv ad)).reverse ++ st.map (cv ad) := by rw [hst, List.map_append, List.map_reverse]
  refine va_calli (va_runSN (As := As.map (cv ad)) (rest := st.map (cv ad)) ⟨X.1, X.2.1, X.2.2.1, X.hown, X.hts⟩ (hM ad hAs) cw ⟨PA_blind, PA_pre X.hG h3 h4⟩ rfl (by rw [List.length_map]; exact hn) h5.1 hstk (lv_room (by rw [List.map_map, show (fun v : Value => v.category) ∘ cv ad = acat from funext (cv_cat ad)]; exact hrm)) hd hf) h4 (fun q _ h => h) (fun q h => h) (fun x u t H1 locs1 ht hvm hp hB hz hk hS => ?_)
  obtain ⟨hp1, hp2, hp3⟩ := hp
  have hk := k x u.2 hp1 u.1 H1 locs1 ls (fun z hz => (hp3 z (h2 z hz)).trans (h1 z hz)) (sb_tr h2 hp2) (by rw [← ht]; exact hB) hS (by rw [cvL_xt hp3 h6]; exact h5) (h6.sb hp2) (hst7.sb hp2).ni
  have e1 : (vI x :: st).map (cv u.1) = .int x :: st.map (cv ad) := by rw [List.map_cons, cvs_xt hp3 hst7]; rfl
  rw [e1] at hk
  exact hk
theorem aw_cSNl (X : Cx p s m args meth c cc nL own Ts D dA B zE) {y : MethodName} {bytes : ByteArray} {maxL mc ms n index : Nat} {ret : Option FieldType} {ws : List Cond} {rm : Room} {host : String} {post : Int64 → wM → Prop} (As : List AV) (hM : ∀ ad : Ro → Nat, lvS M (As) → Met l y ws rm (PA D dA B zE M ad (As)) (QL D dA B zE M ad post) mc ms (wA B)) (cw : va_CN R s args own index y host bytes maxL ret ws rm mc ms n ∧ (Cond.static y).before args s = true ∧ True) {st0 : List AV} (hst : st0 = As.reverse ++ st) (hn : As.length = n) (hrm : (st.map acat).sum ≤ 8) (hd : decode cc pc = .ok (.invokestatic index, 3)) (hf : cells + mc ≤ R.cells ∧ slots + ms ≤ R.slots) (k : ∀ x M', post x M' → AW p l e R s m args below meth c Q D dA B zE nL ad0 M0 M' (cells + mc) (slots + ms) (pc + 3) lv (vL x :: st)) : AW p l e R s m args below meth c Q D dA B zE nL ad0 M0 M cells slots pc lv st0 := by
  intro ad H locs ls h1 h2 h3 h4 h5 h6 h7
  have hst7 : lvS M st := fun v hv => h7 v (by rw [hst]; exact List.mem_append_right _ hv)
  have hAs : lvS M As := fun v hv => h7 v (by rw [hst]; exact List.mem_append_left _ (List.mem_reverse.mpr hv))
  have hstk : st0.map (cv ad) = (As.map (cv ad)).reverse ++ st.map (cv ad) := by rw [hst, List.map_append, List.map_reverse]
  refine va_calll (va_runSN (As := As.map (cv ad)) (rest := st.map (cv ad)) ⟨X.1, X.2.1, X.2.2.1, X.hown, X.hts⟩ (hM ad hAs) cw ⟨PA_blind, PA_pre X.hG h3 h4⟩ rfl (by rw [List.length_map]; exact hn) h5.1 hstk (lv_room (by rw [List.map_map, show (fun v : Value => v.category) ∘ cv ad = acat from funext (cv_cat ad)]; exact hrm)) hd hf) h4 (fun q _ h => h) (fun q h => h) (fun x u t H1 locs1 ht hvm hp hB hz hk hS => ?_)
  obtain ⟨hp1, hp2, hp3⟩ := hp
  have hk := k x u.2 hp1 u.1 H1 locs1 ls (fun z hz => (hp3 z (h2 z hz)).trans (h1 z hz)) (sb_tr h2 hp2) (by rw [← ht]; exact hB) hS (by rw [cvL_xt hp3 h6]; exact h5) (h6.sb hp2) (hst7.sb hp2).nl
  have e1 : (vL x :: st).map (cv u.1) = .long x :: st.map (cv ad) := by rw [List.map_cons, cvs_xt hp3 hst7]; rfl
  rw [e1] at hk
  exact hk
theorem aw_cSNv (X : Cx p s m args meth c cc nL own Ts D dA B zE) {y : MethodName} {bytes : ByteArray} {maxL mc ms n index : Nat} {ret : Option FieldType} {ws : List Cond} {rm : Room} {host : String} {post : wM → Prop} (As : List AV) (hM : ∀ ad : Ro → Nat, lvS M (As) → Met l y ws rm (PA D dA B zE M ad (As)) (QV D dA B zE M ad post) mc ms (wA B)) (cw : va_CN R s args own index y host bytes maxL ret ws rm mc ms n ∧ (Cond.static y).before args s = true ∧ True) {st0 : List AV} (hst : st0 = As.reverse ++ st) (hn : As.length = n) (hrm : (st.map acat).sum ≤ 8) (hd : decode cc pc = .ok (.invokestatic index, 3)) (hf : cells + mc ≤ R.cells ∧ slots + ms ≤ R.slots) (k : ∀ M', post M' → AW p l e R s m args below meth c Q D dA B zE nL ad0 M0 M' (cells + mc) (slots + ms) (pc + 3) lv (st)) : AW p l e R s m args below meth c Q D dA B zE nL ad0 M0 M cells slots pc lv st0 := by
  intro ad H locs ls h1 h2 h3 h4 h5 h6 h7
  have hst7 : lvS M st := fun v hv => h7 v (by rw [hst]; exact List.mem_append_right _ hv)
  have hAs : lvS M As := fun v hv => h7 v (by rw [hst]; exact List.mem_append_left _ (List.mem_reverse.mpr hv))
  have hstk : st0.map (cv ad) = (As.map (cv ad)).reverse ++ st.map (cv ad) := by rw [hst, List.map_append, List.map_reverse]
  refine va_callv (va_runSN (As := As.map (cv ad)) (rest := st.map (cv ad)) ⟨X.1, X.2.1, X.2.2.1, X.hown, X.hts⟩ (hM ad hAs) cw ⟨PA_blind, PA_pre X.hG h3 h4⟩ rfl (by rw [List.length_map]; exact hn) h5.1 hstk (lv_room (by rw [List.map_map, show (fun v : Value => v.category) ∘ cv ad = acat from funext (cv_cat ad)]; exact hrm)) hd hf) h4 (fun q _ h => h) (fun q h => h) (fun u t H1 locs1 ht hvm hp hB hz hk hS => ?_)
  obtain ⟨hp1, hp2, hp3⟩ := hp
  have hk := k u.2 hp1 u.1 H1 locs1 ls (fun z hz => (hp3 z (h2 z hz)).trans (h1 z hz)) (sb_tr h2 hp2) (by rw [← ht]; exact hB) hS (by rw [cvL_xt hp3 h6]; exact h5) (h6.sb hp2) (hst7.sb hp2)
  have e1 : st.map (cv u.1) = st.map (cv ad) := cvs_xt hp3 hst7
  rw [e1] at hk
  exact hk
theorem aw_cSNr (X : Cx p s m args meth c cc nL own Ts D dA B zE) {y : MethodName} {bytes : ByteArray} {maxL mc ms n index : Nat} {ret : Option FieldType} {ws : List Cond} {rm : Room} {host : String} {post : Option Ro → wM → Prop} (As : List AV) (hM : ∀ ad : Ro → Nat, lvS M (As) → Met l y ws rm (PA D dA B zE M ad (As)) (QR D dA B zE M ad post) mc ms (wA B)) (cw : va_CN R s args own index y host bytes maxL ret ws rm mc ms n ∧ (Cond.static y).before args s = true ∧ True) {st0 : List AV} (hst : st0 = As.reverse ++ st) (hn : As.length = n) (hrm : (st.map acat).sum ≤ 8) (hd : decode cc pc = .ok (.invokestatic index, 3)) (hf : cells + mc ≤ R.cells ∧ slots + ms ≤ R.slots) (k : ∀ x M', post x M' → AW p l e R s m args below meth c Q D dA B zE nL ad0 M0 M' (cells + mc) (slots + ms) (pc + 3) lv (vR x :: st)) : AW p l e R s m args below meth c Q D dA B zE nL ad0 M0 M cells slots pc lv st0 := by
  intro ad H locs ls h1 h2 h3 h4 h5 h6 h7
  have hst7 : lvS M st := fun v hv => h7 v (by rw [hst]; exact List.mem_append_right _ hv)
  have hAs : lvS M As := fun v hv => h7 v (by rw [hst]; exact List.mem_append_left _ (List.mem_reverse.mpr hv))
  have hstk : st0.map (cv ad) = (As.map (cv ad)).reverse ++ st.map (cv ad) := by rw [hst, List.map_append, List.map_reverse]
  refine va_callq (va_runSN (As := As.map (cv ad)) (rest := st.map (cv ad)) ⟨X.1, X.2.1, X.2.2.1, X.hown, X.hts⟩ (hM ad hAs) cw ⟨PA_blind, PA_pre X.hG h3 h4⟩ rfl (by rw [List.length_map]; exact hn) h5.1 hstk (lv_room (by rw [List.map_map, show (fun v : Value => v.category) ∘ cv ad = acat from funext (cv_cat ad)]; exact hrm)) hd hf) h4 (fun q _ h => h) (fun q h => h) (fun x u t H1 locs1 ht hvm hp hB hz hk hS => ?_)
  obtain ⟨o, ho, hlo, hp1, hp2, hp3⟩ := hp
  have hk := k o u.2 hp1 u.1 H1 locs1 ls (fun z hz => (hp3 z (h2 z hz)).trans (h1 z hz)) (sb_tr h2 hp2) (by rw [← ht]; exact hB) hS (by rw [cvL_xt hp3 h6]; exact h5) (h6.sb hp2) ((hst7.sb hp2).cn hlo)
  have e1 : (vR o :: st).map (cv u.1) = va_rf x :: st.map (cv ad) := by rw [List.map_cons, cvs_xt hp3 hst7, ho]; rfl
  rw [e1] at hk
  exact hk
theorem aw_cINv (X : Cx p s m args meth c cc nL own Ts D dA B zE) {y : MethodName} {bytes : ByteArray} {maxL mc ms n index : Nat} {ws : List Cond} {rm : Room} {host : String} {r : Ro} {post : wM → Prop} (As : List AV) (hM : ∀ ad : Ro → Nat, lvS M (vR (some r) :: As) → Met l y ws rm (PA D dA B zE M ad (vR (some r) :: As)) (QV D dA B zE M ad post) mc ms (wA B)) (cw : va_CN R s args own index y host bytes maxL none ws rm mc ms n ∧ y.name = "<init>" ∧ (Cond.instanceMethod y).before args s = true) {st0 : List AV} (hst : st0 = As.reverse ++ vR (some r) :: st) (hn : As.length = n) (hrm : (st.map acat).sum ≤ 8) (hd : decode cc pc = .ok (.invokespecial index, 3)) (hf : cells + mc ≤ R.cells ∧ slots + ms ≤ R.slots) (k : ∀ M', post M' → AW p l e R s m args below meth c Q D dA B zE nL ad0 M0 M' (cells + mc) (slots + ms) (pc + 3) lv (st)) : AW p l e R s m args below meth c Q D dA B zE nL ad0 M0 M cells slots pc lv st0 := by
  intro ad H locs ls h1 h2 h3 h4 h5 h6 h7
  have hst7 : lvS M st := fun v hv => h7 v (by rw [hst]; exact List.mem_append_right _ (List.mem_cons_of_mem _ hv))
  have hAs : lvS M (vR (some r) :: As) := fun v hv => h7 v (by rw [hst]; rcases List.mem_cons.mp hv with g | g; exact List.mem_append_right _ (g ▸ List.mem_cons_self); exact List.mem_append_left _ (List.mem_reverse.mpr g))
  have hstk : st0.map (cv ad) = (As.map (cv ad)).reverse ++ .ref (ad r) :: st.map (cv ad) := by rw [hst, List.map_append, List.map_reverse]; rfl
  refine va_callv (va_runIN (As := As.map (cv ad)) (rest := st.map (cv ad)) ⟨X.1, X.2.1, X.2.2.1, X.hown, X.hts⟩ (hM ad hAs) cw ⟨PA_blind, PA_pre X.hG h3 h4⟩ rfl (by rw [List.length_map]; exact hn) h5.1 hstk (lv_room (by rw [List.map_map, show (fun v : Value => v.category) ∘ cv ad = acat from funext (cv_cat ad)]; exact hrm)) hd hf) h4 (fun q _ h => h) (fun q h => h) (fun u t H1 locs1 ht hvm hp hB hz hk hS => ?_)
  obtain ⟨hp1, hp2, hp3⟩ := hp
  have hk := k u.2 hp1 u.1 H1 locs1 ls (fun z hz => (hp3 z (h2 z hz)).trans (h1 z hz)) (sb_tr h2 hp2) (by rw [← ht]; exact hB) hS (by rw [cvL_xt hp3 h6]; exact h5) (h6.sb hp2) (hst7.sb hp2)
  have e1 : st.map (cv u.1) = st.map (cv ad) := cvs_xt hp3 hst7
  rw [e1] at hk
  exact hk
end AW2
end
section
def fd_0 : List AV := [vI 0, vR none, vR none, vR none, vR none, vR none, vR none, vR none, vI 0, vR none, vI 0, vI 0, vI 0]
theorem fs_0 : ∀ (ad : Ro → Nat) j, j < 13 → defaultValue (ty_0 j) = vp_V (fd_0.map (cv ad)) j := by
  intro ad j hj
  rcases (show j = 0 ∨ j = 1 ∨ j = 2 ∨ j = 3 ∨ j = 4 ∨ j = 5 ∨ j = 6 ∨ j = 7 ∨ j = 8 ∨ j = 9 ∨ j = 10 ∨ j = 11 ∨ j = 12 by omega) with rfl | rfl | rfl | rfl | rfl | rfl | rfl | rfl | rfl | rfl | rfl | rfl | rfl <;> rfl
theorem fl_0 : ∀ M : wM, ∀ v ∈ fd_0, lv1 M v := by
  intro M v hv r hr
  subst hr
  simp [fd_0] at hv
def fd_1 : List AV := [vI 0, vI 0, vI 0, vI 0, vI 0, vI 0, vR none]
theorem fs_1 : ∀ (ad : Ro → Nat) j, j < 7 → defaultValue (ty_1 j) = vp_V (fd_1.map (cv ad)) j := by
  intro ad j hj
  rcases (show j = 0 ∨ j = 1 ∨ j = 2 ∨ j = 3 ∨ j = 4 ∨ j = 5 ∨ j = 6 by omega) with rfl | rfl | rfl | rfl | rfl | rfl | rfl <;> rfl
theorem fl_1 : ∀ M : wM, ∀ v ∈ fd_1, lv1 M v := by
  intro M v hv r hr
  subst hr
  simp [fd_1] at hv
def fd_2 : List AV := [vR none, vI 0, vI 0]
theorem fs_2 : ∀ (ad : Ro → Nat) j, j < 3 → defaultValue (ty_2 j) = vp_V (fd_2.map (cv ad)) j := by
  intro ad j hj
  rcases (show j = 0 ∨ j = 1 ∨ j = 2 by omega) with rfl | rfl | rfl <;> rfl
theorem fl_2 : ∀ M : wM, ∀ v ∈ fd_2, lv1 M v := by
  intro M v hv r hr
  subst hr
  simp [fd_2] at hv
def fd_3 : List AV := [vR none, vI 0, vR none, vR none, vI 0, vR none, vI 0, vI 0]
theorem fs_3 : ∀ (ad : Ro → Nat) j, j < 8 → defaultValue (ty_3 j) = vp_V (fd_3.map (cv ad)) j := by
  intro ad j hj
  rcases (show j = 0 ∨ j = 1 ∨ j = 2 ∨ j = 3 ∨ j = 4 ∨ j = 5 ∨ j = 6 ∨ j = 7 by omega) with rfl | rfl | rfl | rfl | rfl | rfl | rfl | rfl <;> rfl
theorem fl_3 : ∀ M : wM, ∀ v ∈ fd_3, lv1 M v := by
  intro M v hv r hr
  subst hr
  simp [fd_3] at hv
def fd_4 : List AV := [vR none, vI 0, vI 0, vI 0]
theorem fs_4 : ∀ (ad : Ro → Nat) j, j < 4 → defaultValue (ty_4 j) = vp_V (fd_4.map (cv ad)) j := by
  intro ad j hj
  rcases (show j = 0 ∨ j = 1 ∨ j = 2 ∨ j = 3 by omega) with rfl | rfl | rfl | rfl <;> rfl
theorem fl_4 : ∀ M : wM, ∀ v ∈ fd_4, lv1 M v := by
  intro M v hv r hr
  subst hr
  simp [fd_4] at hv
def fd_5 : List AV := [vI 0, vI 0, vI 0, vI 0]
theorem fs_5 : ∀ (ad : Ro → Nat) j, j < 4 → defaultValue (ty_5 j) = vp_V (fd_5.map (cv ad)) j := by
  intro ad j hj
  rcases (show j = 0 ∨ j = 1 ∨ j = 2 ∨ j = 3 by omega) with rfl | rfl | rfl | rfl <;> rfl
theorem fl_5 : ∀ M : wM, ∀ v ∈ fd_5, lv1 M v := by
  intro M v hv r hr
  subst hr
  simp [fd_5] at hv
def fd_6 : List AV := [vR none, vR none]
theorem fs_6 : ∀ (ad : Ro → Nat) j, j < 2 → defaultValue (ty_6 j) = vp_V (fd_6.map (cv ad)) j := by
  intro ad j hj
  rcases (show j = 0 ∨ j = 1 by omega) with rfl | rfl <;> rfl
theorem fl_6 : ∀ M : wM, ∀ v ∈ fd_6, lv1 M v := by
  intro M v hv r hr
  subst hr
  simp [fd_6] at hv
def fd_7 : List AV := [vI 0, vI 0, vR none, vI 0, vI 0, vI 0]
theorem fs_7 : ∀ (ad : Ro → Nat) j, j < 6 → defaultValue (ty_7 j) = vp_V (fd_7.map (cv ad)) j := by
  intro ad j hj
  rcases (show j = 0 ∨ j = 1 ∨ j = 2 ∨ j = 3 ∨ j = 4 ∨ j = 5 by omega) with rfl | rfl | rfl | rfl | rfl | rfl <;> rfl
theorem fl_7 : ∀ M : wM, ∀ v ∈ fd_7, lv1 M v := by
  intro M v hv r hr
  subst hr
  simp [fd_7] at hv
def fd_8 : List AV := [vR none, vI 0, vI 0]
theorem fs_8 : ∀ (ad : Ro → Nat) j, j < 3 → defaultValue (ty_8 j) = vp_V (fd_8.map (cv ad)) j := by
  intro ad j hj
  rcases (show j = 0 ∨ j = 1 ∨ j = 2 by omega) with rfl | rfl | rfl <;> rfl
theorem fl_8 : ∀ M : wM, ∀ v ∈ fd_8, lv1 M v := by
  intro M v hv r hr
  subst hr
  simp [fd_8] at hv
def fd_9 : List AV := [vI 0, vR none, vR none, vR none, vR none, vR none, vR none, vR none, vR none, vR none, vR none, vR none, vR none, vR none, vI 0, vI 0, vR none, vR none, vR none, vR none, vR none, vR none, vR none, vI 0, vI 0, vI 0, vR none, vR none, vR none, vR none, vR none, vR none, vR none]
theorem fs_9 : ∀ (ad : Ro → Nat) j, j < 33 → defaultValue (ty_9 j) = vp_V (fd_9.map (cv ad)) j := by
  intro ad j hj
  rcases (show j = 0 ∨ j = 1 ∨ j = 2 ∨ j = 3 ∨ j = 4 ∨ j = 5 ∨ j = 6 ∨ j = 7 ∨ j = 8 ∨ j = 9 ∨ j = 10 ∨ j = 11 ∨ j = 12 ∨ j = 13 ∨ j = 14 ∨ j = 15 ∨ j = 16 ∨ j = 17 ∨ j = 18 ∨ j = 19 ∨ j = 20 ∨ j = 21 ∨ j = 22 ∨ j = 23 ∨ j = 24 ∨ j = 25 ∨ j = 26 ∨ j = 27 ∨ j = 28 ∨ j = 29 ∨ j = 30 ∨ j = 31 ∨ j = 32 by omega) with rfl | rfl | rfl | rfl | rfl | rfl | rfl | rfl | rfl | rfl | rfl | rfl | rfl | rfl | rfl | rfl | rfl | rfl | rfl | rfl | rfl | rfl | rfl | rfl | rfl | rfl | rfl | rfl | rfl | rfl | rfl | rfl | rfl <;> rfl
theorem fl_9 : ∀ M : wM, ∀ v ∈ fd_9, lv1 M v := by
  intro M v hv r hr
  subst hr
  simp [fd_9] at hv
theorem nfO {C : String} {o : Option Ro} : ∀ ad : Ro → Nat, narrow (.object C) (cv ad (vR o)) = cv ad (vR o) ∧ fits (.object C) (cv ad (vR o)) = true := by
  intro ad
  cases o <;> exact ⟨rfl, rfl⟩
theorem nfA {t : FieldType} {o : Option Ro} : ∀ ad : Ro → Nat, narrow (.array t) (cv ad (vR o)) = cv ad (vR o) ∧ fits (.array t) (cv ad (vR o)) = true := by
  intro ad
  cases o <;> exact ⟨rfl, rfl⟩
theorem nfZ {x : Int32} (h : x = 0 ∨ x = 1) : ∀ ad : Ro → Nat, narrow .boolean (cv ad (vI x)) = cv ad (vI x) ∧ fits .boolean (cv ad (vI x)) = true := by
  intro ad
  rcases h with rfl | rfl <;> exact ⟨rfl, rfl⟩
theorem gI.mono {M : wM} {o : Option Ro} {ci k : Nat} {K K2 : Int32 → Prop} (h : gI M o ci k K) (f : ∀ x, K x → K2 x) : gI M o ci k K2 := by
  obtain ⟨r, fs, x, h1, h2, h3, h4⟩ := h
  exact ⟨r, fs, x, h1, h2, h3, f _ h4⟩
theorem gL.mono {M : wM} {o : Option Ro} {ci k : Nat} {K K2 : Int64 → Prop} (h : gL M o ci k K) (f : ∀ x, K x → K2 x) : gL M o ci k K2 := by
  obtain ⟨r, fs, x, h1, h2, h3, h4⟩ := h
  exact ⟨r, fs, x, h1, h2, h3, f _ h4⟩
theorem gR.mono {M : wM} {o : Option Ro} {ci k : Nat} {K K2 : Option Ro → Prop} (h : gR M o ci k K) (f : ∀ x, K x → K2 x) : gR M o ci k K2 := by
  obtain ⟨r, fs, x, h1, h2, h3, h4⟩ := h
  exact ⟨r, fs, x, h1, h2, h3, f _ h4⟩
theorem pF.mono {M : wM} {o : Option Ro} {ci k : Nat} {v : AV} {K K2 : wM → Prop} (h : pF M o ci k v K) (f : ∀ x, K x → K2 x) : pF M o ci k v K2 := by
  obtain ⟨r, fs, h1, h2, h3, h4⟩ := h
  exact ⟨r, fs, h1, h2, h3, f _ h4⟩
theorem lI.mono {M : wM} {o : Option Ro} {x : Int32} {K K2 : Int32 → Prop} (h : lI M o x K) (f : ∀ x, K x → K2 x) : lI M o x K2 := by
  obtain ⟨r, n, g, h1, h2, h3, h4⟩ := h
  exact ⟨r, n, g, h1, h2, h3, f _ h4⟩
theorem lZ.mono {M : wM} {o : Option Ro} {x : Int32} {K K2 : Int32 → Prop} (h : lZ M o x K) (f : ∀ x, K x → K2 x) : lZ M o x K2 := by
  obtain ⟨r, n, g, h1, h2, h3, h4⟩ := h
  exact ⟨r, n, g, h1, h2, h3, f _ h4⟩
theorem lL.mono {M : wM} {o : Option Ro} {x : Int32} {K K2 : Int64 → Prop} (h : lL M o x K) (f : ∀ x, K x → K2 x) : lL M o x K2 := by
  obtain ⟨r, n, g, h1, h2, h3, h4⟩ := h
  exact ⟨r, n, g, h1, h2, h3, f _ h4⟩
theorem lR.mono {M : wM} {o : Option Ro} {x : Int32} {K K2 : Option Ro → Prop} (h : lR M o x K) (f : ∀ x, K x → K2 x) : lR M o x K2 := by
  obtain ⟨r, t, n, g, C, h1, h2, h3, h4, h5⟩ := h
  exact ⟨r, t, n, g, C, h1, h2, h3, h4, f _ h5⟩
theorem sI.mono {M : wM} {o : Option Ro} {x : Int32} {v : Int32} {K K2 : wM → Prop} (h : sI M o x v K) (f : ∀ x, K x → K2 x) : sI M o x v K2 := by
  obtain ⟨r, n, g, h1, h2, h3, h4⟩ := h
  exact ⟨r, n, g, h1, h2, h3, f _ h4⟩
theorem sZ.mono {M : wM} {o : Option Ro} {x : Int32} {v : Int32} {K K2 : wM → Prop} (h : sZ M o x v K) (f : ∀ x, K x → K2 x) : sZ M o x v K2 := by
  obtain ⟨r, n, g, h1, h2, h3, h4⟩ := h
  exact ⟨r, n, g, h1, h2, h3, f _ h4⟩
theorem sL.mono {M : wM} {o : Option Ro} {x : Int32} {v : Int64} {K K2 : wM → Prop} (h : sL M o x v K) (f : ∀ x, K x → K2 x) : sL M o x v K2 := by
  obtain ⟨r, n, g, h1, h2, h3, h4⟩ := h
  exact ⟨r, n, g, h1, h2, h3, f _ h4⟩
theorem sR.mono {M : wM} {o : Option Ro} {x : Int32} {v : Option Ro} {K K2 : wM → Prop} (h : sR M o x v K) (f : ∀ x, K x → K2 x) : sR M o x v K2 := by
  obtain ⟨r, t, n, g, C, h1, h2, h3, h4, h5, h6⟩ := h
  exact ⟨r, t, n, g, C, h1, h2, h3, h4, h5, f _ h6⟩
theorem aN.mono {M : wM} {o : Option Ro} {K K2 : Int32 → Prop} (h : aN M o K) (f : ∀ x, K x → K2 x) : aN M o K2 := by
  obtain ⟨r, t, n, g, h1, h2, h3, h4⟩ := h
  exact ⟨r, t, n, g, h1, h2, h3, f _ h4⟩
theorem nA.mono {M : wM} {x : Int32} {bd : Nat} {e : Nat → AE} {K K2 : Option Ro → wM → Prop} (h : nA M x bd e K) (f : ∀ x y, K x y → K2 x y) : nA M x bd e K2 := by
  obtain ⟨h1, h2, r, h3, h4, h5⟩ := h
  exact ⟨h1, h2, r, h3, h4, f _ _ h5⟩
theorem nO.mono {M : wM} {ci : Nat} {fs : List AV} {K K2 : Option Ro → wM → Prop} (h : nO M ci fs K) (f : ∀ x y, K x y → K2 x y) : nO M ci fs K2 := by
  obtain ⟨r, h3, h4, h5⟩ := h
  exact ⟨r, h3, h4, f _ _ h5⟩
theorem cpI.mono {M : wM} {o1 o2 : Option Ro} {sp dp n : Int32} {K K2 : wM → Prop} (h : cpI M o1 sp o2 dp n K) (f : ∀ x, K x → K2 x) : cpI M o1 sp o2 dp n K2 := by
  obtain ⟨r1, r2, n1, n2, a, b, h1, h2, h3, h4, h5, h6, h7, h8, h9, h10, h11, h12⟩ := h
  exact ⟨r1, r2, n1, n2, a, b, h1, h2, h3, h4, h5, h6, h7, h8, h9, h10, h11, f _ h12⟩
theorem cpL.mono {M : wM} {o1 o2 : Option Ro} {sp dp n : Int32} {K K2 : wM → Prop} (h : cpL M o1 sp o2 dp n K) (f : ∀ x, K x → K2 x) : cpL M o1 sp o2 dp n K2 := by
  obtain ⟨r1, r2, n1, n2, a, b, h1, h2, h3, h4, h5, h6, h7, h8, h9, h10, h11, h12⟩ := h
  exact ⟨r1, r2, n1, n2, a, b, h1, h2, h3, h4, h5, h6, h7, h8, h9, h10, h11, f _ h12⟩
theorem cpR.mono {M : wM} {o1 o2 : Option Ro} {sp dp n : Int32} {K K2 : wM → Prop} (h : cpR M o1 sp o2 dp n K) (f : ∀ x, K x → K2 x) : cpR M o1 sp o2 dp n K2 := by
  obtain ⟨r1, r2, t1, t2, n1, n2, ci, a, b, q, E1, E2, h1, h2, h3, h4, h5, h6, h7, h8, h9, h10, h11, h12, h13, h14, h15, h16, h17⟩ := h
  exact ⟨r1, r2, t1, t2, n1, n2, ci, a, b, q, E1, E2, h1, h2, h3, h4, h5, h6, h7, h8, h9, h10, h11, h12, h13, h14, h15, h16, f _ h17⟩
end
section
abbrev b_Ac_init : ByteArray := prog_16_method_1_code
abbrev y_Ac_init : MethodName := ⟨"java/util/AbstractCollection", "<init>", "()V"⟩
abbrev w_Ac_init : List Cond := Cond.code y_Ac_init b_Ac_init 1 none :: TBL
abbrev b_Ab_init : ByteArray := prog_17_method_1_code
abbrev y_Ab_init : MethodName := ⟨"java/util/AbstractList", "<init>", "()V"⟩
abbrev w_Ab_init : List Cond := Cond.code y_Ab_init b_Ab_init 1 none :: TBL
abbrev b_A_init : ByteArray := prog_18_method_2_code
abbrev y_A_init : MethodName := ⟨"java/util/ArrayList", "<init>", "()V"⟩
abbrev w_A_init : List Cond := Cond.code y_A_init b_A_init 1 none :: TBL
abbrev b_Ar_fill0 : ByteArray := prog_19_method_101_code
abbrev y_Ar_fill0 : MethodName := ⟨"java/util/Arrays", "fill", "([JJ)V"⟩
abbrev w_Ar_fill0 : List Cond := Cond.code y_Ar_fill0 b_Ar_fill0 5 none :: TBL
abbrev b_B_init : ByteArray := prog_7_method_1_code
abbrev y_B_init : MethodName := ⟨"PartitionedProcedureStore$Table", "<init>", "()V"⟩
abbrev w_B_init : List Cond := Cond.code y_B_init b_B_init 1 none :: TBL
abbrev b_Ma_min : ByteArray := prog_14_method_69_code
abbrev y_Ma_min : MethodName := ⟨"java/lang/Math", "min", "(II)I"⟩
abbrev w_Ma_min : List Cond := Cond.code y_Ma_min b_Ma_min 2 (some .int) :: TBL
abbrev b_Ma_max : ByteArray := prog_14_method_65_code
abbrev y_Ma_max : MethodName := ⟨"java/lang/Math", "max", "(II)I"⟩
abbrev w_Ma_max : List Cond := Cond.code y_Ma_max b_Ma_max 2 (some .int) :: TBL
abbrev b_R_init : ByteArray := prog_4_method_1_code
abbrev y_R_init : MethodName := ⟨"PartitionedProcedureStore$Runner", "<init>", "(I)V"⟩
abbrev w_R_init : List Cond := Cond.code y_R_init b_R_init 2 none :: TBL
abbrev b_P_init : ByteArray := prog_3_method_1_code
abbrev y_P_init : MethodName := ⟨"PartitionedProcedureStore$Procedure", "<init>", "()V"⟩
abbrev w_P_init : List Cond := Cond.code y_P_init b_P_init 1 none :: TBL
abbrev b_C_init : ByteArray := prog_2_method_1_code
abbrev y_C_init : MethodName := ⟨"PartitionedProcedureStore$Client", "<init>", "()V"⟩
abbrev w_C_init : List Cond := Cond.code y_C_init b_C_init 1 none :: TBL
abbrev b_Q_init : ByteArray := prog_5_method_1_code
abbrev y_Q_init : MethodName := ⟨"PartitionedProcedureStore$Site", "<init>", "()V"⟩
abbrev w_Q_init : List Cond := Cond.code y_Q_init b_Q_init 1 none :: TBL
abbrev b_S_init : ByteArray := prog_1_method_1_code
abbrev y_S_init : MethodName := ⟨"PartitionedProcedureStore", "<init>", "(I)V"⟩
abbrev w_S_init : List Cond := Cond.code y_S_init b_S_init 3 none :: TBL
abbrev b_S_isWithin : ByteArray := prog_1_method_18_code
abbrev y_S_isWithin : MethodName := ⟨"PartitionedProcedureStore", "isWithin", "(II)Z"⟩
abbrev w_S_isWithin : List Cond := Cond.code y_S_isWithin b_S_isWithin 2 (some .boolean) :: TBL
abbrev b_A_clear : ByteArray := prog_18_method_40_code
abbrev y_A_clear : MethodName := ⟨"java/util/ArrayList", "clear", "()V"⟩
abbrev w_A_clear : List Cond := Cond.code y_A_clear b_A_clear 4 none :: TBL
abbrev b_P_restart : ByteArray := prog_3_method_2_code
abbrev y_P_restart : MethodName := ⟨"PartitionedProcedureStore$Procedure", "restart", "(Z)V"⟩
abbrev w_P_restart : List Cond := Cond.code y_P_restart b_P_restart 2 none :: TBL
abbrev b_S_open : ByteArray := prog_1_method_2_code
abbrev y_S_open : MethodName := ⟨"PartitionedProcedureStore", "open", "(IZ)I"⟩
abbrev w_S_open : List Cond := Cond.code y_S_open b_S_open 3 (some .int) :: TBL
abbrev b_S_isStatement : ByteArray := prog_1_method_19_code
abbrev y_S_isStatement : MethodName := ⟨"PartitionedProcedureStore", "isStatement", "(IIII)Z"⟩
abbrev w_S_isStatement : List Cond := Cond.code y_S_isStatement b_S_isStatement 4 (some .boolean) :: TBL
abbrev b_A_size : ByteArray := prog_18_method_8_code
abbrev y_A_size : MethodName := ⟨"java/util/ArrayList", "size", "()I"⟩
abbrev w_A_size : List Cond := Cond.code y_A_size b_A_size 1 (some .int) :: TBL
abbrev b_T_init : ByteArray := prog_6_method_1_code
abbrev y_T_init : MethodName := ⟨"PartitionedProcedureStore$Statement", "<init>", "(IIII)V"⟩
abbrev w_T_init : List Cond := Cond.code y_T_init b_T_init 5 none :: TBL
abbrev b_As_hugeLength : ByteArray := prog_25_method_28_code
abbrev y_As_hugeLength : MethodName := ⟨"jdk/internal/util/ArraysSupport", "hugeLength", "(II)I"⟩
abbrev w_As_hugeLength : List Cond := Cond.code y_As_hugeLength b_As_hugeLength 3 (some .int) :: TBL
abbrev b_As_newLength : ByteArray := prog_25_method_27_code
abbrev y_As_newLength : MethodName := ⟨"jdk/internal/util/ArraysSupport", "newLength", "(III)I"⟩
abbrev w_As_newLength : List Cond := Cond.code y_As_newLength b_As_newLength 4 (some .int) :: TBL
abbrev b_Ar_copyOf1 : ByteArray := prog_19_method_120_code
abbrev y_Ar_copyOf1 : MethodName := ⟨"java/util/Arrays", "copyOf", "([Ljava/lang/Object;ILjava/lang/Class;)[Ljava/lang/Object;"⟩
abbrev w_Ar_copyOf1 : List Cond := Cond.code y_Ar_copyOf1 b_Ar_copyOf1 4 (some (.array (.object "java/lang/Object"))) :: TBL
abbrev b_Ar_copyOf0 : ByteArray := prog_19_method_119_code
abbrev y_Ar_copyOf0 : MethodName := ⟨"java/util/Arrays", "copyOf", "([Ljava/lang/Object;I)[Ljava/lang/Object;"⟩
abbrev w_Ar_copyOf0 : List Cond := Cond.code y_Ar_copyOf0 b_Ar_copyOf0 2 (some (.array (.object "java/lang/Object"))) :: TBL
abbrev b_A_grow1 : ByteArray := prog_18_method_6_code
abbrev y_A_grow1 : MethodName := ⟨"java/util/ArrayList", "grow", "(I)[Ljava/lang/Object;"⟩
abbrev w_A_grow1 : List Cond := Cond.code y_A_grow1 b_A_grow1 4 (some (.array (.object "java/lang/Object"))) :: TBL
abbrev b_A_grow0 : ByteArray := prog_18_method_7_code
abbrev y_A_grow0 : MethodName := ⟨"java/util/ArrayList", "grow", "()[Ljava/lang/Object;"⟩
abbrev w_A_grow0 : List Cond := Cond.code y_A_grow0 b_A_grow0 1 (some (.array (.object "java/lang/Object"))) :: TBL
abbrev b_A_add1 : ByteArray := prog_18_method_24_code
abbrev y_A_add1 : MethodName := ⟨"java/util/ArrayList", "add", "(Ljava/lang/Object;[Ljava/lang/Object;I)V"⟩
abbrev w_A_add1 : List Cond := Cond.code y_A_add1 b_A_add1 4 none :: TBL
abbrev b_A_add0 : ByteArray := prog_18_method_25_code
abbrev y_A_add0 : MethodName := ⟨"java/util/ArrayList", "add", "(Ljava/lang/Object;)Z"⟩
abbrev w_A_add0 : List Cond := Cond.code y_A_add0 b_A_add0 2 (some .boolean) :: TBL
abbrev b_S_add : ByteArray := prog_1_method_3_code
abbrev y_S_add : MethodName := ⟨"PartitionedProcedureStore", "add", "(IIII)I"⟩
abbrev w_S_add : List Cond := Cond.code y_S_add b_S_add 6 (some .int) :: TBL
abbrev b_Pc_checkIndex : ByteArray := prog_26_method_11_code
abbrev y_Pc_checkIndex : MethodName := ⟨"jdk/internal/util/Preconditions", "checkIndex", "(IILjava/util/function/BiFunction;)I"⟩
abbrev w_Pc_checkIndex : List Cond := Cond.code y_Pc_checkIndex b_Pc_checkIndex 3 (some .int) :: TBL
abbrev b_Oj_checkIndex : ByteArray := prog_22_method_17_code
abbrev y_Oj_checkIndex : MethodName := ⟨"java/util/Objects", "checkIndex", "(II)I"⟩
abbrev w_Oj_checkIndex : List Cond := Cond.code y_Oj_checkIndex b_Oj_checkIndex 2 (some .int) :: TBL
abbrev b_A_elementData : ByteArray := prog_18_method_18_code
abbrev y_A_elementData : MethodName := ⟨"java/util/ArrayList", "elementData", "(I)Ljava/lang/Object;"⟩
abbrev w_A_elementData : List Cond := Cond.code y_A_elementData b_A_elementData 2 (some (.object "java/lang/Object")) :: TBL
abbrev b_A_get : ByteArray := prog_18_method_20_code
abbrev y_A_get : MethodName := ⟨"java/util/ArrayList", "get", "(I)Ljava/lang/Object;"⟩
abbrev w_A_get : List Cond := Cond.code y_A_get b_A_get 2 (some (.object "java/lang/Object")) :: TBL
abbrev b_P_isSound : ByteArray := prog_3_method_3_code
abbrev y_P_isSound : MethodName := ⟨"PartitionedProcedureStore$Procedure", "isSound", "()Z"⟩
abbrev w_P_isSound : List Cond := Cond.code y_P_isSound b_P_isSound 4 (some .boolean) :: TBL
abbrev b_S_deploy : ByteArray := prog_1_method_4_code
abbrev y_S_deploy : MethodName := ⟨"PartitionedProcedureStore", "deploy", "()I"⟩
abbrev w_S_deploy : List Cond := Cond.code y_S_deploy b_S_deploy 2 (some .int) :: TBL
abbrev b_K_init : ByteArray := prog_8_method_1_code
abbrev y_K_init : MethodName := ⟨"PartitionedProcedureStore$Task", "<init>", "(IILPartitionedProcedureStore$Procedure;III)V"⟩
abbrev w_K_init : List Cond := Cond.code y_K_init b_K_init 7 none :: TBL
abbrev b_C_begin : ByteArray := prog_2_method_2_code
abbrev y_C_begin : MethodName := ⟨"PartitionedProcedureStore$Client", "begin", "(I)V"⟩
abbrev w_C_begin : List Cond := Cond.code y_C_begin b_C_begin 2 none :: TBL
abbrev b_S_waitAtAllSites : ByteArray := prog_1_method_20_code
abbrev y_S_waitAtAllSites : MethodName := ⟨"PartitionedProcedureStore", "waitAtAllSites", "(LPartitionedProcedureStore$Task;)V"⟩
abbrev w_S_waitAtAllSites : List Cond := Cond.code y_S_waitAtAllSites b_S_waitAtAllSites 6 none :: TBL
abbrev b_Ma_floorMod : ByteArray := prog_14_method_50_code
abbrev y_Ma_floorMod : MethodName := ⟨"java/lang/Math", "floorMod", "(II)I"⟩
abbrev w_Ma_floorMod : List Cond := Cond.code y_Ma_floorMod b_Ma_floorMod 3 (some .int) :: TBL
abbrev b_K_home : ByteArray := prog_8_method_2_code
abbrev y_K_home : MethodName := ⟨"PartitionedProcedureStore$Task", "home", "(I)I"⟩
abbrev w_K_home : List Cond := Cond.code y_K_home b_K_home 2 (some .int) :: TBL
abbrev b_S_invoke : ByteArray := prog_1_method_5_code
abbrev y_S_invoke : MethodName := ⟨"PartitionedProcedureStore", "invoke", "(IIIII)I"⟩
abbrev w_S_invoke : List Cond := Cond.code y_S_invoke b_S_invoke 7 (some .int) :: TBL
abbrev b_A_isEmpty : ByteArray := prog_18_method_9_code
abbrev y_A_isEmpty : MethodName := ⟨"java/util/ArrayList", "isEmpty", "()Z"⟩
abbrev w_A_isEmpty : List Cond := Cond.code y_A_isEmpty b_A_isEmpty 1 (some .boolean) :: TBL
abbrev b_Q_first : ByteArray := prog_5_method_2_code
abbrev y_Q_first : MethodName := ⟨"PartitionedProcedureStore$Site", "first", "()LPartitionedProcedureStore$Task;"⟩
abbrev w_Q_first : List Cond := Cond.code y_Q_first b_Q_first 1 (some (.object "PartitionedProcedureStore$Task")) :: TBL
abbrev b_A_fastRemove : ByteArray := prog_18_method_39_code
abbrev y_A_fastRemove : MethodName := ⟨"java/util/ArrayList", "fastRemove", "([Ljava/lang/Object;I)V"⟩
abbrev w_A_fastRemove : List Cond := Cond.code y_A_fastRemove b_A_fastRemove 4 none :: TBL
abbrev b_A_remove : ByteArray := prog_18_method_29_code
abbrev y_A_remove : MethodName := ⟨"java/util/ArrayList", "remove", "(I)Ljava/lang/Object;"⟩
abbrev w_A_remove : List Cond := Cond.code y_A_remove b_A_remove 4 (some (.object "java/lang/Object")) :: TBL
abbrev b_Q_passOn : ByteArray := prog_5_method_3_code
abbrev y_Q_passOn : MethodName := ⟨"PartitionedProcedureStore$Site", "passOn", "()V"⟩
abbrev w_Q_passOn : List Cond := Cond.code y_Q_passOn b_Q_passOn 1 none :: TBL
abbrev b_B_copyPart : ByteArray := prog_7_method_4_code
abbrev y_B_copyPart : MethodName := ⟨"PartitionedProcedureStore$Table", "copyPart", "(LPartitionedProcedureStore$Table;II)V"⟩
abbrev w_B_copyPart : List Cond := Cond.code y_B_copyPart b_B_copyPart 5 none :: TBL
abbrev b_B_copyCells : ByteArray := prog_7_method_3_code
abbrev y_B_copyCells : MethodName := ⟨"PartitionedProcedureStore$Table", "copyCells", "(LPartitionedProcedureStore$Table;)V"⟩
abbrev w_B_copyCells : List Cond := Cond.code y_B_copyCells b_B_copyCells 2 none :: TBL
abbrev b_B_countPart : ByteArray := prog_7_method_5_code
abbrev y_B_countPart : MethodName := ⟨"PartitionedProcedureStore$Table", "countPart", "(II)I"⟩
abbrev w_B_countPart : List Cond := Cond.code y_B_countPart b_B_countPart 5 (some .int) :: TBL
abbrev b_Q_beginPart : ByteArray := prog_5_method_4_code
abbrev y_Q_beginPart : MethodName := ⟨"PartitionedProcedureStore$Site", "beginPart", "(I)V"⟩
abbrev w_Q_beginPart : List Cond := Cond.code y_Q_beginPart b_Q_beginPart 2 none :: TBL
abbrev b_B_copyFrom : ByteArray := prog_7_method_2_code
abbrev y_B_copyFrom : MethodName := ⟨"PartitionedProcedureStore$Table", "copyFrom", "(LPartitionedProcedureStore$Table;)V"⟩
abbrev w_B_copyFrom : List Cond := Cond.code y_B_copyFrom b_B_copyFrom 2 none :: TBL
abbrev b_S_dropLogUpTo : ByteArray := prog_1_method_27_code
abbrev y_S_dropLogUpTo : MethodName := ⟨"PartitionedProcedureStore", "dropLogUpTo", "(I)V"⟩
abbrev w_S_dropLogUpTo : List Cond := Cond.code y_S_dropLogUpTo b_S_dropLogUpTo 3 none :: TBL
abbrev b_C_settle : ByteArray := prog_2_method_4_code
abbrev y_C_settle : MethodName := ⟨"PartitionedProcedureStore$Client", "settle", "(I)V"⟩
abbrev w_C_settle : List Cond := Cond.code y_C_settle b_C_settle 2 none :: TBL
abbrev b_S_raiseDurable : ByteArray := prog_1_method_26_code
abbrev y_S_raiseDurable : MethodName := ⟨"PartitionedProcedureStore", "raiseDurable", "(I)V"⟩
abbrev w_S_raiseDurable : List Cond := Cond.code y_S_raiseDurable b_S_raiseDurable 6 none :: TBL
abbrev b_S_completeSnapshotIfCopied : ByteArray := prog_1_method_25_code
abbrev y_S_completeSnapshotIfCopied : MethodName := ⟨"PartitionedProcedureStore", "completeSnapshotIfCopied", "()V"⟩
abbrev w_S_completeSnapshotIfCopied : List Cond := Cond.code y_S_completeSnapshotIfCopied b_S_completeSnapshotIfCopied 5 none :: TBL
abbrev b_S_comeToMarker : ByteArray := prog_1_method_24_code
abbrev y_S_comeToMarker : MethodName := ⟨"PartitionedProcedureStore", "comeToMarker", "(I)V"⟩
abbrev w_S_comeToMarker : List Cond := Cond.code y_S_comeToMarker b_S_comeToMarker 2 none :: TBL
abbrev b_S_areAllStalled : ByteArray := prog_1_method_21_code
abbrev y_S_areAllStalled : MethodName := ⟨"PartitionedProcedureStore", "areAllStalled", "()Z"⟩
abbrev w_S_areAllStalled : List Cond := Cond.code y_S_areAllStalled b_S_areAllStalled 5 (some .boolean) :: TBL
abbrev b_S_passOnAtAllSites : ByteArray := prog_1_method_22_code
abbrev y_S_passOnAtAllSites : MethodName := ⟨"PartitionedProcedureStore", "passOnAtAllSites", "()V"⟩
abbrev w_S_passOnAtAllSites : List Cond := Cond.code y_S_passOnAtAllSites b_S_passOnAtAllSites 5 none :: TBL
abbrev b_Ar_fill1 : ByteArray := prog_19_method_103_code
abbrev y_Ar_fill1 : MethodName := ⟨"java/util/Arrays", "fill", "([II)V"⟩
abbrev w_Ar_fill1 : List Cond := Cond.code y_Ar_fill1 b_Ar_fill1 4 none :: TBL
abbrev b_R_begin : ByteArray := prog_4_method_3_code
abbrev y_R_begin : MethodName := ⟨"PartitionedProcedureStore$Runner", "begin", "(LPartitionedProcedureStore$Task;)V"⟩
abbrev w_R_begin : List Cond := Cond.code y_R_begin b_R_begin 2 none :: TBL
abbrev b_R_isReachable : ByteArray := prog_4_method_6_code
abbrev y_R_isReachable : MethodName := ⟨"PartitionedProcedureStore$Runner", "isReachable", "(I)Z"⟩
abbrev w_R_isReachable : List Cond := Cond.code y_R_isReachable b_R_isReachable 2 (some .boolean) :: TBL
abbrev b_R_isPresent : ByteArray := prog_4_method_7_code
abbrev y_R_isPresent : MethodName := ⟨"PartitionedProcedureStore$Runner", "isPresent", "(I)Z"⟩
abbrev w_R_isPresent : List Cond := Cond.code y_R_isPresent b_R_isPresent 2 (some .boolean) :: TBL
abbrev b_R_readRow : ByteArray := prog_4_method_8_code
abbrev y_R_readRow : MethodName := ⟨"PartitionedProcedureStore$Runner", "readRow", "(LPartitionedProcedureStore$Statement;)I"⟩
abbrev w_R_readRow : List Cond := Cond.code y_R_readRow b_R_readRow 3 (some .int) :: TBL
abbrev b_R_writeRow : ByteArray := prog_4_method_9_code
abbrev y_R_writeRow : MethodName := ⟨"PartitionedProcedureStore$Runner", "writeRow", "(IJ)I"⟩
abbrev w_R_writeRow : List Cond := Cond.code y_R_writeRow b_R_writeRow 4 (some .int) :: TBL
abbrev b_R_loadCell : ByteArray := prog_4_method_10_code
abbrev y_R_loadCell : MethodName := ⟨"PartitionedProcedureStore$Runner", "loadCell", "(LPartitionedProcedureStore$Statement;)I"⟩
abbrev w_R_loadCell : List Cond := Cond.code y_R_loadCell b_R_loadCell 3 (some .int) :: TBL
abbrev b_R_storeCell : ByteArray := prog_4_method_11_code
abbrev y_R_storeCell : MethodName := ⟨"PartitionedProcedureStore$Runner", "storeCell", "(LPartitionedProcedureStore$Statement;)I"⟩
abbrev w_R_storeCell : List Cond := Cond.code y_R_storeCell b_R_storeCell 3 (some .int) :: TBL
abbrev b_R_putOut : ByteArray := prog_4_method_12_code
abbrev y_R_putOut : MethodName := ⟨"PartitionedProcedureStore$Runner", "putOut", "(I)I"⟩
abbrev w_R_putOut : List Cond := Cond.code y_R_putOut b_R_putOut 2 (some .int) :: TBL
abbrev b_R_execute : ByteArray := prog_4_method_5_code
abbrev y_R_execute : MethodName := ⟨"PartitionedProcedureStore$Runner", "execute", "(LPartitionedProcedureStore$Statement;)I"⟩
abbrev w_R_execute : List Cond := Cond.code y_R_execute b_R_execute 2 (some .int) :: TBL
abbrev b_R_abort : ByteArray := prog_4_method_4_code
abbrev y_R_abort : MethodName := ⟨"PartitionedProcedureStore$Runner", "abort", "(I)V"⟩
abbrev w_R_abort : List Cond := Cond.code y_R_abort b_R_abort 2 none :: TBL
abbrev b_R_run : ByteArray := prog_4_method_2_code
abbrev y_R_run : MethodName := ⟨"PartitionedProcedureStore$Runner", "run", "(LPartitionedProcedureStore$Task;)Z"⟩
abbrev w_R_run : List Cond := Cond.code y_R_run b_R_run 6 (some .boolean) :: TBL
abbrev b_C_finish : ByteArray := prog_2_method_3_code
abbrev y_C_finish : MethodName := ⟨"PartitionedProcedureStore$Client", "finish", "(ZLPartitionedProcedureStore$Runner;)V"⟩
abbrev w_C_finish : List Cond := Cond.code y_C_finish b_C_finish 3 none :: TBL
abbrev b_S_finish : ByteArray := prog_1_method_23_code
abbrev y_S_finish : MethodName := ⟨"PartitionedProcedureStore", "finish", "(LPartitionedProcedureStore$Task;)V"⟩
abbrev w_S_finish : List Cond := Cond.code y_S_finish b_S_finish 3 none :: TBL
abbrev b_S_step : ByteArray := prog_1_method_6_code
abbrev y_S_step : MethodName := ⟨"PartitionedProcedureStore", "step", "(I)I"⟩
abbrev w_S_step : List Cond := Cond.code y_S_step b_S_step 3 (some .int) :: TBL
abbrev b_S_flush : ByteArray := prog_1_method_7_code
abbrev y_S_flush : MethodName := ⟨"PartitionedProcedureStore", "flush", "()I"⟩
abbrev w_S_flush : List Cond := Cond.code y_S_flush b_S_flush 1 (some .int) :: TBL
abbrev b_S_snapshot : ByteArray := prog_1_method_8_code
abbrev y_S_snapshot : MethodName := ⟨"PartitionedProcedureStore", "snapshot", "()I"⟩
abbrev w_S_snapshot : List Cond := Cond.code y_S_snapshot b_S_snapshot 5 (some .int) :: TBL
abbrev b_S_scan : ByteArray := prog_1_method_9_code
abbrev y_S_scan : MethodName := ⟨"PartitionedProcedureStore", "scan", "(II)I"⟩
abbrev w_S_scan : List Cond := Cond.code y_S_scan b_S_scan 4 (some .int) :: TBL
abbrev b_Q_restart : ByteArray := prog_5_method_5_code
abbrev y_Q_restart : MethodName := ⟨"PartitionedProcedureStore$Site", "restart", "()V"⟩
abbrev w_Q_restart : List Cond := Cond.code y_Q_restart b_Q_restart 1 none :: TBL
abbrev b_C_lose : ByteArray := prog_2_method_5_code
abbrev y_C_lose : MethodName := ⟨"PartitionedProcedureStore$Client", "lose", "()V"⟩
abbrev w_C_lose : List Cond := Cond.code y_C_lose b_C_lose 1 none :: TBL
abbrev b_S_dropLogAbove : ByteArray := prog_1_method_28_code
abbrev y_S_dropLogAbove : MethodName := ⟨"PartitionedProcedureStore", "dropLogAbove", "(I)V"⟩
abbrev w_S_dropLogAbove : List Cond := Cond.code y_S_dropLogAbove b_S_dropLogAbove 3 none :: TBL
abbrev b_S_crash : ByteArray := prog_1_method_10_code
abbrev y_S_crash : MethodName := ⟨"PartitionedProcedureStore", "crash", "()I"⟩
abbrev w_S_crash : List Cond := Cond.code y_S_crash b_S_crash 5 (some .int) :: TBL
abbrev b_S_answer : ByteArray := prog_1_method_11_code
abbrev y_S_answer : MethodName := ⟨"PartitionedProcedureStore", "answer", "(I)I"⟩
abbrev w_S_answer : List Cond := Cond.code y_S_answer b_S_answer 2 (some .int) :: TBL
abbrev b_C_tell : ByteArray := prog_2_method_6_code
abbrev y_C_tell : MethodName := ⟨"PartitionedProcedureStore$Client", "tell", "(I)J"⟩
abbrev w_C_tell : List Cond := Cond.code y_C_tell b_C_tell 2 (some .long) :: TBL
abbrev b_S_output : ByteArray := prog_1_method_12_code
abbrev y_S_output : MethodName := ⟨"PartitionedProcedureStore", "output", "(II)J"⟩
abbrev w_S_output : List Cond := Cond.code y_S_output b_S_output 3 (some .long) :: TBL
abbrev b_S_row : ByteArray := prog_1_method_13_code
abbrev y_S_row : MethodName := ⟨"PartitionedProcedureStore", "row", "(I)J"⟩
abbrev w_S_row : List Cond := Cond.code y_S_row b_S_row 2 (some .long) :: TBL
abbrev b_S_replicated : ByteArray := prog_1_method_14_code
abbrev y_S_replicated : MethodName := ⟨"PartitionedProcedureStore", "replicated", "(I)J"⟩
abbrev w_S_replicated : List Cond := Cond.code y_S_replicated b_S_replicated 2 (some .long) :: TBL
abbrev b_S_waiting : ByteArray := prog_1_method_15_code
abbrev y_S_waiting : MethodName := ⟨"PartitionedProcedureStore", "waiting", "(I)I"⟩
abbrev w_S_waiting : List Cond := Cond.code y_S_waiting b_S_waiting 2 (some .int) :: TBL
abbrev b_S_rows : ByteArray := prog_1_method_16_code
abbrev y_S_rows : MethodName := ⟨"PartitionedProcedureStore", "rows", "(I)I"⟩
abbrev w_S_rows : List Cond := Cond.code y_S_rows b_S_rows 2 (some .int) :: TBL
abbrev b_S_stalledNumber : ByteArray := prog_1_method_29_code
abbrev y_S_stalledNumber : MethodName := ⟨"PartitionedProcedureStore", "stalledNumber", "()I"⟩
abbrev w_S_stalledNumber : List Cond := Cond.code y_S_stalledNumber b_S_stalledNumber 6 (some .int) :: TBL
abbrev b_S_count : ByteArray := prog_1_method_17_code
abbrev y_S_count : MethodName := ⟨"PartitionedProcedureStore", "count", "(I)I"⟩
abbrev w_S_count : List Cond := Cond.code y_S_count b_S_count 2 (some .int) :: TBL
abbrev b_L_cell : ByteArray := method_2_code
abbrev y_L_cell : MethodName := ⟨"PartitionedProcedureStoreLaw", "cell", "([II)I"⟩
abbrev w_L_cell : List Cond := Cond.code y_L_cell b_L_cell 2 (some .int) :: TBL
abbrev b_M_init : ByteArray := prog_10_method_1_code
abbrev y_M_init : MethodName := ⟨"PartitionedProcedureStoreModel", "<init>", "(I)V"⟩
abbrev w_M_init : List Cond := Cond.code y_M_init b_M_init 2 none :: TBL
abbrev b_M_outside : ByteArray := prog_10_method_2_code
abbrev y_M_outside : MethodName := ⟨"PartitionedProcedureStoreModel", "outside", "(II)Z"⟩
abbrev w_M_outside : List Cond := Cond.code y_M_outside b_M_outside 2 (some .boolean) :: TBL
abbrev b_M_open : ByteArray := prog_10_method_3_code
abbrev y_M_open : MethodName := ⟨"PartitionedProcedureStoreModel", "open", "(IZ)I"⟩
abbrev w_M_open : List Cond := Cond.code y_M_open b_M_open 3 (some .int) :: TBL
abbrev b_M_add : ByteArray := prog_10_method_4_code
abbrev y_M_add : MethodName := ⟨"PartitionedProcedureStoreModel", "add", "(IIII)I"⟩
abbrev w_M_add : List Cond := Cond.code y_M_add b_M_add 7 (some .int) :: TBL
abbrev b_M_deploy : ByteArray := prog_10_method_5_code
abbrev y_M_deploy : MethodName := ⟨"PartitionedProcedureStoreModel", "deploy", "()I"⟩
abbrev w_M_deploy : List Cond := Cond.code y_M_deploy b_M_deploy 5 (some .int) :: TBL
abbrev b_M_logged : ByteArray := prog_10_method_14_code
abbrev y_M_logged : MethodName := ⟨"PartitionedProcedureStoreModel", "logged", "()I"⟩
abbrev w_M_logged : List Cond := Cond.code y_M_logged b_M_logged 3 (some .int) :: TBL
abbrev b_M_next : ByteArray := prog_10_method_16_code
abbrev y_M_next : MethodName := ⟨"PartitionedProcedureStoreModel", "next", "(I)I"⟩
abbrev w_M_next : List Cond := Cond.code y_M_next b_M_next 2 (some .int) :: TBL
abbrev b_M_invoke : ByteArray := prog_10_method_15_code
abbrev y_M_invoke : MethodName := ⟨"PartitionedProcedureStoreModel", "invoke", "(IIIII)I"⟩
abbrev w_M_invoke : List Cond := Cond.code y_M_invoke b_M_invoke 7 (some .int) :: TBL
abbrev b_M_partitionOf : ByteArray := prog_10_method_6_code
abbrev y_M_partitionOf : MethodName := ⟨"PartitionedProcedureStoreModel", "partitionOf", "(I)I"⟩
abbrev w_M_partitionOf : List Cond := Cond.code y_M_partitionOf b_M_partitionOf 3 (some .int) :: TBL
abbrev b_M_waits : ByteArray := prog_10_method_17_code
abbrev y_M_waits : MethodName := ⟨"PartitionedProcedureStoreModel", "waits", "(II)Z"⟩
abbrev w_M_waits : List Cond := Cond.code y_M_waits b_M_waits 3 (some .boolean) :: TBL
abbrev b_M_rowsOf : ByteArray := prog_10_method_18_code
abbrev y_M_rowsOf : MethodName := ⟨"PartitionedProcedureStoreModel", "rowsOf", "(I)I"⟩
abbrev w_M_rowsOf : List Cond := Cond.code y_M_rowsOf b_M_rowsOf 4 (some .int) :: TBL
abbrev b_M_foreign : ByteArray := prog_10_method_7_code
abbrev y_M_foreign : MethodName := ⟨"PartitionedProcedureStoreModel", "foreign", "(II)Z"⟩
abbrev w_M_foreign : List Cond := Cond.code y_M_foreign b_M_foreign 3 (some .boolean) :: TBL
abbrev b_M_put : ByteArray := prog_10_method_9_code
abbrev y_M_put : MethodName := ⟨"PartitionedProcedureStoreModel", "put", "(IZI)Z"⟩
abbrev w_M_put : List Cond := Cond.code y_M_put b_M_put 4 (some .boolean) :: TBL
abbrev b_M_statement : ByteArray := prog_10_method_8_code
abbrev y_M_statement : MethodName := ⟨"PartitionedProcedureStoreModel", "statement", "(II)Z"⟩
abbrev w_M_statement : List Cond := Cond.code y_M_statement b_M_statement 5 (some .boolean) :: TBL
abbrev b_M_execute : ByteArray := prog_10_method_10_code
abbrev y_M_execute : MethodName := ⟨"PartitionedProcedureStoreModel", "execute", "(I)V"⟩
abbrev w_M_execute : List Cond := Cond.code y_M_execute b_M_execute 5 none :: TBL
abbrev b_M_replay : ByteArray := prog_10_method_12_code
abbrev y_M_replay : MethodName := ⟨"PartitionedProcedureStoreModel", "replay", "(I)V"⟩
abbrev w_M_replay : List Cond := Cond.code y_M_replay b_M_replay 3 none :: TBL
abbrev b_M_tellClients : ByteArray := prog_10_method_11_code
abbrev y_M_tellClients : MethodName := ⟨"PartitionedProcedureStoreModel", "tellClients", "()V"⟩
abbrev w_M_tellClients : List Cond := Cond.code y_M_tellClients b_M_tellClients 4 none :: TBL
abbrev b_M_completeIfDone : ByteArray := prog_10_method_13_code
abbrev y_M_completeIfDone : MethodName := ⟨"PartitionedProcedureStoreModel", "completeIfDone", "()V"⟩
abbrev w_M_completeIfDone : List Cond := Cond.code y_M_completeIfDone b_M_completeIfDone 2 none :: TBL
abbrev b_M_step : ByteArray := prog_10_method_19_code
abbrev y_M_step : MethodName := ⟨"PartitionedProcedureStoreModel", "step", "(I)I"⟩
abbrev w_M_step : List Cond := Cond.code y_M_step b_M_step 3 (some .int) :: TBL
abbrev b_M_flush : ByteArray := prog_10_method_20_code
abbrev y_M_flush : MethodName := ⟨"PartitionedProcedureStoreModel", "flush", "()I"⟩
abbrev w_M_flush : List Cond := Cond.code y_M_flush b_M_flush 1 (some .int) :: TBL
abbrev b_M_snapshot : ByteArray := prog_10_method_21_code
abbrev y_M_snapshot : MethodName := ⟨"PartitionedProcedureStoreModel", "snapshot", "()I"⟩
abbrev w_M_snapshot : List Cond := Cond.code y_M_snapshot b_M_snapshot 1 (some .int) :: TBL
abbrev b_M_scan : ByteArray := prog_10_method_22_code
abbrev y_M_scan : MethodName := ⟨"PartitionedProcedureStoreModel", "scan", "(II)I"⟩
abbrev w_M_scan : List Cond := Cond.code y_M_scan b_M_scan 5 (some .int) :: TBL
abbrev b_M_crash : ByteArray := prog_10_method_23_code
abbrev y_M_crash : MethodName := ⟨"PartitionedProcedureStoreModel", "crash", "()I"⟩
abbrev w_M_crash : List Cond := Cond.code y_M_crash b_M_crash 2 (some .int) :: TBL
abbrev b_M_answer : ByteArray := prog_10_method_24_code
abbrev y_M_answer : MethodName := ⟨"PartitionedProcedureStoreModel", "answer", "(I)I"⟩
abbrev w_M_answer : List Cond := Cond.code y_M_answer b_M_answer 2 (some .int) :: TBL
abbrev b_M_output : ByteArray := prog_10_method_25_code
abbrev y_M_output : MethodName := ⟨"PartitionedProcedureStoreModel", "output", "(II)J"⟩
abbrev w_M_output : List Cond := Cond.code y_M_output b_M_output 3 (some .long) :: TBL
abbrev b_M_row : ByteArray := prog_10_method_26_code
abbrev y_M_row : MethodName := ⟨"PartitionedProcedureStoreModel", "row", "(I)J"⟩
abbrev w_M_row : List Cond := Cond.code y_M_row b_M_row 2 (some .long) :: TBL
abbrev b_M_replicated : ByteArray := prog_10_method_27_code
abbrev y_M_replicated : MethodName := ⟨"PartitionedProcedureStoreModel", "replicated", "(I)J"⟩
abbrev w_M_replicated : List Cond := Cond.code y_M_replicated b_M_replicated 2 (some .long) :: TBL
abbrev b_M_waiting : ByteArray := prog_10_method_28_code
abbrev y_M_waiting : MethodName := ⟨"PartitionedProcedureStoreModel", "waiting", "(I)I"⟩
abbrev w_M_waiting : List Cond := Cond.code y_M_waiting b_M_waiting 4 (some .int) :: TBL
abbrev b_M_rows : ByteArray := prog_10_method_29_code
abbrev y_M_rows : MethodName := ⟨"PartitionedProcedureStoreModel", "rows", "(I)I"⟩
abbrev w_M_rows : List Cond := Cond.code y_M_rows b_M_rows 2 (some .int) :: TBL
abbrev b_M_stalledAt : ByteArray := prog_10_method_30_code
abbrev y_M_stalledAt : MethodName := ⟨"PartitionedProcedureStoreModel", "stalledAt", "()I"⟩
abbrev w_M_stalledAt : List Cond := Cond.code y_M_stalledAt b_M_stalledAt 2 (some .int) :: TBL
abbrev b_M_count : ByteArray := prog_10_method_31_code
abbrev y_M_count : MethodName := ⟨"PartitionedProcedureStoreModel", "count", "(I)I"⟩
abbrev w_M_count : List Cond := Cond.code y_M_count b_M_count 2 (some .int) :: TBL
set_option maxRecDepth 20000 in
theorem LK_0 : (Cond.methodLink "java/util/AbstractCollection" 1 ⟨"java/lang/Object", "<init>", "()V"⟩) ∈ TBL := tb0 42 rfl rfl
set_option maxRecDepth 20000 in
theorem LK_1 : (Cond.instanceMethod ⟨"java/lang/Object", "<init>", "()V"⟩) ∈ TBL := tb0 25 rfl rfl
set_option maxRecDepth 20000 in
theorem LK_objcode : Cond.code Lib.objectInit ⟨#[0xb1]⟩ 1 none ∈ TBL := tb0 26 rfl rfl
set_option maxRecDepth 20000 in
theorem LK_code_Ac_init : Cond.code y_Ac_init b_Ac_init 1 none ∈ TBL := tb0 41 rfl rfl
set_option maxRecDepth 20000 in
theorem LK_4 : (Cond.initialized "java/util/AbstractCollection") ∈ TBL := tb0 2 rfl rfl
set_option maxRecDepth 20000 in
theorem LK_5 : (Cond.methodLink "java/util/AbstractList" 1 ⟨"java/util/AbstractCollection", "<init>", "()V"⟩) ∈ TBL := tb0 39 rfl rfl
set_option maxRecDepth 20000 in
theorem LK_6 : (Cond.instanceMethod ⟨"java/util/AbstractCollection", "<init>", "()V"⟩) ∈ TBL := tb0 40 rfl rfl
set_option maxRecDepth 20000 in
theorem LK_7 : (Cond.fieldLink "java/util/AbstractList" 7 "java/util/AbstractList" "modCount" "I") ∈ TBL := tb0 47 rfl rfl
set_option maxRecDepth 20000 in
theorem LK_code_Ab_init : Cond.code y_Ab_init b_Ab_init 1 none ∈ TBL := tb0 38 rfl rfl
set_option maxRecDepth 20000 in
theorem LK_9 : (Cond.initialized "java/util/AbstractList") ∈ TBL := tb0 3 rfl rfl
set_option maxRecDepth 20000 in
theorem LK_10 : (Cond.methodLink "java/util/ArrayList" 1 ⟨"java/util/AbstractList", "<init>", "()V"⟩) ∈ TBL := tb0 36 rfl rfl
set_option maxRecDepth 20000 in
theorem LK_11 : (Cond.instanceMethod ⟨"java/util/AbstractList", "<init>", "()V"⟩) ∈ TBL := tb0 37 rfl rfl
set_option maxRecDepth 20000 in
theorem LK_12 : (Cond.fieldLink "java/util/ArrayList" 39 "java/util/ArrayList" "DEFAULTCAPACITY_EMPTY_ELEMENTDATA" "[Ljava/lang/Object;") ∈ TBL := tb0 43 rfl rfl
set_option maxRecDepth 20000 in
theorem LK_13 : (Cond.fieldLink "java/util/ArrayList" 9 "java/util/ArrayList" "elementData" "[Ljava/lang/Object;") ∈ TBL := tb0 45 rfl rfl
set_option maxRecDepth 20000 in
theorem LK_14 : (Cond.methodLink "PartitionedProcedureStore$Table" 3 ⟨"java/lang/Object", "<init>", "()V"⟩) ∈ TBL := tb0 62 rfl rfl
set_option maxRecDepth 20000 in
theorem LK_15 : (Cond.arrayClass FieldType.long) ∈ TBL := tb0 78 rfl rfl
set_option maxRecDepth 20000 in
theorem LK_16 : (Cond.fieldLink "PartitionedProcedureStore$Table" 9 "PartitionedProcedureStore$Table" "values" "[J") ∈ TBL := tb0 67 rfl rfl
set_option maxRecDepth 20000 in
theorem LK_17 : (Cond.arrayClass FieldType.int) ∈ TBL := tb0 79 rfl rfl
set_option maxRecDepth 20000 in
theorem LK_18 : (Cond.fieldLink "PartitionedProcedureStore$Table" 15 "PartitionedProcedureStore$Table" "cells" "[I") ∈ TBL := tb0 70 rfl rfl
set_option maxRecDepth 20000 in
theorem LK_19 : (Cond.constantLong "PartitionedProcedureStore$Table" 19 (1000000000000 : Int64)) ∈ TBL := tb0 63 rfl rfl
set_option maxRecDepth 20000 in
theorem LK_20 : (Cond.methodLink "PartitionedProcedureStore$Table" 21 ⟨"java/util/Arrays", "fill", "([JJ)V"⟩) ∈ TBL := tb0 64 rfl rfl
set_option maxRecDepth 20000 in
theorem LK_21 : (Cond.static ⟨"java/util/Arrays", "fill", "([JJ)V"⟩) ∈ TBL := tb0 65 rfl rfl
set_option maxRecDepth 20000 in
theorem LK_22 : (Cond.initialized "java/util/Arrays") ∈ TBL := tb0 6 rfl rfl
set_option maxRecDepth 20000 in
theorem LK_code_Ar_fill0 : Cond.code y_Ar_fill0 b_Ar_fill0 5 none ∈ TBL := tb0 66 rfl rfl
set_option maxRecDepth 20000 in
theorem LK_24 : (Cond.methodLink "PartitionedProcedureStore$Runner" 3 ⟨"java/lang/Object", "<init>", "()V"⟩) ∈ TBL := tb0 91 rfl rfl
set_option maxRecDepth 20000 in
theorem LK_25 : (Cond.classLink "PartitionedProcedureStore$Runner" 9 "PartitionedProcedureStore$Table") ∈ TBL := tb0 92 rfl rfl
set_option maxRecDepth 20000 in
theorem LK_26 : (Cond.instantiable "PartitionedProcedureStore$Table" 2) ∈ TBL := tb0 58 rfl rfl
set_option maxRecDepth 20000 in
theorem LK_27 : (Cond.initialized "PartitionedProcedureStore$Table") ∈ TBL := tb0 5 rfl rfl
set_option maxRecDepth 20000 in
theorem LK_code_B_init : Cond.code y_B_init b_B_init 1 none ∈ TBL := tb0 61 rfl rfl
set_option maxRecDepth 20000 in
theorem LK_29 : (Cond.methodLink "PartitionedProcedureStore$Runner" 11 ⟨"PartitionedProcedureStore$Table", "<init>", "()V"⟩) ∈ TBL := tb0 93 rfl rfl
set_option maxRecDepth 20000 in
theorem LK_30 : (Cond.instanceMethod ⟨"PartitionedProcedureStore$Table", "<init>", "()V"⟩) ∈ TBL := tb0 60 rfl rfl
set_option maxRecDepth 20000 in
theorem LK_31 : (Cond.fieldLink "PartitionedProcedureStore$Runner" 12 "PartitionedProcedureStore$Runner" "live" "LPartitionedProcedureStore$Table;") ∈ TBL := tb0 94 rfl rfl
set_option maxRecDepth 20000 in
theorem LK_32 : (Cond.fieldLink "PartitionedProcedureStore$Runner" 18 "PartitionedProcedureStore$Runner" "before" "LPartitionedProcedureStore$Table;") ∈ TBL := tb0 97 rfl rfl
set_option maxRecDepth 20000 in
theorem LK_33 : (Cond.fieldLink "PartitionedProcedureStore$Runner" 21 "PartitionedProcedureStore$Runner" "registers" "[I") ∈ TBL := tb0 98 rfl rfl
set_option maxRecDepth 20000 in
theorem LK_34 : (Cond.fieldLink "PartitionedProcedureStore$Runner" 25 "PartitionedProcedureStore$Runner" "home" "I") ∈ TBL := tb0 99 rfl rfl
set_option maxRecDepth 20000 in
theorem LK_35 : (Cond.fieldLink "PartitionedProcedureStore$Runner" 29 "PartitionedProcedureStore$Runner" "outputs" "[I") ∈ TBL := tb0 100 rfl rfl
set_option maxRecDepth 20000 in
theorem LK_36 : (Cond.fieldLink "PartitionedProcedureStore$Runner" 32 "PartitionedProcedureStore$Runner" "outputSize" "I") ∈ TBL := tb0 102 rfl rfl
set_option maxRecDepth 20000 in
theorem LK_37 : (Cond.fieldLink "PartitionedProcedureStore$Runner" 35 "PartitionedProcedureStore$Runner" "fault" "I") ∈ TBL := tb0 104 rfl rfl
set_option maxRecDepth 20000 in
theorem LK_38 : (Cond.fieldLink "PartitionedProcedureStore$Runner" 38 "PartitionedProcedureStore$Runner" "partitions" "I") ∈ TBL := tb0 96 rfl rfl
set_option maxRecDepth 20000 in
theorem LK_39 : (Cond.methodLink "PartitionedProcedureStore$Procedure" 3 ⟨"java/lang/Object", "<init>", "()V"⟩) ∈ TBL := tb0 127 rfl rfl
set_option maxRecDepth 20000 in
theorem LK_40 : (Cond.classLink "PartitionedProcedureStore$Procedure" 9 "java/util/ArrayList") ∈ TBL := tb0 128 rfl rfl
set_option maxRecDepth 20000 in
theorem LK_41 : (Cond.instantiable "java/util/ArrayList" 3) ∈ TBL := tb0 32 rfl rfl
set_option maxRecDepth 20000 in
theorem LK_42 : (Cond.initialized "java/util/ArrayList") ∈ TBL := tb0 4 rfl rfl
set_option maxRecDepth 20000 in
theorem LK_code_A_init : Cond.code y_A_init b_A_init 1 none ∈ TBL := tb0 35 rfl rfl
set_option maxRecDepth 20000 in
theorem LK_44 : (Cond.methodLink "PartitionedProcedureStore$Procedure" 11 ⟨"java/util/ArrayList", "<init>", "()V"⟩) ∈ TBL := tb0 129 rfl rfl
set_option maxRecDepth 20000 in
theorem LK_45 : (Cond.instanceMethod ⟨"java/util/ArrayList", "<init>", "()V"⟩) ∈ TBL := tb0 34 rfl rfl
set_option maxRecDepth 20000 in
theorem LK_46 : (Cond.fieldLink "PartitionedProcedureStore$Procedure" 12 "PartitionedProcedureStore$Procedure" "statements" "Ljava/util/ArrayList;") ∈ TBL := tb0 130 rfl rfl
set_option maxRecDepth 20000 in
theorem LK_47 : (Cond.fieldLink "PartitionedProcedureStore$Procedure" 18 "PartitionedProcedureStore$Procedure" "multi" "Z") ∈ TBL := tb0 133 rfl rfl
set_option maxRecDepth 20000 in
theorem LK_48 : (Cond.fieldLink "PartitionedProcedureStore$Procedure" 22 "PartitionedProcedureStore$Procedure" "deployed" "Z") ∈ TBL := tb0 136 rfl rfl
set_option maxRecDepth 20000 in
theorem LK_49 : (Cond.methodLink "PartitionedProcedureStore$Client" 3 ⟨"java/lang/Object", "<init>", "()V"⟩) ∈ TBL := tb0 149 rfl rfl
set_option maxRecDepth 20000 in
theorem LK_50 : (Cond.fieldLink "PartitionedProcedureStore$Client" 9 "PartitionedProcedureStore$Client" "state" "I") ∈ TBL := tb0 150 rfl rfl
set_option maxRecDepth 20000 in
theorem LK_51 : (Cond.fieldLink "PartitionedProcedureStore$Client" 15 "PartitionedProcedureStore$Client" "number" "I") ∈ TBL := tb0 152 rfl rfl
set_option maxRecDepth 20000 in
theorem LK_52 : (Cond.fieldLink "PartitionedProcedureStore$Client" 18 "PartitionedProcedureStore$Client" "done" "Z") ∈ TBL := tb0 153 rfl rfl
set_option maxRecDepth 20000 in
theorem LK_53 : (Cond.fieldLink "PartitionedProcedureStore$Client" 22 "PartitionedProcedureStore$Client" "committed" "Z") ∈ TBL := tb0 154 rfl rfl
set_option maxRecDepth 20000 in
theorem LK_54 : (Cond.fieldLink "PartitionedProcedureStore$Client" 25 "PartitionedProcedureStore$Client" "fault" "I") ∈ TBL := tb0 155 rfl rfl
set_option maxRecDepth 20000 in
theorem LK_55 : (Cond.fieldLink "PartitionedProcedureStore$Client" 28 "PartitionedProcedureStore$Client" "outputSize" "I") ∈ TBL := tb0 156 rfl rfl
set_option maxRecDepth 20000 in
theorem LK_56 : (Cond.fieldLink "PartitionedProcedureStore$Client" 31 "PartitionedProcedureStore$Client" "outputs" "[I") ∈ TBL := tb0 157 rfl rfl
set_option maxRecDepth 20000 in
theorem LK_57 : (Cond.methodLink "PartitionedProcedureStore$Site" 1 ⟨"java/lang/Object", "<init>", "()V"⟩) ∈ TBL := tb0 179 rfl rfl
set_option maxRecDepth 20000 in
theorem LK_58 : (Cond.classLink "PartitionedProcedureStore$Site" 7 "java/util/ArrayList") ∈ TBL := tb0 180 rfl rfl
set_option maxRecDepth 20000 in
theorem LK_59 : (Cond.methodLink "PartitionedProcedureStore$Site" 9 ⟨"java/util/ArrayList", "<init>", "()V"⟩) ∈ TBL := tb0 181 rfl rfl
set_option maxRecDepth 20000 in
theorem LK_60 : (Cond.fieldLink "PartitionedProcedureStore$Site" 10 "PartitionedProcedureStore$Site" "queue" "Ljava/util/ArrayList;") ∈ TBL := tb0 182 rfl rfl
set_option maxRecDepth 20000 in
theorem LK_61 : (Cond.fieldLink "PartitionedProcedureStore$Site" 16 "PartitionedProcedureStore$Site" "stalled" "Z") ∈ TBL := tb0 184 rfl rfl
set_option maxRecDepth 20000 in
theorem LK_62 : (Cond.fieldLink "PartitionedProcedureStore$Site" 20 "PartitionedProcedureStore$Site" "marked" "Z") ∈ TBL := tb0 186 rfl rfl
set_option maxRecDepth 20000 in
theorem LK_63 : (Cond.fieldLink "PartitionedProcedureStore$Site" 23 "PartitionedProcedureStore$Site" "rowsLeft" "I") ∈ TBL := tb0 188 rfl rfl
set_option maxRecDepth 20000 in
theorem LK_64 : (Cond.fieldLink "PartitionedProcedureStore" 64 "PartitionedProcedureStore" "partitions" "I") ∈ TBL := tb0 199 rfl rfl
set_option maxRecDepth 20000 in
theorem LK_65 : (Cond.classLink "PartitionedProcedureStore" 78 "PartitionedProcedureStore$Site") ∈ TBL := tb0 173 rfl rfl
set_option maxRecDepth 20000 in
theorem LK_66 : (Cond.fieldLink "PartitionedProcedureStore" 80 "PartitionedProcedureStore" "sites" "[LPartitionedProcedureStore$Site;") ∈ TBL := tb0 202 rfl rfl
set_option maxRecDepth 20000 in
theorem LK_67 : (Cond.instantiable "PartitionedProcedureStore$Site" 4) ∈ TBL := tb0 175 rfl rfl
set_option maxRecDepth 20000 in
theorem LK_68 : (Cond.initialized "PartitionedProcedureStore$Site") ∈ TBL := tb0 11 rfl rfl
set_option maxRecDepth 20000 in
theorem LK_code_Q_init : Cond.code y_Q_init b_Q_init 1 none ∈ TBL := tb0 178 rfl rfl
set_option maxRecDepth 20000 in
theorem NW_70 : (Cond.methodLinkNest "PartitionedProcedureStore" 84 ⟨"PartitionedProcedureStore$Site", "<init>", "()V"⟩ "PartitionedProcedureStore") ∈ nestW := by decide +kernel
set_option maxRecDepth 20000 in
theorem LK_71 : (Cond.instanceMethod ⟨"PartitionedProcedureStore$Site", "<init>", "()V"⟩) ∈ TBL := tb0 177 rfl rfl
set_option maxRecDepth 20000 in
theorem LK_72 : (Cond.fieldLink "PartitionedProcedureStore" 21 "PartitionedProcedureStore" "clients" "[LPartitionedProcedureStore$Client;") ∈ TBL := tb0 203 rfl rfl
set_option maxRecDepth 20000 in
theorem LK_73 : (Cond.classLink "PartitionedProcedureStore" 19 "PartitionedProcedureStore$Client") ∈ TBL := tb0 29 rfl rfl
set_option maxRecDepth 20000 in
theorem LK_74 : (Cond.instantiable "PartitionedProcedureStore$Client" 7) ∈ TBL := tb0 145 rfl rfl
set_option maxRecDepth 20000 in
theorem LK_75 : (Cond.initialized "PartitionedProcedureStore$Client") ∈ TBL := tb0 10 rfl rfl
set_option maxRecDepth 20000 in
theorem LK_code_C_init : Cond.code y_C_init b_C_init 1 none ∈ TBL := tb0 148 rfl rfl
set_option maxRecDepth 20000 in
theorem NW_77 : (Cond.methodLinkNest "PartitionedProcedureStore" 77 ⟨"PartitionedProcedureStore$Client", "<init>", "()V"⟩ "PartitionedProcedureStore") ∈ nestW := by decide +kernel
set_option maxRecDepth 20000 in
theorem LK_78 : (Cond.instanceMethod ⟨"PartitionedProcedureStore$Client", "<init>", "()V"⟩) ∈ TBL := tb0 147 rfl rfl
set_option maxRecDepth 20000 in
theorem LK_79 : (Cond.methodLink "PartitionedProcedureStore" 1 ⟨"java/lang/Object", "<init>", "()V"⟩) ∈ TBL := tb0 24 rfl rfl
set_option maxRecDepth 20000 in
theorem LK_80 : (Cond.classLink "PartitionedProcedureStore" 9 "PartitionedProcedureStore$Procedure") ∈ TBL := tb0 27 rfl rfl
set_option maxRecDepth 20000 in
theorem LK_81 : (Cond.fieldLink "PartitionedProcedureStore" 11 "PartitionedProcedureStore" "procedures" "[LPartitionedProcedureStore$Procedure;") ∈ TBL := tb0 200 rfl rfl
set_option maxRecDepth 20000 in
theorem LK_82 : (Cond.fieldLink "PartitionedProcedureStore" 15 "PartitionedProcedureStore" "draft" "LPartitionedProcedureStore$Procedure;") ∈ TBL := tb0 201 rfl rfl
set_option maxRecDepth 20000 in
theorem LK_83 : (Cond.classLink "PartitionedProcedureStore" 25 "java/util/ArrayList") ∈ TBL := tb0 31 rfl rfl
set_option maxRecDepth 20000 in
theorem LK_84 : (Cond.methodLink "PartitionedProcedureStore" 27 ⟨"java/util/ArrayList", "<init>", "()V"⟩) ∈ TBL := tb0 33 rfl rfl
set_option maxRecDepth 20000 in
theorem LK_85 : (Cond.fieldLink "PartitionedProcedureStore" 28 "PartitionedProcedureStore" "log" "Ljava/util/ArrayList;") ∈ TBL := tb0 204 rfl rfl
set_option maxRecDepth 20000 in
theorem LK_86 : (Cond.classLink "PartitionedProcedureStore" 32 "PartitionedProcedureStore$Table") ∈ TBL := tb0 57 rfl rfl
set_option maxRecDepth 20000 in
theorem LK_87 : (Cond.methodLink "PartitionedProcedureStore" 34 ⟨"PartitionedProcedureStore$Table", "<init>", "()V"⟩) ∈ TBL := tb0 59 rfl rfl
set_option maxRecDepth 20000 in
theorem LK_88 : (Cond.fieldLink "PartitionedProcedureStore" 35 "PartitionedProcedureStore" "complete" "LPartitionedProcedureStore$Table;") ∈ TBL := tb0 206 rfl rfl
set_option maxRecDepth 20000 in
theorem LK_89 : (Cond.fieldLink "PartitionedProcedureStore" 39 "PartitionedProcedureStore" "completeMarker" "I") ∈ TBL := tb0 207 rfl rfl
set_option maxRecDepth 20000 in
theorem LK_90 : (Cond.fieldLink "PartitionedProcedureStore" 43 "PartitionedProcedureStore" "underWay" "LPartitionedProcedureStore$Table;") ∈ TBL := tb0 208 rfl rfl
set_option maxRecDepth 20000 in
theorem LK_91 : (Cond.fieldLink "PartitionedProcedureStore" 46 "PartitionedProcedureStore" "underWayMarker" "I") ∈ TBL := tb0 209 rfl rfl
set_option maxRecDepth 20000 in
theorem LK_92 : (Cond.fieldLink "PartitionedProcedureStore" 49 "PartitionedProcedureStore" "lastNumber" "I") ∈ TBL := tb0 210 rfl rfl
set_option maxRecDepth 20000 in
theorem LK_93 : (Cond.fieldLink "PartitionedProcedureStore" 52 "PartitionedProcedureStore" "durable" "I") ∈ TBL := tb0 211 rfl rfl
set_option maxRecDepth 20000 in
theorem LK_94 : (Cond.methodLink "PartitionedProcedureStore" 55 ⟨"java/lang/Math", "min", "(II)I"⟩) ∈ TBL := tb0 80 rfl rfl
set_option maxRecDepth 20000 in
theorem LK_95 : (Cond.static ⟨"java/lang/Math", "min", "(II)I"⟩) ∈ TBL := tb0 81 rfl rfl
set_option maxRecDepth 20000 in
theorem LK_96 : (Cond.initialized "java/lang/Math") ∈ TBL := tb0 7 rfl rfl
set_option maxRecDepth 20000 in
theorem LK_code_Ma_min : Cond.code y_Ma_min b_Ma_min 2 (some .int) ∈ TBL := tb0 82 rfl rfl
set_option maxRecDepth 20000 in
theorem LK_98 : (Cond.methodLink "PartitionedProcedureStore" 61 ⟨"java/lang/Math", "max", "(II)I"⟩) ∈ TBL := tb0 83 rfl rfl
set_option maxRecDepth 20000 in
theorem LK_99 : (Cond.static ⟨"java/lang/Math", "max", "(II)I"⟩) ∈ TBL := tb0 84 rfl rfl
set_option maxRecDepth 20000 in
theorem LK_code_Ma_max : Cond.code y_Ma_max b_Ma_max 2 (some .int) ∈ TBL := tb0 85 rfl rfl
set_option maxRecDepth 20000 in
theorem LK_101 : (Cond.classLink "PartitionedProcedureStore" 67 "PartitionedProcedureStore$Runner") ∈ TBL := tb0 86 rfl rfl
set_option maxRecDepth 20000 in
theorem LK_102 : (Cond.instantiable "PartitionedProcedureStore$Runner" 8) ∈ TBL := tb0 87 rfl rfl
set_option maxRecDepth 20000 in
theorem LK_103 : (Cond.initialized "PartitionedProcedureStore$Runner") ∈ TBL := tb0 8 rfl rfl
set_option maxRecDepth 20000 in
theorem LK_code_R_init : Cond.code y_R_init b_R_init 2 none ∈ TBL := tb0 90 rfl rfl
set_option maxRecDepth 20000 in
theorem LK_105 : (Cond.methodLink "PartitionedProcedureStore" 69 ⟨"PartitionedProcedureStore$Runner", "<init>", "(I)V"⟩) ∈ TBL := tb0 88 rfl rfl
set_option maxRecDepth 20000 in
theorem LK_106 : (Cond.instanceMethod ⟨"PartitionedProcedureStore$Runner", "<init>", "(I)V"⟩) ∈ TBL := tb0 89 rfl rfl
set_option maxRecDepth 20000 in
theorem LK_107 : (Cond.fieldLink "PartitionedProcedureStore" 72 "PartitionedProcedureStore" "runner" "LPartitionedProcedureStore$Runner;") ∈ TBL := tb0 205 rfl rfl
set_option maxRecDepth 20000 in
theorem LK_108 : (Cond.instantiable "PartitionedProcedureStore$Procedure" 3) ∈ TBL := tb0 123 rfl rfl
set_option maxRecDepth 20000 in
theorem LK_109 : (Cond.initialized "PartitionedProcedureStore$Procedure") ∈ TBL := tb0 9 rfl rfl
set_option maxRecDepth 20000 in
theorem LK_code_P_init : Cond.code y_P_init b_P_init 1 none ∈ TBL := tb0 126 rfl rfl
set_option maxRecDepth 20000 in
theorem NW_111 : (Cond.methodLinkNest "PartitionedProcedureStore" 76 ⟨"PartitionedProcedureStore$Procedure", "<init>", "()V"⟩ "PartitionedProcedureStore") ∈ nestW := by decide +kernel
set_option maxRecDepth 20000 in
theorem LK_112 : (Cond.instanceMethod ⟨"PartitionedProcedureStore$Procedure", "<init>", "()V"⟩) ∈ TBL := tb0 125 rfl rfl
set_option maxRecDepth 20000 in
theorem LK_113 : (Cond.fieldLink "java/util/ArrayList" 63 "java/util/ArrayList" "modCount" "I") ∈ TBL := tb0 48 rfl rfl
set_option maxRecDepth 20000 in
theorem LK_114 : (Cond.sameField "java/util/ArrayList" "java/util/AbstractList" "modCount" "I") ∈ TBL := tb0 49 rfl rfl
set_option maxRecDepth 20000 in
theorem LK_115 : (Cond.fieldLink "java/util/ArrayList" 48 "java/util/ArrayList" "size" "I") ∈ TBL := tb0 46 rfl rfl
set_option maxRecDepth 20000 in
theorem LK_116 : (Cond.methodLink "PartitionedProcedureStore$Procedure" 25 ⟨"java/util/ArrayList", "clear", "()V"⟩) ∈ TBL := tb1 10 rfl rfl
set_option maxRecDepth 20000 in
theorem LK_117 : (Cond.instanceMethod ⟨"java/util/ArrayList", "clear", "()V"⟩) ∈ TBL := tb1 11 rfl rfl
set_option maxRecDepth 20000 in
theorem LK_118 : (Cond.selects "java/util/ArrayList" ⟨"java/util/ArrayList", "clear", "()V"⟩ ⟨"java/util/ArrayList", "clear", "()V"⟩) ∈ TBL := tb1 12 rfl rfl
set_option maxRecDepth 20000 in
theorem LK_code_A_clear : Cond.code y_A_clear b_A_clear 4 none ∈ TBL := tb1 13 rfl rfl
set_option maxRecDepth 20000 in
theorem LK_120 : (Cond.methodLink "PartitionedProcedureStore" 85 ⟨"PartitionedProcedureStore", "isWithin", "(II)Z"⟩) ∈ TBL := tb1 3 rfl rfl
set_option maxRecDepth 20000 in
theorem LK_121 : (Cond.static ⟨"PartitionedProcedureStore", "isWithin", "(II)Z"⟩) ∈ TBL := tb1 4 rfl rfl
set_option maxRecDepth 20000 in
theorem LK_122 : (Cond.initialized "PartitionedProcedureStore") ∈ TBL := tb0 1 rfl rfl
set_option maxRecDepth 20000 in
theorem LK_code_S_isWithin : Cond.code y_S_isWithin b_S_isWithin 2 (some .boolean) ∈ TBL := tb1 5 rfl rfl
set_option maxRecDepth 20000 in
theorem LK_124 : (Cond.fieldLink "PartitionedProcedureStore" 89 "PartitionedProcedureStore$Procedure" "deployed" "Z") ∈ TBL := tb0 137 rfl rfl
set_option maxRecDepth 20000 in
theorem LK_125 : (Cond.methodLink "PartitionedProcedureStore" 93 ⟨"PartitionedProcedureStore$Procedure", "restart", "(Z)V"⟩) ∈ TBL := tb1 6 rfl rfl
set_option maxRecDepth 20000 in
theorem LK_126 : (Cond.instanceMethod ⟨"PartitionedProcedureStore$Procedure", "restart", "(Z)V"⟩) ∈ TBL := tb1 7 rfl rfl
set_option maxRecDepth 20000 in
theorem LK_127 : (Cond.selects "PartitionedProcedureStore$Procedure" ⟨"PartitionedProcedureStore$Procedure", "restart", "(Z)V"⟩ ⟨"PartitionedProcedureStore$Procedure", "restart", "(Z)V"⟩) ∈ TBL := tb1 8 rfl rfl
set_option maxRecDepth 20000 in
theorem LK_code_P_restart : Cond.code y_P_restart b_P_restart 2 none ∈ TBL := tb1 9 rfl rfl
set_option maxRecDepth 20000 in
theorem LK_129 : (Cond.methodLink "PartitionedProcedureStore$Statement" 1 ⟨"java/lang/Object", "<init>", "()V"⟩) ∈ TBL := tb1 30 rfl rfl
set_option maxRecDepth 20000 in
theorem LK_130 : (Cond.fieldLink "PartitionedProcedureStore$Statement" 7 "PartitionedProcedureStore$Statement" "op" "I") ∈ TBL := tb1 31 rfl rfl
set_option maxRecDepth 20000 in
theorem LK_131 : (Cond.fieldLink "PartitionedProcedureStore$Statement" 13 "PartitionedProcedureStore$Statement" "x" "I") ∈ TBL := tb1 34 rfl rfl
set_option maxRecDepth 20000 in
theorem LK_132 : (Cond.fieldLink "PartitionedProcedureStore$Statement" 16 "PartitionedProcedureStore$Statement" "y" "I") ∈ TBL := tb1 36 rfl rfl
set_option maxRecDepth 20000 in
theorem LK_133 : (Cond.fieldLink "PartitionedProcedureStore$Statement" 19 "PartitionedProcedureStore$Statement" "z" "I") ∈ TBL := tb1 39 rfl rfl
set_option maxRecDepth 20000 in
theorem LK_134 : (Cond.methodLink "jdk/internal/util/ArraysSupport" 194 ⟨"java/lang/Math", "max", "(II)I"⟩) ∈ TBL := tb1 69 rfl rfl
set_option maxRecDepth 20000 in
theorem LK_135 : (Cond.constant "jdk/internal/util/ArraysSupport" 200 (2147483639 : Int32)) ∈ TBL := tb1 70 rfl rfl
set_option maxRecDepth 20000 in
theorem LK_136 : (Cond.methodLink "java/util/Arrays" 304 ⟨"java/lang/Math", "min", "(II)I"⟩) ∈ TBL := tb1 97 rfl rfl
set_option maxRecDepth 20000 in
theorem LK_137 : (Cond.methodLink "java/util/Arrays" 150 ⟨"java/lang/System", "arraycopy", "(Ljava/lang/Object;ILjava/lang/Object;II)V"⟩) ∈ TBL := tb1 98 rfl rfl
set_option maxRecDepth 20000 in
theorem LK_138 : (Cond.native ⟨"java/lang/System", "arraycopy", "(Ljava/lang/Object;ILjava/lang/Object;II)V"⟩) ∈ TBL := tb1 100 rfl rfl
set_option maxRecDepth 20000 in
theorem LK_139 : (Cond.static ⟨"java/lang/System", "arraycopy", "(Ljava/lang/Object;ILjava/lang/Object;II)V"⟩) ∈ TBL := tb1 99 rfl rfl
set_option maxRecDepth 20000 in
theorem LK_140 : (Cond.initialized "java/lang/System") ∈ TBL := tb0 15 rfl rfl
set_option maxRecDepth 20000 in
theorem LK_141 : (Cond.classLink "java/util/Arrays" 110 "[Ljava/lang/Object;") ∈ TBL := tb1 94 rfl rfl
set_option maxRecDepth 20000 in
theorem LK_142 : (Cond.classLink "java/util/Arrays" 2 "java/lang/Object") ∈ TBL := tb1 96 rfl rfl
set_option maxRecDepth 20000 in
theorem LK_143 : (Cond.methodLink "java/util/Arrays" 86 ⟨"java/lang/Object", "getClass", "()Ljava/lang/Class;"⟩) ∈ TBL := tb1 77 rfl rfl
set_option maxRecDepth 20000 in
theorem LK_144 : (Cond.selects "[Ljava/lang/Object;" ⟨"java/lang/Object", "getClass", "()Ljava/lang/Class;"⟩ ⟨"java/lang/Object", "getClass", "()Ljava/lang/Class;"⟩) ∈ TBL := tb3 141 rfl rfl
set_option maxRecDepth 20000 in
theorem LK_145 : (Cond.instanceMethod ⟨"java/lang/Object", "getClass", "()Ljava/lang/Class;"⟩) ∈ TBL := tb1 78 rfl rfl
set_option maxRecDepth 20000 in
theorem LK_146 : (Cond.native ⟨"java/lang/Object", "getClass", "()Ljava/lang/Class;"⟩) ∈ TBL := tb1 90 rfl rfl
set_option maxRecDepth 20000 in
theorem LK_147 : (Cond.methodLink "java/util/Arrays" 300 ⟨"java/util/Arrays", "copyOf", "([Ljava/lang/Object;ILjava/lang/Class;)[Ljava/lang/Object;"⟩) ∈ TBL := tb1 91 rfl rfl
set_option maxRecDepth 20000 in
theorem LK_148 : (Cond.static ⟨"java/util/Arrays", "copyOf", "([Ljava/lang/Object;ILjava/lang/Class;)[Ljava/lang/Object;"⟩) ∈ TBL := tb1 92 rfl rfl
set_option maxRecDepth 20000 in
theorem LK_code_Ar_copyOf1 : Cond.code y_Ar_copyOf1 b_Ar_copyOf1 4 (some (.array (.object "java/lang/Object"))) ∈ TBL := tb1 93 rfl rfl
set_option maxRecDepth 20000 in
theorem LK_150 : (Cond.methodLink "java/util/ArrayList" 73 ⟨"jdk/internal/util/ArraysSupport", "newLength", "(III)I"⟩) ∈ TBL := tb1 66 rfl rfl
set_option maxRecDepth 20000 in
theorem LK_151 : (Cond.static ⟨"jdk/internal/util/ArraysSupport", "newLength", "(III)I"⟩) ∈ TBL := tb1 67 rfl rfl
set_option maxRecDepth 20000 in
theorem LK_152 : (Cond.initialized "jdk/internal/util/ArraysSupport") ∈ TBL := tb0 14 rfl rfl
set_option maxRecDepth 20000 in
theorem LK_code_As_newLength : Cond.code y_As_newLength b_As_newLength 4 (some .int) ∈ TBL := tb1 68 rfl rfl
set_option maxRecDepth 20000 in
theorem LK_154 : (Cond.methodLink "java/util/ArrayList" 66 ⟨"java/util/Arrays", "copyOf", "([Ljava/lang/Object;I)[Ljava/lang/Object;"⟩) ∈ TBL := tb1 74 rfl rfl
set_option maxRecDepth 20000 in
theorem LK_155 : (Cond.static ⟨"java/util/Arrays", "copyOf", "([Ljava/lang/Object;I)[Ljava/lang/Object;"⟩) ∈ TBL := tb1 75 rfl rfl
set_option maxRecDepth 20000 in
theorem LK_code_Ar_copyOf0 : Cond.code y_Ar_copyOf0 b_Ar_copyOf0 2 (some (.array (.object "java/lang/Object"))) ∈ TBL := tb1 76 rfl rfl
set_option maxRecDepth 20000 in
theorem LK_157 : (Cond.methodLink "java/util/ArrayList" 79 ⟨"java/lang/Math", "max", "(II)I"⟩) ∈ TBL := tb1 101 rfl rfl
set_option maxRecDepth 20000 in
theorem LK_158 : (Cond.classLink "java/util/ArrayList" 7 "java/lang/Object") ∈ TBL := tb1 102 rfl rfl
set_option maxRecDepth 20000 in
theorem LK_159 : (Cond.methodLink "java/util/ArrayList" 69 ⟨"java/util/ArrayList", "grow", "(I)[Ljava/lang/Object;"⟩) ∈ TBL := tb1 62 rfl rfl
set_option maxRecDepth 20000 in
theorem LK_160 : (Cond.instanceMethod ⟨"java/util/ArrayList", "grow", "(I)[Ljava/lang/Object;"⟩) ∈ TBL := tb1 64 rfl rfl
set_option maxRecDepth 20000 in
theorem LK_161 : (Cond.selects "java/util/ArrayList" ⟨"java/util/ArrayList", "grow", "(I)[Ljava/lang/Object;"⟩ ⟨"java/util/ArrayList", "grow", "(I)[Ljava/lang/Object;"⟩) ∈ TBL := tbS 2 rfl rfl
set_option maxRecDepth 20000 in
theorem LK_code_A_grow1 : Cond.code y_A_grow1 b_A_grow1 4 (some (.array (.object "java/lang/Object"))) ∈ TBL := tb1 65 rfl rfl
set_option maxRecDepth 20000 in
theorem LK_163 : (Cond.methodLink "java/util/ArrayList" 129 ⟨"java/util/ArrayList", "grow", "()[Ljava/lang/Object;"⟩) ∈ TBL := tb1 58 rfl rfl
set_option maxRecDepth 20000 in
theorem LK_164 : (Cond.instanceMethod ⟨"java/util/ArrayList", "grow", "()[Ljava/lang/Object;"⟩) ∈ TBL := tb1 60 rfl rfl
set_option maxRecDepth 20000 in
theorem LK_165 : (Cond.selects "java/util/ArrayList" ⟨"java/util/ArrayList", "grow", "()[Ljava/lang/Object;"⟩ ⟨"java/util/ArrayList", "grow", "()[Ljava/lang/Object;"⟩) ∈ TBL := tbS 1 rfl rfl
set_option maxRecDepth 20000 in
theorem LK_code_A_grow0 : Cond.code y_A_grow0 b_A_grow0 1 (some (.array (.object "java/lang/Object"))) ∈ TBL := tb1 61 rfl rfl
set_option maxRecDepth 20000 in
theorem LK_167 : (Cond.methodLink "java/util/ArrayList" 131 ⟨"java/util/ArrayList", "add", "(Ljava/lang/Object;[Ljava/lang/Object;I)V"⟩) ∈ TBL := tb1 54 rfl rfl
set_option maxRecDepth 20000 in
theorem LK_168 : (Cond.instanceMethod ⟨"java/util/ArrayList", "add", "(Ljava/lang/Object;[Ljava/lang/Object;I)V"⟩) ∈ TBL := tb1 56 rfl rfl
set_option maxRecDepth 20000 in
theorem LK_169 : (Cond.selects "java/util/ArrayList" ⟨"java/util/ArrayList", "add", "(Ljava/lang/Object;[Ljava/lang/Object;I)V"⟩ ⟨"java/util/ArrayList", "add", "(Ljava/lang/Object;[Ljava/lang/Object;I)V"⟩) ∈ TBL := tbS 0 rfl rfl
set_option maxRecDepth 20000 in
theorem LK_code_A_add1 : Cond.code y_A_add1 b_A_add1 4 none ∈ TBL := tb1 57 rfl rfl
set_option maxRecDepth 20000 in
theorem LK_171 : (Cond.methodLink "PartitionedProcedureStore" 97 ⟨"PartitionedProcedureStore", "isStatement", "(IIII)Z"⟩) ∈ TBL := tb1 18 rfl rfl
set_option maxRecDepth 20000 in
theorem LK_172 : (Cond.static ⟨"PartitionedProcedureStore", "isStatement", "(IIII)Z"⟩) ∈ TBL := tb1 19 rfl rfl
set_option maxRecDepth 20000 in
theorem LK_code_S_isStatement : Cond.code y_S_isStatement b_S_isStatement 4 (some .boolean) ∈ TBL := tb1 20 rfl rfl
set_option maxRecDepth 20000 in
theorem LK_174 : (Cond.fieldLink "PartitionedProcedureStore" 101 "PartitionedProcedureStore$Procedure" "statements" "Ljava/util/ArrayList;") ∈ TBL := tb0 132 rfl rfl
set_option maxRecDepth 20000 in
theorem LK_175 : (Cond.methodLink "PartitionedProcedureStore" 104 ⟨"java/util/ArrayList", "size", "()I"⟩) ∈ TBL := tb1 21 rfl rfl
set_option maxRecDepth 20000 in
theorem LK_176 : (Cond.instanceMethod ⟨"java/util/ArrayList", "size", "()I"⟩) ∈ TBL := tb1 22 rfl rfl
set_option maxRecDepth 20000 in
theorem LK_177 : (Cond.selects "java/util/ArrayList" ⟨"java/util/ArrayList", "size", "()I"⟩ ⟨"java/util/ArrayList", "size", "()I"⟩) ∈ TBL := tb1 23 rfl rfl
set_option maxRecDepth 20000 in
theorem LK_code_A_size : Cond.code y_A_size b_A_size 1 (some .int) ∈ TBL := tb1 24 rfl rfl
set_option maxRecDepth 20000 in
theorem LK_179 : (Cond.classLink "PartitionedProcedureStore" 108 "PartitionedProcedureStore$Statement") ∈ TBL := tb1 25 rfl rfl
set_option maxRecDepth 20000 in
theorem LK_180 : (Cond.instantiable "PartitionedProcedureStore$Statement" 4) ∈ TBL := tb1 26 rfl rfl
set_option maxRecDepth 20000 in
theorem LK_181 : (Cond.initialized "PartitionedProcedureStore$Statement") ∈ TBL := tb0 13 rfl rfl
set_option maxRecDepth 20000 in
theorem LK_code_T_init : Cond.code y_T_init b_T_init 5 none ∈ TBL := tb1 29 rfl rfl
set_option maxRecDepth 20000 in
theorem LK_183 : (Cond.methodLink "PartitionedProcedureStore" 110 ⟨"PartitionedProcedureStore$Statement", "<init>", "(IIII)V"⟩) ∈ TBL := tb1 27 rfl rfl
set_option maxRecDepth 20000 in
theorem LK_184 : (Cond.instanceMethod ⟨"PartitionedProcedureStore$Statement", "<init>", "(IIII)V"⟩) ∈ TBL := tb1 28 rfl rfl
set_option maxRecDepth 20000 in
theorem LK_185 : (Cond.methodLink "PartitionedProcedureStore" 113 ⟨"java/util/ArrayList", "add", "(Ljava/lang/Object;)Z"⟩) ∈ TBL := tb1 50 rfl rfl
set_option maxRecDepth 20000 in
theorem LK_186 : (Cond.instanceMethod ⟨"java/util/ArrayList", "add", "(Ljava/lang/Object;)Z"⟩) ∈ TBL := tb1 51 rfl rfl
set_option maxRecDepth 20000 in
theorem LK_187 : (Cond.selects "java/util/ArrayList" ⟨"java/util/ArrayList", "add", "(Ljava/lang/Object;)Z"⟩ ⟨"java/util/ArrayList", "add", "(Ljava/lang/Object;)Z"⟩) ∈ TBL := tb1 52 rfl rfl
set_option maxRecDepth 20000 in
theorem LK_code_A_add0 : Cond.code y_A_add0 b_A_add0 2 (some .boolean) ∈ TBL := tb1 53 rfl rfl
set_option maxRecDepth 20000 in
theorem LK_189 : (Cond.methodLink "java/util/Objects" 105 ⟨"jdk/internal/util/Preconditions", "checkIndex", "(IILjava/util/function/BiFunction;)I"⟩) ∈ TBL := tb1 119 rfl rfl
set_option maxRecDepth 20000 in
theorem LK_190 : (Cond.static ⟨"jdk/internal/util/Preconditions", "checkIndex", "(IILjava/util/function/BiFunction;)I"⟩) ∈ TBL := tb1 120 rfl rfl
set_option maxRecDepth 20000 in
theorem LK_191 : (Cond.initialized "jdk/internal/util/Preconditions") ∈ TBL := tb0 17 rfl rfl
set_option maxRecDepth 20000 in
theorem LK_code_Pc_checkIndex : Cond.code y_Pc_checkIndex b_Pc_checkIndex 3 (some .int) ∈ TBL := tb1 121 rfl rfl
set_option maxRecDepth 20000 in
theorem LK_193 : (Cond.methodLink "java/util/ArrayList" 118 ⟨"java/util/Objects", "checkIndex", "(II)I"⟩) ∈ TBL := tb1 116 rfl rfl
set_option maxRecDepth 20000 in
theorem LK_194 : (Cond.static ⟨"java/util/Objects", "checkIndex", "(II)I"⟩) ∈ TBL := tb1 117 rfl rfl
set_option maxRecDepth 20000 in
theorem LK_195 : (Cond.initialized "java/util/Objects") ∈ TBL := tb0 16 rfl rfl
set_option maxRecDepth 20000 in
theorem LK_code_Oj_checkIndex : Cond.code y_Oj_checkIndex b_Oj_checkIndex 2 (some .int) ∈ TBL := tb1 118 rfl rfl
set_option maxRecDepth 20000 in
theorem LK_197 : (Cond.methodLink "java/util/ArrayList" 123 ⟨"java/util/ArrayList", "elementData", "(I)Ljava/lang/Object;"⟩) ∈ TBL := tb1 122 rfl rfl
set_option maxRecDepth 20000 in
theorem LK_198 : (Cond.instanceMethod ⟨"java/util/ArrayList", "elementData", "(I)Ljava/lang/Object;"⟩) ∈ TBL := tb1 123 rfl rfl
set_option maxRecDepth 20000 in
theorem LK_199 : (Cond.selects "java/util/ArrayList" ⟨"java/util/ArrayList", "elementData", "(I)Ljava/lang/Object;"⟩ ⟨"java/util/ArrayList", "elementData", "(I)Ljava/lang/Object;"⟩) ∈ TBL := tb1 124 rfl rfl
set_option maxRecDepth 20000 in
theorem LK_code_A_elementData : Cond.code y_A_elementData b_A_elementData 2 (some (.object "java/lang/Object")) ∈ TBL := tb1 125 rfl rfl
set_option maxRecDepth 20000 in
theorem LK_201 : (Cond.fieldLink "PartitionedProcedureStore$Procedure" 38 "PartitionedProcedureStore$Statement" "op" "I") ∈ TBL := tb1 32 rfl rfl
set_option maxRecDepth 20000 in
theorem LK_202 : (Cond.methodLink "PartitionedProcedureStore$Procedure" 32 ⟨"java/util/ArrayList", "get", "(I)Ljava/lang/Object;"⟩) ∈ TBL := tb1 112 rfl rfl
set_option maxRecDepth 20000 in
theorem LK_203 : (Cond.instanceMethod ⟨"java/util/ArrayList", "get", "(I)Ljava/lang/Object;"⟩) ∈ TBL := tb1 113 rfl rfl
set_option maxRecDepth 20000 in
theorem LK_204 : (Cond.selects "java/util/ArrayList" ⟨"java/util/ArrayList", "get", "(I)Ljava/lang/Object;"⟩ ⟨"java/util/ArrayList", "get", "(I)Ljava/lang/Object;"⟩) ∈ TBL := tb1 114 rfl rfl
set_option maxRecDepth 20000 in
theorem LK_code_A_get : Cond.code y_A_get b_A_get 2 (some (.object "java/lang/Object")) ∈ TBL := tb1 115 rfl rfl
set_option maxRecDepth 20000 in
theorem LK_206 : (Cond.classLink "PartitionedProcedureStore$Procedure" 36 "PartitionedProcedureStore$Statement") ∈ TBL := tb1 126 rfl rfl
set_option maxRecDepth 20000 in
theorem LK_207 : (Cond.fieldLink "PartitionedProcedureStore$Procedure" 42 "PartitionedProcedureStore$Statement" "y" "I") ∈ TBL := tb1 37 rfl rfl
set_option maxRecDepth 20000 in
theorem LK_208 : (Cond.methodLink "PartitionedProcedureStore$Procedure" 28 ⟨"java/util/ArrayList", "size", "()I"⟩) ∈ TBL := tb1 111 rfl rfl
set_option maxRecDepth 20000 in
theorem LK_209 : (Cond.methodLink "PartitionedProcedureStore" 117 ⟨"PartitionedProcedureStore$Procedure", "isSound", "()Z"⟩) ∈ TBL := tb1 107 rfl rfl
set_option maxRecDepth 20000 in
theorem LK_210 : (Cond.instanceMethod ⟨"PartitionedProcedureStore$Procedure", "isSound", "()Z"⟩) ∈ TBL := tb1 108 rfl rfl
set_option maxRecDepth 20000 in
theorem LK_211 : (Cond.selects "PartitionedProcedureStore$Procedure" ⟨"PartitionedProcedureStore$Procedure", "isSound", "()Z"⟩ ⟨"PartitionedProcedureStore$Procedure", "isSound", "()Z"⟩) ∈ TBL := tb1 109 rfl rfl
set_option maxRecDepth 20000 in
theorem LK_code_P_isSound : Cond.code y_P_isSound b_P_isSound 4 (some .boolean) ∈ TBL := tb1 110 rfl rfl
set_option maxRecDepth 20000 in
theorem LK_213 : (Cond.methodLink "PartitionedProcedureStore$Task" 1 ⟨"java/lang/Object", "<init>", "()V"⟩) ∈ TBL := tb1 136 rfl rfl
set_option maxRecDepth 20000 in
theorem LK_214 : (Cond.fieldLink "PartitionedProcedureStore$Task" 7 "PartitionedProcedureStore$Task" "number" "I") ∈ TBL := tb1 137 rfl rfl
set_option maxRecDepth 20000 in
theorem LK_215 : (Cond.fieldLink "PartitionedProcedureStore$Task" 13 "PartitionedProcedureStore$Task" "client" "I") ∈ TBL := tb1 139 rfl rfl
set_option maxRecDepth 20000 in
theorem LK_216 : (Cond.fieldLink "PartitionedProcedureStore$Task" 16 "PartitionedProcedureStore$Task" "procedure" "LPartitionedProcedureStore$Procedure;") ∈ TBL := tb1 141 rfl rfl
set_option maxRecDepth 20000 in
theorem LK_217 : (Cond.fieldLink "PartitionedProcedureStore$Task" 20 "PartitionedProcedureStore$Task" "a" "I") ∈ TBL := tb1 144 rfl rfl
set_option maxRecDepth 20000 in
theorem LK_218 : (Cond.fieldLink "PartitionedProcedureStore$Task" 23 "PartitionedProcedureStore$Task" "b" "I") ∈ TBL := tb1 146 rfl rfl
set_option maxRecDepth 20000 in
theorem LK_219 : (Cond.fieldLink "PartitionedProcedureStore$Task" 26 "PartitionedProcedureStore$Task" "c" "I") ∈ TBL := tb1 148 rfl rfl
set_option maxRecDepth 20000 in
theorem LK_220 : (Cond.fieldLink "PartitionedProcedureStore" 146 "PartitionedProcedureStore$Site" "queue" "Ljava/util/ArrayList;") ∈ TBL := tb0 183 rfl rfl
set_option maxRecDepth 20000 in
theorem LK_221 : (Cond.methodLink "PartitionedProcedureStore$Task" 29 ⟨"java/lang/Math", "floorMod", "(II)I"⟩) ∈ TBL := tb1 175 rfl rfl
set_option maxRecDepth 20000 in
theorem LK_222 : (Cond.static ⟨"java/lang/Math", "floorMod", "(II)I"⟩) ∈ TBL := tb1 176 rfl rfl
set_option maxRecDepth 20000 in
theorem LK_code_Ma_floorMod : Cond.code y_Ma_floorMod b_Ma_floorMod 3 (some .int) ∈ TBL := tb1 177 rfl rfl
set_option maxRecDepth 20000 in
theorem LK_224 : (Cond.fieldLink "PartitionedProcedureStore" 121 "PartitionedProcedureStore$Client" "state" "I") ∈ TBL := tb0 151 rfl rfl
set_option maxRecDepth 20000 in
theorem LK_225 : (Cond.classLink "PartitionedProcedureStore" 124 "PartitionedProcedureStore$Task") ∈ TBL := tb1 131 rfl rfl
set_option maxRecDepth 20000 in
theorem LK_226 : (Cond.instantiable "PartitionedProcedureStore$Task" 6) ∈ TBL := tb1 132 rfl rfl
set_option maxRecDepth 20000 in
theorem LK_227 : (Cond.initialized "PartitionedProcedureStore$Task") ∈ TBL := tb0 18 rfl rfl
set_option maxRecDepth 20000 in
theorem LK_code_K_init : Cond.code y_K_init b_K_init 7 none ∈ TBL := tb1 135 rfl rfl
set_option maxRecDepth 20000 in
theorem LK_229 : (Cond.methodLink "PartitionedProcedureStore" 126 ⟨"PartitionedProcedureStore$Task", "<init>", "(IILPartitionedProcedureStore$Procedure;III)V"⟩) ∈ TBL := tb1 133 rfl rfl
set_option maxRecDepth 20000 in
theorem LK_230 : (Cond.instanceMethod ⟨"PartitionedProcedureStore$Task", "<init>", "(IILPartitionedProcedureStore$Procedure;III)V"⟩) ∈ TBL := tb1 134 rfl rfl
set_option maxRecDepth 20000 in
theorem LK_231 : (Cond.methodLink "PartitionedProcedureStore" 129 ⟨"PartitionedProcedureStore$Client", "begin", "(I)V"⟩) ∈ TBL := tb1 163 rfl rfl
set_option maxRecDepth 20000 in
theorem LK_232 : (Cond.instanceMethod ⟨"PartitionedProcedureStore$Client", "begin", "(I)V"⟩) ∈ TBL := tb1 164 rfl rfl
set_option maxRecDepth 20000 in
theorem LK_233 : (Cond.selects "PartitionedProcedureStore$Client" ⟨"PartitionedProcedureStore$Client", "begin", "(I)V"⟩ ⟨"PartitionedProcedureStore$Client", "begin", "(I)V"⟩) ∈ TBL := tb1 165 rfl rfl
set_option maxRecDepth 20000 in
theorem LK_code_C_begin : Cond.code y_C_begin b_C_begin 2 none ∈ TBL := tb1 166 rfl rfl
set_option maxRecDepth 20000 in
theorem LK_235 : (Cond.fieldLink "PartitionedProcedureStore" 132 "PartitionedProcedureStore$Task" "procedure" "LPartitionedProcedureStore$Procedure;") ∈ TBL := tb1 143 rfl rfl
set_option maxRecDepth 20000 in
theorem LK_236 : (Cond.fieldLink "PartitionedProcedureStore" 135 "PartitionedProcedureStore$Procedure" "multi" "Z") ∈ TBL := tb0 135 rfl rfl
set_option maxRecDepth 20000 in
theorem LK_237 : (Cond.methodLink "PartitionedProcedureStore" 142 ⟨"PartitionedProcedureStore$Task", "home", "(I)I"⟩) ∈ TBL := tb1 171 rfl rfl
set_option maxRecDepth 20000 in
theorem LK_238 : (Cond.instanceMethod ⟨"PartitionedProcedureStore$Task", "home", "(I)I"⟩) ∈ TBL := tb1 172 rfl rfl
set_option maxRecDepth 20000 in
theorem LK_239 : (Cond.selects "PartitionedProcedureStore$Task" ⟨"PartitionedProcedureStore$Task", "home", "(I)I"⟩ ⟨"PartitionedProcedureStore$Task", "home", "(I)I"⟩) ∈ TBL := tb1 173 rfl rfl
set_option maxRecDepth 20000 in
theorem LK_code_K_home : Cond.code y_K_home b_K_home 2 (some .int) ∈ TBL := tb1 174 rfl rfl
set_option maxRecDepth 20000 in
theorem LK_241 : (Cond.methodLink "PartitionedProcedureStore" 138 ⟨"PartitionedProcedureStore", "waitAtAllSites", "(LPartitionedProcedureStore$Task;)V"⟩) ∈ TBL := tb1 167 rfl rfl
set_option maxRecDepth 20000 in
theorem LK_242 : (Cond.instanceMethod ⟨"PartitionedProcedureStore", "waitAtAllSites", "(LPartitionedProcedureStore$Task;)V"⟩) ∈ TBL := tb1 169 rfl rfl
set_option maxRecDepth 20000 in
theorem LK_243 : (Cond.selects "PartitionedProcedureStore" ⟨"PartitionedProcedureStore", "waitAtAllSites", "(LPartitionedProcedureStore$Task;)V"⟩ ⟨"PartitionedProcedureStore", "waitAtAllSites", "(LPartitionedProcedureStore$Task;)V"⟩) ∈ TBL := tbS 3 rfl rfl
set_option maxRecDepth 20000 in
theorem LK_code_S_waitAtAllSites : Cond.code y_S_waitAtAllSites b_S_waitAtAllSites 6 none ∈ TBL := tb1 170 rfl rfl
set_option maxRecDepth 20000 in
theorem LK_245 : (Cond.methodLink "PartitionedProcedureStore$Site" 27 ⟨"java/util/ArrayList", "isEmpty", "()Z"⟩) ∈ TBL := tb1 186 rfl rfl
set_option maxRecDepth 20000 in
theorem LK_246 : (Cond.instanceMethod ⟨"java/util/ArrayList", "isEmpty", "()Z"⟩) ∈ TBL := tb1 187 rfl rfl
set_option maxRecDepth 20000 in
theorem LK_247 : (Cond.selects "java/util/ArrayList" ⟨"java/util/ArrayList", "isEmpty", "()Z"⟩ ⟨"java/util/ArrayList", "isEmpty", "()Z"⟩) ∈ TBL := tb1 188 rfl rfl
set_option maxRecDepth 20000 in
theorem LK_code_A_isEmpty : Cond.code y_A_isEmpty b_A_isEmpty 1 (some .boolean) ∈ TBL := tb1 189 rfl rfl
set_option maxRecDepth 20000 in
theorem LK_249 : (Cond.methodLink "PartitionedProcedureStore$Site" 31 ⟨"java/util/ArrayList", "get", "(I)Ljava/lang/Object;"⟩) ∈ TBL := tb1 190 rfl rfl
set_option maxRecDepth 20000 in
theorem LK_250 : (Cond.classLink "PartitionedProcedureStore$Site" 35 "PartitionedProcedureStore$Task") ∈ TBL := tb1 191 rfl rfl
set_option maxRecDepth 20000 in
theorem LK_251 : (Cond.methodLink "java/util/ArrayList" 112 ⟨"java/lang/System", "arraycopy", "(Ljava/lang/Object;ILjava/lang/Object;II)V"⟩) ∈ TBL := tb1 208 rfl rfl
set_option maxRecDepth 20000 in
theorem LK_252 : (Cond.methodLink "java/util/ArrayList" 144 ⟨"java/util/ArrayList", "fastRemove", "([Ljava/lang/Object;I)V"⟩) ∈ TBL := tb1 204 rfl rfl
set_option maxRecDepth 20000 in
theorem LK_253 : (Cond.instanceMethod ⟨"java/util/ArrayList", "fastRemove", "([Ljava/lang/Object;I)V"⟩) ∈ TBL := tb1 206 rfl rfl
set_option maxRecDepth 20000 in
theorem LK_254 : (Cond.selects "java/util/ArrayList" ⟨"java/util/ArrayList", "fastRemove", "([Ljava/lang/Object;I)V"⟩ ⟨"java/util/ArrayList", "fastRemove", "([Ljava/lang/Object;I)V"⟩) ∈ TBL := tbS 5 rfl rfl
set_option maxRecDepth 20000 in
theorem LK_code_A_fastRemove : Cond.code y_A_fastRemove b_A_fastRemove 4 none ∈ TBL := tb1 207 rfl rfl
set_option maxRecDepth 20000 in
theorem LK_256 : (Cond.methodLink "PartitionedProcedureStore$Site" 37 ⟨"java/util/ArrayList", "remove", "(I)Ljava/lang/Object;"⟩) ∈ TBL := tb1 200 rfl rfl
set_option maxRecDepth 20000 in
theorem LK_257 : (Cond.instanceMethod ⟨"java/util/ArrayList", "remove", "(I)Ljava/lang/Object;"⟩) ∈ TBL := tb1 201 rfl rfl
set_option maxRecDepth 20000 in
theorem LK_258 : (Cond.selects "java/util/ArrayList" ⟨"java/util/ArrayList", "remove", "(I)Ljava/lang/Object;"⟩ ⟨"java/util/ArrayList", "remove", "(I)Ljava/lang/Object;"⟩) ∈ TBL := tb1 202 rfl rfl
set_option maxRecDepth 20000 in
theorem LK_code_A_remove : Cond.code y_A_remove b_A_remove 4 (some (.object "java/lang/Object")) ∈ TBL := tb1 203 rfl rfl
set_option maxRecDepth 20000 in
theorem LK_260 : (Cond.methodLink "PartitionedProcedureStore$Table" 27 ⟨"java/lang/System", "arraycopy", "(Ljava/lang/Object;ILjava/lang/Object;II)V"⟩) ∈ TBL := tb1 217 rfl rfl
set_option maxRecDepth 20000 in
theorem LK_261 : (Cond.methodLink "PartitionedProcedureStore$Table" 33 ⟨"PartitionedProcedureStore$Table", "copyCells", "(LPartitionedProcedureStore$Table;)V"⟩) ∈ TBL := tb1 234 rfl rfl
set_option maxRecDepth 20000 in
theorem LK_262 : (Cond.instanceMethod ⟨"PartitionedProcedureStore$Table", "copyCells", "(LPartitionedProcedureStore$Table;)V"⟩) ∈ TBL := tb1 214 rfl rfl
set_option maxRecDepth 20000 in
theorem LK_263 : (Cond.selects "PartitionedProcedureStore$Table" ⟨"PartitionedProcedureStore$Table", "copyCells", "(LPartitionedProcedureStore$Table;)V"⟩ ⟨"PartitionedProcedureStore$Table", "copyCells", "(LPartitionedProcedureStore$Table;)V"⟩) ∈ TBL := tb1 215 rfl rfl
set_option maxRecDepth 20000 in
theorem LK_code_B_copyCells : Cond.code y_B_copyCells b_B_copyCells 2 none ∈ TBL := tb1 216 rfl rfl
set_option maxRecDepth 20000 in
theorem LK_265 : (Cond.methodLink "PartitionedProcedureStore" 198 ⟨"java/util/ArrayList", "get", "(I)Ljava/lang/Object;"⟩) ∈ TBL := tb1 239 rfl rfl
set_option maxRecDepth 20000 in
theorem LK_266 : (Cond.fieldLink "PartitionedProcedureStore" 248 "PartitionedProcedureStore$Task" "number" "I") ∈ TBL := tb1 138 rfl rfl
set_option maxRecDepth 20000 in
theorem LK_267 : (Cond.methodLink "PartitionedProcedureStore" 251 ⟨"java/util/ArrayList", "remove", "(I)Ljava/lang/Object;"⟩) ∈ TBL := tb2 0 rfl rfl
set_option maxRecDepth 20000 in
theorem LK_268 : (Cond.methodLink "PartitionedProcedureStore" 232 ⟨"PartitionedProcedureStore$Client", "settle", "(I)V"⟩) ∈ TBL := tb2 5 rfl rfl
set_option maxRecDepth 20000 in
theorem LK_269 : (Cond.instanceMethod ⟨"PartitionedProcedureStore$Client", "settle", "(I)V"⟩) ∈ TBL := tb2 6 rfl rfl
set_option maxRecDepth 20000 in
theorem LK_270 : (Cond.selects "PartitionedProcedureStore$Client" ⟨"PartitionedProcedureStore$Client", "settle", "(I)V"⟩ ⟨"PartitionedProcedureStore$Client", "settle", "(I)V"⟩) ∈ TBL := tb2 7 rfl rfl
set_option maxRecDepth 20000 in
theorem LK_code_C_settle : Cond.code y_C_settle b_C_settle 2 none ∈ TBL := tb2 8 rfl rfl
set_option maxRecDepth 20000 in
theorem LK_272 : (Cond.methodLink "PartitionedProcedureStore" 194 ⟨"PartitionedProcedureStore$Table", "copyFrom", "(LPartitionedProcedureStore$Table;)V"⟩) ∈ TBL := tb1 230 rfl rfl
set_option maxRecDepth 20000 in
theorem LK_273 : (Cond.instanceMethod ⟨"PartitionedProcedureStore$Table", "copyFrom", "(LPartitionedProcedureStore$Table;)V"⟩) ∈ TBL := tb1 231 rfl rfl
set_option maxRecDepth 20000 in
theorem LK_274 : (Cond.selects "PartitionedProcedureStore$Table" ⟨"PartitionedProcedureStore$Table", "copyFrom", "(LPartitionedProcedureStore$Table;)V"⟩ ⟨"PartitionedProcedureStore$Table", "copyFrom", "(LPartitionedProcedureStore$Table;)V"⟩) ∈ TBL := tb1 232 rfl rfl
set_option maxRecDepth 20000 in
theorem LK_code_B_copyFrom : Cond.code y_B_copyFrom b_B_copyFrom 2 none ∈ TBL := tb1 233 rfl rfl
set_option maxRecDepth 20000 in
theorem LK_276 : (Cond.methodLink "PartitionedProcedureStore" 245 ⟨"PartitionedProcedureStore", "dropLogUpTo", "(I)V"⟩) ∈ TBL := tb1 235 rfl rfl
set_option maxRecDepth 20000 in
theorem LK_277 : (Cond.instanceMethod ⟨"PartitionedProcedureStore", "dropLogUpTo", "(I)V"⟩) ∈ TBL := tb1 237 rfl rfl
set_option maxRecDepth 20000 in
theorem LK_278 : (Cond.selects "PartitionedProcedureStore" ⟨"PartitionedProcedureStore", "dropLogUpTo", "(I)V"⟩ ⟨"PartitionedProcedureStore", "dropLogUpTo", "(I)V"⟩) ∈ TBL := tbS 7 rfl rfl
set_option maxRecDepth 20000 in
theorem LK_code_S_dropLogUpTo : Cond.code y_S_dropLogUpTo b_S_dropLogUpTo 3 none ∈ TBL := tb1 238 rfl rfl
set_option maxRecDepth 20000 in
theorem LK_280 : (Cond.methodLink "PartitionedProcedureStore" 171 ⟨"PartitionedProcedureStore", "raiseDurable", "(I)V"⟩) ∈ TBL := tb2 1 rfl rfl
set_option maxRecDepth 20000 in
theorem LK_281 : (Cond.instanceMethod ⟨"PartitionedProcedureStore", "raiseDurable", "(I)V"⟩) ∈ TBL := tb2 3 rfl rfl
set_option maxRecDepth 20000 in
theorem LK_282 : (Cond.selects "PartitionedProcedureStore" ⟨"PartitionedProcedureStore", "raiseDurable", "(I)V"⟩ ⟨"PartitionedProcedureStore", "raiseDurable", "(I)V"⟩) ∈ TBL := tbS 8 rfl rfl
set_option maxRecDepth 20000 in
theorem LK_code_S_raiseDurable : Cond.code y_S_raiseDurable b_S_raiseDurable 6 none ∈ TBL := tb2 4 rfl rfl
set_option maxRecDepth 20000 in
theorem LK_284 : (Cond.fieldLink "PartitionedProcedureStore" 174 "PartitionedProcedureStore$Site" "marked" "Z") ∈ TBL := tb0 187 rfl rfl
set_option maxRecDepth 20000 in
theorem LK_285 : (Cond.fieldLink "PartitionedProcedureStore" 177 "PartitionedProcedureStore$Site" "rowsLeft" "I") ∈ TBL := tb0 189 rfl rfl
set_option maxRecDepth 20000 in
theorem LK_286 : (Cond.methodLink "PartitionedProcedureStore" 165 ⟨"PartitionedProcedureStore$Site", "passOn", "()V"⟩) ∈ TBL := tb1 196 rfl rfl
set_option maxRecDepth 20000 in
theorem LK_287 : (Cond.instanceMethod ⟨"PartitionedProcedureStore$Site", "passOn", "()V"⟩) ∈ TBL := tb1 197 rfl rfl
set_option maxRecDepth 20000 in
theorem LK_288 : (Cond.selects "PartitionedProcedureStore$Site" ⟨"PartitionedProcedureStore$Site", "passOn", "()V"⟩ ⟨"PartitionedProcedureStore$Site", "passOn", "()V"⟩) ∈ TBL := tb1 198 rfl rfl
set_option maxRecDepth 20000 in
theorem LK_code_Q_passOn : Cond.code y_Q_passOn b_Q_passOn 1 none ∈ TBL := tb1 199 rfl rfl
set_option maxRecDepth 20000 in
theorem LK_290 : (Cond.fieldLink "PartitionedProcedureStore" 191 "PartitionedProcedureStore$Runner" "live" "LPartitionedProcedureStore$Table;") ∈ TBL := tb0 95 rfl rfl
set_option maxRecDepth 20000 in
theorem LK_291 : (Cond.methodLink "PartitionedProcedureStore" 235 ⟨"PartitionedProcedureStore$Table", "copyPart", "(LPartitionedProcedureStore$Table;II)V"⟩) ∈ TBL := tb1 209 rfl rfl
set_option maxRecDepth 20000 in
theorem LK_292 : (Cond.instanceMethod ⟨"PartitionedProcedureStore$Table", "copyPart", "(LPartitionedProcedureStore$Table;II)V"⟩) ∈ TBL := tb1 210 rfl rfl
set_option maxRecDepth 20000 in
theorem LK_293 : (Cond.selects "PartitionedProcedureStore$Table" ⟨"PartitionedProcedureStore$Table", "copyPart", "(LPartitionedProcedureStore$Table;II)V"⟩ ⟨"PartitionedProcedureStore$Table", "copyPart", "(LPartitionedProcedureStore$Table;II)V"⟩) ∈ TBL := tb1 211 rfl rfl
set_option maxRecDepth 20000 in
theorem LK_code_B_copyPart : Cond.code y_B_copyPart b_B_copyPart 5 none ∈ TBL := tb1 212 rfl rfl
set_option maxRecDepth 20000 in
theorem LK_295 : (Cond.methodLink "PartitionedProcedureStore" 239 ⟨"PartitionedProcedureStore$Table", "copyCells", "(LPartitionedProcedureStore$Table;)V"⟩) ∈ TBL := tb1 213 rfl rfl
set_option maxRecDepth 20000 in
theorem LK_296 : (Cond.methodLink "PartitionedProcedureStore" 220 ⟨"PartitionedProcedureStore$Table", "countPart", "(II)I"⟩) ∈ TBL := tb1 218 rfl rfl
set_option maxRecDepth 20000 in
theorem LK_297 : (Cond.instanceMethod ⟨"PartitionedProcedureStore$Table", "countPart", "(II)I"⟩) ∈ TBL := tb1 219 rfl rfl
set_option maxRecDepth 20000 in
theorem LK_298 : (Cond.selects "PartitionedProcedureStore$Table" ⟨"PartitionedProcedureStore$Table", "countPart", "(II)I"⟩ ⟨"PartitionedProcedureStore$Table", "countPart", "(II)I"⟩) ∈ TBL := tb1 220 rfl rfl
set_option maxRecDepth 20000 in
theorem LK_code_B_countPart : Cond.code y_B_countPart b_B_countPart 5 (some .int) ∈ TBL := tb1 221 rfl rfl
set_option maxRecDepth 20000 in
theorem LK_300 : (Cond.methodLink "PartitionedProcedureStore" 242 ⟨"PartitionedProcedureStore$Site", "beginPart", "(I)V"⟩) ∈ TBL := tb1 222 rfl rfl
set_option maxRecDepth 20000 in
theorem LK_301 : (Cond.instanceMethod ⟨"PartitionedProcedureStore$Site", "beginPart", "(I)V"⟩) ∈ TBL := tb1 223 rfl rfl
set_option maxRecDepth 20000 in
theorem LK_302 : (Cond.selects "PartitionedProcedureStore$Site" ⟨"PartitionedProcedureStore$Site", "beginPart", "(I)V"⟩ ⟨"PartitionedProcedureStore$Site", "beginPart", "(I)V"⟩) ∈ TBL := tb1 224 rfl rfl
set_option maxRecDepth 20000 in
theorem LK_code_Q_beginPart : Cond.code y_Q_beginPart b_Q_beginPart 2 none ∈ TBL := tb1 225 rfl rfl
set_option maxRecDepth 20000 in
theorem LK_304 : (Cond.methodLink "PartitionedProcedureStore" 180 ⟨"PartitionedProcedureStore", "completeSnapshotIfCopied", "()V"⟩) ∈ TBL := tb1 226 rfl rfl
set_option maxRecDepth 20000 in
theorem LK_305 : (Cond.instanceMethod ⟨"PartitionedProcedureStore", "completeSnapshotIfCopied", "()V"⟩) ∈ TBL := tb1 228 rfl rfl
set_option maxRecDepth 20000 in
theorem LK_306 : (Cond.selects "PartitionedProcedureStore" ⟨"PartitionedProcedureStore", "completeSnapshotIfCopied", "()V"⟩ ⟨"PartitionedProcedureStore", "completeSnapshotIfCopied", "()V"⟩) ∈ TBL := tbS 6 rfl rfl
set_option maxRecDepth 20000 in
theorem LK_code_S_completeSnapshotIfCopied : Cond.code y_S_completeSnapshotIfCopied b_S_completeSnapshotIfCopied 5 none ∈ TBL := tb1 229 rfl rfl
set_option maxRecDepth 20000 in
theorem LK_308 : (Cond.fieldLink "PartitionedProcedureStore" 156 "PartitionedProcedureStore$Site" "stalled" "Z") ∈ TBL := tb0 185 rfl rfl
set_option maxRecDepth 20000 in
theorem LK_309 : (Cond.methodLink "PartitionedProcedureStore$Runner" 88 ⟨"java/util/Arrays", "fill", "([II)V"⟩) ∈ TBL := tb2 31 rfl rfl
set_option maxRecDepth 20000 in
theorem LK_310 : (Cond.static ⟨"java/util/Arrays", "fill", "([II)V"⟩) ∈ TBL := tb2 32 rfl rfl
set_option maxRecDepth 20000 in
theorem LK_code_Ar_fill1 : Cond.code y_Ar_fill1 b_Ar_fill1 4 none ∈ TBL := tb2 33 rfl rfl
set_option maxRecDepth 20000 in
theorem LK_312 : (Cond.fieldLink "PartitionedProcedureStore$Runner" 94 "PartitionedProcedureStore$Task" "a" "I") ∈ TBL := tb1 145 rfl rfl
set_option maxRecDepth 20000 in
theorem LK_313 : (Cond.fieldLink "PartitionedProcedureStore$Runner" 97 "PartitionedProcedureStore$Task" "b" "I") ∈ TBL := tb1 147 rfl rfl
set_option maxRecDepth 20000 in
theorem LK_314 : (Cond.fieldLink "PartitionedProcedureStore$Runner" 100 "PartitionedProcedureStore$Task" "c" "I") ∈ TBL := tb1 149 rfl rfl
set_option maxRecDepth 20000 in
theorem LK_315 : (Cond.methodLink "PartitionedProcedureStore$Runner" 77 ⟨"PartitionedProcedureStore$Table", "copyFrom", "(LPartitionedProcedureStore$Table;)V"⟩) ∈ TBL := tb2 29 rfl rfl
set_option maxRecDepth 20000 in
theorem LK_316 : (Cond.fieldLink "PartitionedProcedureStore$Runner" 45 "PartitionedProcedureStore$Task" "procedure" "LPartitionedProcedureStore$Procedure;") ∈ TBL := tb1 142 rfl rfl
set_option maxRecDepth 20000 in
theorem LK_317 : (Cond.fieldLink "PartitionedProcedureStore$Runner" 81 "PartitionedProcedureStore$Procedure" "multi" "Z") ∈ TBL := tb0 134 rfl rfl
set_option maxRecDepth 20000 in
theorem LK_318 : (Cond.methodLink "PartitionedProcedureStore$Runner" 85 ⟨"PartitionedProcedureStore$Task", "home", "(I)I"⟩) ∈ TBL := tb2 30 rfl rfl
set_option maxRecDepth 20000 in
theorem LK_319 : (Cond.methodLink "PartitionedProcedureStore$Runner" 137 ⟨"PartitionedProcedureStore$Runner", "isReachable", "(I)Z"⟩) ∈ TBL := tb2 49 rfl rfl
set_option maxRecDepth 20000 in
theorem LK_320 : (Cond.instanceMethod ⟨"PartitionedProcedureStore$Runner", "isReachable", "(I)Z"⟩) ∈ TBL := tb2 51 rfl rfl
set_option maxRecDepth 20000 in
theorem LK_321 : (Cond.selects "PartitionedProcedureStore$Runner" ⟨"PartitionedProcedureStore$Runner", "isReachable", "(I)Z"⟩ ⟨"PartitionedProcedureStore$Runner", "isReachable", "(I)Z"⟩) ∈ TBL := tbS 16 rfl rfl
set_option maxRecDepth 20000 in
theorem LK_code_R_isReachable : Cond.code y_R_isReachable b_R_isReachable 2 (some .boolean) ∈ TBL := tb2 52 rfl rfl
set_option maxRecDepth 20000 in
theorem LK_323 : (Cond.fieldLink "PartitionedProcedureStore$Runner" 140 "PartitionedProcedureStore$Table" "values" "[J") ∈ TBL := tb0 68 rfl rfl
set_option maxRecDepth 20000 in
theorem LK_324 : (Cond.constantLong "PartitionedProcedureStore$Runner" 123 (1000000000000 : Int64)) ∈ TBL := tb2 53 rfl rfl
set_option maxRecDepth 20000 in
theorem LK_325 : (Cond.fieldLink "PartitionedProcedureStore$Runner" 112 "PartitionedProcedureStore$Statement" "y" "I") ∈ TBL := tb1 38 rfl rfl
set_option maxRecDepth 20000 in
theorem LK_326 : (Cond.methodLink "PartitionedProcedureStore$Runner" 119 ⟨"PartitionedProcedureStore$Runner", "isPresent", "(I)Z"⟩) ∈ TBL := tb2 45 rfl rfl
set_option maxRecDepth 20000 in
theorem LK_327 : (Cond.instanceMethod ⟨"PartitionedProcedureStore$Runner", "isPresent", "(I)Z"⟩) ∈ TBL := tb2 47 rfl rfl
set_option maxRecDepth 20000 in
theorem LK_328 : (Cond.selects "PartitionedProcedureStore$Runner" ⟨"PartitionedProcedureStore$Runner", "isPresent", "(I)Z"⟩ ⟨"PartitionedProcedureStore$Runner", "isPresent", "(I)Z"⟩) ∈ TBL := tbS 15 rfl rfl
set_option maxRecDepth 20000 in
theorem LK_code_R_isPresent : Cond.code y_R_isPresent b_R_isPresent 2 (some .boolean) ∈ TBL := tb2 48 rfl rfl
set_option maxRecDepth 20000 in
theorem LK_330 : (Cond.fieldLink "PartitionedProcedureStore$Runner" 109 "PartitionedProcedureStore$Statement" "x" "I") ∈ TBL := tb1 35 rfl rfl
set_option maxRecDepth 20000 in
theorem NW_331 : (Cond.methodLinkNest "PartitionedProcedureStore$Runner" 144 ⟨"PartitionedProcedureStore", "isWithin", "(II)Z"⟩ "PartitionedProcedureStore") ∈ nestW := by decide +kernel
set_option maxRecDepth 20000 in
theorem LK_332 : (Cond.fieldLink "PartitionedProcedureStore$Runner" 148 "PartitionedProcedureStore$Table" "cells" "[I") ∈ TBL := tb0 71 rfl rfl
set_option maxRecDepth 20000 in
theorem LK_333 : (Cond.fieldLink "PartitionedProcedureStore$Runner" 103 "PartitionedProcedureStore$Statement" "op" "I") ∈ TBL := tb1 33 rfl rfl
set_option maxRecDepth 20000 in
theorem LK_334 : (Cond.methodLink "PartitionedProcedureStore$Runner" 106 ⟨"PartitionedProcedureStore$Runner", "readRow", "(LPartitionedProcedureStore$Statement;)I"⟩) ∈ TBL := tb2 41 rfl rfl
set_option maxRecDepth 20000 in
theorem LK_335 : (Cond.instanceMethod ⟨"PartitionedProcedureStore$Runner", "readRow", "(LPartitionedProcedureStore$Statement;)I"⟩) ∈ TBL := tb2 43 rfl rfl
set_option maxRecDepth 20000 in
theorem LK_336 : (Cond.selects "PartitionedProcedureStore$Runner" ⟨"PartitionedProcedureStore$Runner", "readRow", "(LPartitionedProcedureStore$Statement;)I"⟩ ⟨"PartitionedProcedureStore$Runner", "readRow", "(LPartitionedProcedureStore$Statement;)I"⟩) ∈ TBL := tbS 14 rfl rfl
set_option maxRecDepth 20000 in
theorem LK_code_R_readRow : Cond.code y_R_readRow b_R_readRow 3 (some .int) ∈ TBL := tb2 44 rfl rfl
set_option maxRecDepth 20000 in
theorem LK_338 : (Cond.methodLink "PartitionedProcedureStore$Runner" 115 ⟨"PartitionedProcedureStore$Runner", "writeRow", "(IJ)I"⟩) ∈ TBL := tb2 54 rfl rfl
set_option maxRecDepth 20000 in
theorem LK_339 : (Cond.instanceMethod ⟨"PartitionedProcedureStore$Runner", "writeRow", "(IJ)I"⟩) ∈ TBL := tb2 56 rfl rfl
set_option maxRecDepth 20000 in
theorem LK_340 : (Cond.selects "PartitionedProcedureStore$Runner" ⟨"PartitionedProcedureStore$Runner", "writeRow", "(IJ)I"⟩ ⟨"PartitionedProcedureStore$Runner", "writeRow", "(IJ)I"⟩) ∈ TBL := tbS 17 rfl rfl
set_option maxRecDepth 20000 in
theorem LK_code_R_writeRow : Cond.code y_R_writeRow b_R_writeRow 4 (some .int) ∈ TBL := tb2 57 rfl rfl
set_option maxRecDepth 20000 in
theorem LK_342 : (Cond.fieldLink "PartitionedProcedureStore$Runner" 125 "PartitionedProcedureStore$Statement" "z" "I") ∈ TBL := tb1 40 rfl rfl
set_option maxRecDepth 20000 in
theorem LK_343 : (Cond.methodLink "PartitionedProcedureStore$Runner" 128 ⟨"PartitionedProcedureStore$Runner", "loadCell", "(LPartitionedProcedureStore$Statement;)I"⟩) ∈ TBL := tb2 58 rfl rfl
set_option maxRecDepth 20000 in
theorem LK_344 : (Cond.instanceMethod ⟨"PartitionedProcedureStore$Runner", "loadCell", "(LPartitionedProcedureStore$Statement;)I"⟩) ∈ TBL := tb2 60 rfl rfl
set_option maxRecDepth 20000 in
theorem LK_345 : (Cond.selects "PartitionedProcedureStore$Runner" ⟨"PartitionedProcedureStore$Runner", "loadCell", "(LPartitionedProcedureStore$Statement;)I"⟩ ⟨"PartitionedProcedureStore$Runner", "loadCell", "(LPartitionedProcedureStore$Statement;)I"⟩) ∈ TBL := tbS 18 rfl rfl
set_option maxRecDepth 20000 in
theorem LK_code_R_loadCell : Cond.code y_R_loadCell b_R_loadCell 3 (some .int) ∈ TBL := tb2 61 rfl rfl
set_option maxRecDepth 20000 in
theorem LK_347 : (Cond.methodLink "PartitionedProcedureStore$Runner" 131 ⟨"PartitionedProcedureStore$Runner", "storeCell", "(LPartitionedProcedureStore$Statement;)I"⟩) ∈ TBL := tb2 63 rfl rfl
set_option maxRecDepth 20000 in
theorem LK_348 : (Cond.instanceMethod ⟨"PartitionedProcedureStore$Runner", "storeCell", "(LPartitionedProcedureStore$Statement;)I"⟩) ∈ TBL := tb2 65 rfl rfl
set_option maxRecDepth 20000 in
theorem LK_349 : (Cond.selects "PartitionedProcedureStore$Runner" ⟨"PartitionedProcedureStore$Runner", "storeCell", "(LPartitionedProcedureStore$Statement;)I"⟩ ⟨"PartitionedProcedureStore$Runner", "storeCell", "(LPartitionedProcedureStore$Statement;)I"⟩) ∈ TBL := tbS 19 rfl rfl
set_option maxRecDepth 20000 in
theorem LK_code_R_storeCell : Cond.code y_R_storeCell b_R_storeCell 3 (some .int) ∈ TBL := tb2 66 rfl rfl
set_option maxRecDepth 20000 in
theorem LK_351 : (Cond.methodLink "PartitionedProcedureStore$Runner" 134 ⟨"PartitionedProcedureStore$Runner", "putOut", "(I)I"⟩) ∈ TBL := tb2 67 rfl rfl
set_option maxRecDepth 20000 in
theorem LK_352 : (Cond.instanceMethod ⟨"PartitionedProcedureStore$Runner", "putOut", "(I)I"⟩) ∈ TBL := tb2 69 rfl rfl
set_option maxRecDepth 20000 in
theorem LK_353 : (Cond.selects "PartitionedProcedureStore$Runner" ⟨"PartitionedProcedureStore$Runner", "putOut", "(I)I"⟩ ⟨"PartitionedProcedureStore$Runner", "putOut", "(I)I"⟩) ∈ TBL := tbS 20 rfl rfl
set_option maxRecDepth 20000 in
theorem LK_code_R_putOut : Cond.code y_R_putOut b_R_putOut 2 (some .int) ∈ TBL := tb2 70 rfl rfl
set_option maxRecDepth 20000 in
theorem LK_355 : (Cond.methodLink "PartitionedProcedureStore$Runner" 57 ⟨"java/util/ArrayList", "size", "()I"⟩) ∈ TBL := tb2 34 rfl rfl
set_option maxRecDepth 20000 in
theorem LK_356 : (Cond.methodLink "PartitionedProcedureStore$Runner" 63 ⟨"java/util/ArrayList", "get", "(I)Ljava/lang/Object;"⟩) ∈ TBL := tb2 35 rfl rfl
set_option maxRecDepth 20000 in
theorem LK_357 : (Cond.classLink "PartitionedProcedureStore$Runner" 67 "PartitionedProcedureStore$Statement") ∈ TBL := tb2 36 rfl rfl
set_option maxRecDepth 20000 in
theorem LK_358 : (Cond.methodLink "PartitionedProcedureStore$Runner" 69 ⟨"PartitionedProcedureStore$Runner", "execute", "(LPartitionedProcedureStore$Statement;)I"⟩) ∈ TBL := tb2 37 rfl rfl
set_option maxRecDepth 20000 in
theorem LK_359 : (Cond.instanceMethod ⟨"PartitionedProcedureStore$Runner", "execute", "(LPartitionedProcedureStore$Statement;)I"⟩) ∈ TBL := tb2 39 rfl rfl
set_option maxRecDepth 20000 in
theorem LK_360 : (Cond.selects "PartitionedProcedureStore$Runner" ⟨"PartitionedProcedureStore$Runner", "execute", "(LPartitionedProcedureStore$Statement;)I"⟩ ⟨"PartitionedProcedureStore$Runner", "execute", "(LPartitionedProcedureStore$Statement;)I"⟩) ∈ TBL := tbS 13 rfl rfl
set_option maxRecDepth 20000 in
theorem LK_code_R_execute : Cond.code y_R_execute b_R_execute 2 (some .int) ∈ TBL := tb2 40 rfl rfl
set_option maxRecDepth 20000 in
theorem LK_362 : (Cond.methodLink "PartitionedProcedureStore$Runner" 73 ⟨"PartitionedProcedureStore$Runner", "abort", "(I)V"⟩) ∈ TBL := tb2 71 rfl rfl
set_option maxRecDepth 20000 in
theorem LK_363 : (Cond.instanceMethod ⟨"PartitionedProcedureStore$Runner", "abort", "(I)V"⟩) ∈ TBL := tb2 73 rfl rfl
set_option maxRecDepth 20000 in
theorem LK_364 : (Cond.selects "PartitionedProcedureStore$Runner" ⟨"PartitionedProcedureStore$Runner", "abort", "(I)V"⟩ ⟨"PartitionedProcedureStore$Runner", "abort", "(I)V"⟩) ∈ TBL := tbS 21 rfl rfl
set_option maxRecDepth 20000 in
theorem LK_code_R_abort : Cond.code y_R_abort b_R_abort 2 none ∈ TBL := tb2 74 rfl rfl
set_option maxRecDepth 20000 in
theorem LK_366 : (Cond.methodLink "PartitionedProcedureStore$Runner" 41 ⟨"PartitionedProcedureStore$Runner", "begin", "(LPartitionedProcedureStore$Task;)V"⟩) ∈ TBL := tb2 25 rfl rfl
set_option maxRecDepth 20000 in
theorem LK_367 : (Cond.instanceMethod ⟨"PartitionedProcedureStore$Runner", "begin", "(LPartitionedProcedureStore$Task;)V"⟩) ∈ TBL := tb2 27 rfl rfl
set_option maxRecDepth 20000 in
theorem LK_368 : (Cond.selects "PartitionedProcedureStore$Runner" ⟨"PartitionedProcedureStore$Runner", "begin", "(LPartitionedProcedureStore$Task;)V"⟩ ⟨"PartitionedProcedureStore$Runner", "begin", "(LPartitionedProcedureStore$Task;)V"⟩) ∈ TBL := tbS 12 rfl rfl
set_option maxRecDepth 20000 in
theorem LK_code_R_begin : Cond.code y_R_begin b_R_begin 2 none ∈ TBL := tb2 28 rfl rfl
set_option maxRecDepth 20000 in
theorem LK_370 : (Cond.fieldLink "PartitionedProcedureStore$Runner" 51 "PartitionedProcedureStore$Procedure" "statements" "Ljava/util/ArrayList;") ∈ TBL := tb0 131 rfl rfl
set_option maxRecDepth 20000 in
theorem LK_371 : (Cond.fieldLink "PartitionedProcedureStore$Client" 35 "PartitionedProcedureStore$Runner" "fault" "I") ∈ TBL := tb0 105 rfl rfl
set_option maxRecDepth 20000 in
theorem LK_372 : (Cond.fieldLink "PartitionedProcedureStore$Client" 38 "PartitionedProcedureStore$Runner" "outputSize" "I") ∈ TBL := tb0 103 rfl rfl
set_option maxRecDepth 20000 in
theorem LK_373 : (Cond.fieldLink "PartitionedProcedureStore$Client" 39 "PartitionedProcedureStore$Runner" "outputs" "[I") ∈ TBL := tb0 101 rfl rfl
set_option maxRecDepth 20000 in
theorem LK_374 : (Cond.methodLink "PartitionedProcedureStore$Client" 40 ⟨"java/lang/System", "arraycopy", "(Ljava/lang/Object;ILjava/lang/Object;II)V"⟩) ∈ TBL := tb2 79 rfl rfl
set_option maxRecDepth 20000 in
theorem LK_375 : (Cond.fieldLink "PartitionedProcedureStore" 226 "PartitionedProcedureStore$Task" "client" "I") ∈ TBL := tb1 140 rfl rfl
set_option maxRecDepth 20000 in
theorem LK_376 : (Cond.methodLink "PartitionedProcedureStore" 202 ⟨"PartitionedProcedureStore$Runner", "run", "(LPartitionedProcedureStore$Task;)Z"⟩) ∈ TBL := tb2 21 rfl rfl
set_option maxRecDepth 20000 in
theorem LK_377 : (Cond.instanceMethod ⟨"PartitionedProcedureStore$Runner", "run", "(LPartitionedProcedureStore$Task;)Z"⟩) ∈ TBL := tb2 22 rfl rfl
set_option maxRecDepth 20000 in
theorem LK_378 : (Cond.selects "PartitionedProcedureStore$Runner" ⟨"PartitionedProcedureStore$Runner", "run", "(LPartitionedProcedureStore$Task;)Z"⟩ ⟨"PartitionedProcedureStore$Runner", "run", "(LPartitionedProcedureStore$Task;)Z"⟩) ∈ TBL := tb2 23 rfl rfl
set_option maxRecDepth 20000 in
theorem LK_code_R_run : Cond.code y_R_run b_R_run 6 (some .boolean) ∈ TBL := tb2 24 rfl rfl
set_option maxRecDepth 20000 in
theorem LK_380 : (Cond.methodLink "PartitionedProcedureStore" 229 ⟨"PartitionedProcedureStore$Client", "finish", "(ZLPartitionedProcedureStore$Runner;)V"⟩) ∈ TBL := tb2 75 rfl rfl
set_option maxRecDepth 20000 in
theorem LK_381 : (Cond.instanceMethod ⟨"PartitionedProcedureStore$Client", "finish", "(ZLPartitionedProcedureStore$Runner;)V"⟩) ∈ TBL := tb2 76 rfl rfl
set_option maxRecDepth 20000 in
theorem LK_382 : (Cond.selects "PartitionedProcedureStore$Client" ⟨"PartitionedProcedureStore$Client", "finish", "(ZLPartitionedProcedureStore$Runner;)V"⟩ ⟨"PartitionedProcedureStore$Client", "finish", "(ZLPartitionedProcedureStore$Runner;)V"⟩) ∈ TBL := tb2 77 rfl rfl
set_option maxRecDepth 20000 in
theorem LK_code_C_finish : Cond.code y_C_finish b_C_finish 3 none ∈ TBL := tb2 78 rfl rfl
set_option maxRecDepth 20000 in
theorem LK_384 : (Cond.methodLink "PartitionedProcedureStore" 168 ⟨"PartitionedProcedureStore", "finish", "(LPartitionedProcedureStore$Task;)V"⟩) ∈ TBL := tb2 17 rfl rfl
set_option maxRecDepth 20000 in
theorem LK_385 : (Cond.instanceMethod ⟨"PartitionedProcedureStore", "finish", "(LPartitionedProcedureStore$Task;)V"⟩) ∈ TBL := tb2 19 rfl rfl
set_option maxRecDepth 20000 in
theorem LK_386 : (Cond.selects "PartitionedProcedureStore" ⟨"PartitionedProcedureStore", "finish", "(LPartitionedProcedureStore$Task;)V"⟩ ⟨"PartitionedProcedureStore", "finish", "(LPartitionedProcedureStore$Task;)V"⟩) ∈ TBL := tbS 11 rfl rfl
set_option maxRecDepth 20000 in
theorem LK_code_S_finish : Cond.code y_S_finish b_S_finish 3 none ∈ TBL := tb2 20 rfl rfl
set_option maxRecDepth 20000 in
theorem LK_388 : (Cond.methodLink "PartitionedProcedureStore" 149 ⟨"PartitionedProcedureStore$Site", "first", "()LPartitionedProcedureStore$Task;"⟩) ∈ TBL := tb1 182 rfl rfl
set_option maxRecDepth 20000 in
theorem LK_389 : (Cond.instanceMethod ⟨"PartitionedProcedureStore$Site", "first", "()LPartitionedProcedureStore$Task;"⟩) ∈ TBL := tb1 183 rfl rfl
set_option maxRecDepth 20000 in
theorem LK_390 : (Cond.selects "PartitionedProcedureStore$Site" ⟨"PartitionedProcedureStore$Site", "first", "()LPartitionedProcedureStore$Task;"⟩ ⟨"PartitionedProcedureStore$Site", "first", "()LPartitionedProcedureStore$Task;"⟩) ∈ TBL := tb1 184 rfl rfl
set_option maxRecDepth 20000 in
theorem LK_code_Q_first : Cond.code y_Q_first b_Q_first 1 (some (.object "PartitionedProcedureStore$Task")) ∈ TBL := tb1 185 rfl rfl
set_option maxRecDepth 20000 in
theorem LK_392 : (Cond.methodLink "PartitionedProcedureStore" 159 ⟨"PartitionedProcedureStore", "areAllStalled", "()Z"⟩) ∈ TBL := tb2 9 rfl rfl
set_option maxRecDepth 20000 in
theorem LK_393 : (Cond.instanceMethod ⟨"PartitionedProcedureStore", "areAllStalled", "()Z"⟩) ∈ TBL := tb2 11 rfl rfl
set_option maxRecDepth 20000 in
theorem LK_394 : (Cond.selects "PartitionedProcedureStore" ⟨"PartitionedProcedureStore", "areAllStalled", "()Z"⟩ ⟨"PartitionedProcedureStore", "areAllStalled", "()Z"⟩) ∈ TBL := tbS 9 rfl rfl
set_option maxRecDepth 20000 in
theorem LK_code_S_areAllStalled : Cond.code y_S_areAllStalled b_S_areAllStalled 5 (some .boolean) ∈ TBL := tb2 12 rfl rfl
set_option maxRecDepth 20000 in
theorem LK_396 : (Cond.methodLink "PartitionedProcedureStore" 162 ⟨"PartitionedProcedureStore", "passOnAtAllSites", "()V"⟩) ∈ TBL := tb2 13 rfl rfl
set_option maxRecDepth 20000 in
theorem LK_397 : (Cond.instanceMethod ⟨"PartitionedProcedureStore", "passOnAtAllSites", "()V"⟩) ∈ TBL := tb2 15 rfl rfl
set_option maxRecDepth 20000 in
theorem LK_398 : (Cond.selects "PartitionedProcedureStore" ⟨"PartitionedProcedureStore", "passOnAtAllSites", "()V"⟩ ⟨"PartitionedProcedureStore", "passOnAtAllSites", "()V"⟩) ∈ TBL := tbS 10 rfl rfl
set_option maxRecDepth 20000 in
theorem LK_code_S_passOnAtAllSites : Cond.code y_S_passOnAtAllSites b_S_passOnAtAllSites 5 none ∈ TBL := tb2 16 rfl rfl
set_option maxRecDepth 20000 in
theorem LK_400 : (Cond.methodLink "PartitionedProcedureStore" 153 ⟨"PartitionedProcedureStore", "comeToMarker", "(I)V"⟩) ∈ TBL := tb1 192 rfl rfl
set_option maxRecDepth 20000 in
theorem LK_401 : (Cond.instanceMethod ⟨"PartitionedProcedureStore", "comeToMarker", "(I)V"⟩) ∈ TBL := tb1 194 rfl rfl
set_option maxRecDepth 20000 in
theorem LK_402 : (Cond.selects "PartitionedProcedureStore" ⟨"PartitionedProcedureStore", "comeToMarker", "(I)V"⟩ ⟨"PartitionedProcedureStore", "comeToMarker", "(I)V"⟩) ∈ TBL := tbS 4 rfl rfl
set_option maxRecDepth 20000 in
theorem LK_code_S_comeToMarker : Cond.code y_S_comeToMarker b_S_comeToMarker 2 none ∈ TBL := tb1 195 rfl rfl
set_option maxRecDepth 20000 in
theorem LK_404 : (Cond.methodLink "PartitionedProcedureStore$Site" 40 ⟨"java/util/ArrayList", "clear", "()V"⟩) ∈ TBL := tb2 100 rfl rfl
set_option maxRecDepth 20000 in
theorem LK_405 : (Cond.methodLink "PartitionedProcedureStore" 188 ⟨"PartitionedProcedureStore", "dropLogAbove", "(I)V"⟩) ∈ TBL := tb2 105 rfl rfl
set_option maxRecDepth 20000 in
theorem LK_406 : (Cond.instanceMethod ⟨"PartitionedProcedureStore", "dropLogAbove", "(I)V"⟩) ∈ TBL := tb2 107 rfl rfl
set_option maxRecDepth 20000 in
theorem LK_407 : (Cond.selects "PartitionedProcedureStore" ⟨"PartitionedProcedureStore", "dropLogAbove", "(I)V"⟩ ⟨"PartitionedProcedureStore", "dropLogAbove", "(I)V"⟩) ∈ TBL := tbS 22 rfl rfl
set_option maxRecDepth 20000 in
theorem LK_code_S_dropLogAbove : Cond.code y_S_dropLogAbove b_S_dropLogAbove 3 none ∈ TBL := tb2 108 rfl rfl
set_option maxRecDepth 20000 in
theorem LK_409 : (Cond.methodLink "PartitionedProcedureStore" 185 ⟨"PartitionedProcedureStore$Client", "lose", "()V"⟩) ∈ TBL := tb2 101 rfl rfl
set_option maxRecDepth 20000 in
theorem LK_410 : (Cond.instanceMethod ⟨"PartitionedProcedureStore$Client", "lose", "()V"⟩) ∈ TBL := tb2 102 rfl rfl
set_option maxRecDepth 20000 in
theorem LK_411 : (Cond.selects "PartitionedProcedureStore$Client" ⟨"PartitionedProcedureStore$Client", "lose", "()V"⟩ ⟨"PartitionedProcedureStore$Client", "lose", "()V"⟩) ∈ TBL := tb2 103 rfl rfl
set_option maxRecDepth 20000 in
theorem LK_code_C_lose : Cond.code y_C_lose b_C_lose 1 none ∈ TBL := tb2 104 rfl rfl
set_option maxRecDepth 20000 in
theorem LK_413 : (Cond.methodLink "PartitionedProcedureStore" 183 ⟨"PartitionedProcedureStore$Site", "restart", "()V"⟩) ∈ TBL := tb2 96 rfl rfl
set_option maxRecDepth 20000 in
theorem LK_414 : (Cond.instanceMethod ⟨"PartitionedProcedureStore$Site", "restart", "()V"⟩) ∈ TBL := tb2 97 rfl rfl
set_option maxRecDepth 20000 in
theorem LK_415 : (Cond.selects "PartitionedProcedureStore$Site" ⟨"PartitionedProcedureStore$Site", "restart", "()V"⟩ ⟨"PartitionedProcedureStore$Site", "restart", "()V"⟩) ∈ TBL := tb2 98 rfl rfl
set_option maxRecDepth 20000 in
theorem LK_code_Q_restart : Cond.code y_Q_restart b_Q_restart 1 none ∈ TBL := tb2 99 rfl rfl
set_option maxRecDepth 20000 in
theorem LK_417 : (Cond.constantLong "PartitionedProcedureStore$Client" 50 (1000000000000 : Int64)) ∈ TBL := tb2 122 rfl rfl
set_option maxRecDepth 20000 in
theorem NW_418 : (Cond.methodLinkNest "PartitionedProcedureStore$Client" 46 ⟨"PartitionedProcedureStore", "isWithin", "(II)Z"⟩ "PartitionedProcedureStore") ∈ nestW := by decide +kernel
set_option maxRecDepth 20000 in
theorem LK_419 : (Cond.constantLong "PartitionedProcedureStore" 210 (1000000000000 : Int64)) ∈ TBL := tb2 123 rfl rfl
set_option maxRecDepth 20000 in
theorem LK_420 : (Cond.methodLink "PartitionedProcedureStore" 206 ⟨"PartitionedProcedureStore$Client", "tell", "(I)J"⟩) ∈ TBL := tb2 117 rfl rfl
set_option maxRecDepth 20000 in
theorem LK_421 : (Cond.instanceMethod ⟨"PartitionedProcedureStore$Client", "tell", "(I)J"⟩) ∈ TBL := tb2 118 rfl rfl
set_option maxRecDepth 20000 in
theorem LK_422 : (Cond.selects "PartitionedProcedureStore$Client" ⟨"PartitionedProcedureStore$Client", "tell", "(I)J"⟩ ⟨"PartitionedProcedureStore$Client", "tell", "(I)J"⟩) ∈ TBL := tb2 119 rfl rfl
set_option maxRecDepth 20000 in
theorem LK_code_C_tell : Cond.code y_C_tell b_C_tell 2 (some .long) ∈ TBL := tb2 120 rfl rfl
set_option maxRecDepth 20000 in
theorem LK_424 : (Cond.fieldLink "PartitionedProcedureStore" 212 "PartitionedProcedureStore$Table" "values" "[J") ∈ TBL := tb0 69 rfl rfl
set_option maxRecDepth 20000 in
theorem LK_425 : (Cond.fieldLink "PartitionedProcedureStore" 216 "PartitionedProcedureStore$Table" "cells" "[I") ∈ TBL := tb0 72 rfl rfl
set_option maxRecDepth 20000 in
theorem LK_426 : (Cond.methodLink "PartitionedProcedureStore" 223 ⟨"PartitionedProcedureStore", "stalledNumber", "()I"⟩) ∈ TBL := tb2 144 rfl rfl
set_option maxRecDepth 20000 in
theorem LK_427 : (Cond.instanceMethod ⟨"PartitionedProcedureStore", "stalledNumber", "()I"⟩) ∈ TBL := tb2 146 rfl rfl
set_option maxRecDepth 20000 in
theorem LK_428 : (Cond.selects "PartitionedProcedureStore" ⟨"PartitionedProcedureStore", "stalledNumber", "()I"⟩ ⟨"PartitionedProcedureStore", "stalledNumber", "()I"⟩) ∈ TBL := tbS 23 rfl rfl
set_option maxRecDepth 20000 in
theorem LK_code_S_stalledNumber : Cond.code y_S_stalledNumber b_S_stalledNumber 6 (some .int) ∈ TBL := tb2 147 rfl rfl
set_option maxRecDepth 20000 in
theorem LK_430 : (Cond.fieldLink "PartitionedProcedureStoreModel" 96 "PartitionedProcedureStoreModel" "sites" "I") ∈ TBL := tb2 157 rfl rfl
set_option maxRecDepth 20000 in
theorem LK_431 : (Cond.methodLink "PartitionedProcedureStoreModel" 1 ⟨"java/lang/Object", "<init>", "()V"⟩) ∈ TBL := tb2 156 rfl rfl
set_option maxRecDepth 20000 in
theorem LK_432 : (Cond.arrayClass FieldType.boolean) ∈ TBL := tb3 17 rfl rfl
set_option maxRecDepth 20000 in
theorem LK_433 : (Cond.fieldLink "PartitionedProcedureStoreModel" 7 "PartitionedProcedureStoreModel" "there" "[Z") ∈ TBL := tb2 158 rfl rfl
set_option maxRecDepth 20000 in
theorem LK_434 : (Cond.fieldLink "PartitionedProcedureStoreModel" 13 "PartitionedProcedureStoreModel" "held" "[I") ∈ TBL := tb2 159 rfl rfl
set_option maxRecDepth 20000 in
theorem LK_435 : (Cond.fieldLink "PartitionedProcedureStoreModel" 17 "PartitionedProcedureStoreModel" "baseThere" "[Z") ∈ TBL := tb2 160 rfl rfl
set_option maxRecDepth 20000 in
theorem LK_436 : (Cond.fieldLink "PartitionedProcedureStoreModel" 20 "PartitionedProcedureStoreModel" "baseHeld" "[I") ∈ TBL := tb2 161 rfl rfl
set_option maxRecDepth 20000 in
theorem LK_437 : (Cond.fieldLink "PartitionedProcedureStoreModel" 23 "PartitionedProcedureStoreModel" "oldThere" "[Z") ∈ TBL := tb2 162 rfl rfl
set_option maxRecDepth 20000 in
theorem LK_438 : (Cond.fieldLink "PartitionedProcedureStoreModel" 26 "PartitionedProcedureStoreModel" "oldHeld" "[I") ∈ TBL := tb2 163 rfl rfl
set_option maxRecDepth 20000 in
theorem LK_439 : (Cond.fieldLink "PartitionedProcedureStoreModel" 29 "PartitionedProcedureStoreModel" "deployed" "[Z") ∈ TBL := tb2 164 rfl rfl
set_option maxRecDepth 20000 in
theorem LK_440 : (Cond.fieldLink "PartitionedProcedureStoreModel" 32 "PartitionedProcedureStoreModel" "multi" "[Z") ∈ TBL := tb2 165 rfl rfl
set_option maxRecDepth 20000 in
theorem LK_441 : (Cond.fieldLink "PartitionedProcedureStoreModel" 35 "PartitionedProcedureStoreModel" "statements" "[I") ∈ TBL := tb2 166 rfl rfl
set_option maxRecDepth 20000 in
theorem LK_442 : (Cond.fieldLink "PartitionedProcedureStoreModel" 38 "PartitionedProcedureStoreModel" "op" "[I") ∈ TBL := tb2 167 rfl rfl
set_option maxRecDepth 20000 in
theorem LK_443 : (Cond.fieldLink "PartitionedProcedureStoreModel" 41 "PartitionedProcedureStoreModel" "x" "[I") ∈ TBL := tb2 168 rfl rfl
set_option maxRecDepth 20000 in
theorem LK_444 : (Cond.fieldLink "PartitionedProcedureStoreModel" 44 "PartitionedProcedureStoreModel" "y" "[I") ∈ TBL := tb2 169 rfl rfl
set_option maxRecDepth 20000 in
theorem LK_445 : (Cond.fieldLink "PartitionedProcedureStoreModel" 47 "PartitionedProcedureStoreModel" "z" "[I") ∈ TBL := tb2 170 rfl rfl
set_option maxRecDepth 20000 in
theorem LK_446 : (Cond.fieldLink "PartitionedProcedureStoreModel" 50 "PartitionedProcedureStoreModel" "drafting" "I") ∈ TBL := tb2 171 rfl rfl
set_option maxRecDepth 20000 in
theorem LK_447 : (Cond.fieldLink "PartitionedProcedureStoreModel" 54 "PartitionedProcedureStoreModel" "procedure" "[I") ∈ TBL := tb2 173 rfl rfl
set_option maxRecDepth 20000 in
theorem LK_448 : (Cond.fieldLink "PartitionedProcedureStoreModel" 57 "PartitionedProcedureStoreModel" "arguments" "[I") ∈ TBL := tb2 174 rfl rfl
set_option maxRecDepth 20000 in
theorem LK_449 : (Cond.fieldLink "PartitionedProcedureStoreModel" 60 "PartitionedProcedureStoreModel" "done" "[Z") ∈ TBL := tb2 175 rfl rfl
set_option maxRecDepth 20000 in
theorem LK_450 : (Cond.fieldLink "PartitionedProcedureStoreModel" 63 "PartitionedProcedureStoreModel" "came" "[I") ∈ TBL := tb2 176 rfl rfl
set_option maxRecDepth 20000 in
theorem LK_451 : (Cond.fieldLink "PartitionedProcedureStoreModel" 66 "PartitionedProcedureStoreModel" "fault" "[I") ∈ TBL := tb2 177 rfl rfl
set_option maxRecDepth 20000 in
theorem LK_452 : (Cond.fieldLink "PartitionedProcedureStoreModel" 69 "PartitionedProcedureStoreModel" "outs" "[I") ∈ TBL := tb2 178 rfl rfl
set_option maxRecDepth 20000 in
theorem LK_453 : (Cond.fieldLink "PartitionedProcedureStoreModel" 72 "PartitionedProcedureStoreModel" "out" "[I") ∈ TBL := tb2 179 rfl rfl
set_option maxRecDepth 20000 in
theorem LK_454 : (Cond.fieldLink "PartitionedProcedureStoreModel" 75 "PartitionedProcedureStoreModel" "left" "[I") ∈ TBL := tb2 183 rfl rfl
set_option maxRecDepth 20000 in
theorem LK_455 : (Cond.fieldLink "PartitionedProcedureStoreModel" 78 "PartitionedProcedureStoreModel" "state" "[I") ∈ TBL := tb2 184 rfl rfl
set_option maxRecDepth 20000 in
theorem LK_456 : (Cond.fieldLink "PartitionedProcedureStoreModel" 81 "PartitionedProcedureStoreModel" "command" "[I") ∈ TBL := tb2 185 rfl rfl
set_option maxRecDepth 20000 in
theorem LK_457 : (Cond.fieldLink "PartitionedProcedureStoreModel" 84 "PartitionedProcedureStoreModel" "shownOuts" "[I") ∈ TBL := tb2 186 rfl rfl
set_option maxRecDepth 20000 in
theorem LK_458 : (Cond.fieldLink "PartitionedProcedureStoreModel" 87 "PartitionedProcedureStoreModel" "shownOut" "[I") ∈ TBL := tb2 187 rfl rfl
set_option maxRecDepth 20000 in
theorem LK_459 : (Cond.fieldLink "PartitionedProcedureStoreModel" 90 "PartitionedProcedureStoreModel" "shownFault" "[I") ∈ TBL := tb2 188 rfl rfl
set_option maxRecDepth 20000 in
theorem LK_460 : (Cond.fieldLink "PartitionedProcedureStoreModel" 93 "PartitionedProcedureStoreModel" "register" "[I") ∈ TBL := tb2 189 rfl rfl
set_option maxRecDepth 20000 in
theorem LK_461 : (Cond.methodLink "PartitionedProcedureStoreModel" 99 ⟨"PartitionedProcedureStoreModel", "outside", "(II)Z"⟩) ∈ TBL := tb3 22 rfl rfl
set_option maxRecDepth 20000 in
theorem LK_462 : (Cond.static ⟨"PartitionedProcedureStoreModel", "outside", "(II)Z"⟩) ∈ TBL := tb3 23 rfl rfl
set_option maxRecDepth 20000 in
theorem LK_463 : (Cond.initialized "PartitionedProcedureStoreModel") ∈ TBL := tb0 12 rfl rfl
set_option maxRecDepth 20000 in
theorem LK_code_M_outside : Cond.code y_M_outside b_M_outside 2 (some .boolean) ∈ TBL := tb3 24 rfl rfl
set_option maxRecDepth 20000 in
theorem LK_465 : (Cond.fieldLink "PartitionedProcedureStoreModel" 133 "PartitionedProcedureStoreModel" "last" "I") ∈ TBL := tb2 172 rfl rfl
set_option maxRecDepth 20000 in
theorem LK_466 : (Cond.fieldLink "PartitionedProcedureStoreModel" 120 "PartitionedProcedureStoreModel" "complete" "I") ∈ TBL := tb2 181 rfl rfl
set_option maxRecDepth 20000 in
theorem LK_467 : (Cond.methodLink "PartitionedProcedureStoreModel" 139 ⟨"PartitionedProcedureStoreModel", "logged", "()I"⟩) ∈ TBL := tb3 37 rfl rfl
set_option maxRecDepth 20000 in
theorem LK_468 : (Cond.instanceMethod ⟨"PartitionedProcedureStoreModel", "logged", "()I"⟩) ∈ TBL := tb3 39 rfl rfl
set_option maxRecDepth 20000 in
theorem LK_469 : (Cond.selects "PartitionedProcedureStoreModel" ⟨"PartitionedProcedureStoreModel", "logged", "()I"⟩ ⟨"PartitionedProcedureStoreModel", "logged", "()I"⟩) ∈ TBL := tbS 24 rfl rfl
set_option maxRecDepth 20000 in
theorem LK_code_M_logged : Cond.code y_M_logged b_M_logged 3 (some .int) ∈ TBL := tb3 40 rfl rfl
set_option maxRecDepth 20000 in
theorem LK_471 : (Cond.methodLink "PartitionedProcedureStoreModel" 143 ⟨"PartitionedProcedureStoreModel", "next", "(I)I"⟩) ∈ TBL := tb3 41 rfl rfl
set_option maxRecDepth 20000 in
theorem LK_472 : (Cond.instanceMethod ⟨"PartitionedProcedureStoreModel", "next", "(I)I"⟩) ∈ TBL := tb3 43 rfl rfl
set_option maxRecDepth 20000 in
theorem LK_473 : (Cond.selects "PartitionedProcedureStoreModel" ⟨"PartitionedProcedureStoreModel", "next", "(I)I"⟩ ⟨"PartitionedProcedureStoreModel", "next", "(I)I"⟩) ∈ TBL := tbS 25 rfl rfl
set_option maxRecDepth 20000 in
theorem LK_code_M_next : Cond.code y_M_next b_M_next 2 (some .int) ∈ TBL := tb3 44 rfl rfl
set_option maxRecDepth 20000 in
theorem LK_475 : (Cond.methodLink "PartitionedProcedureStoreModel" 103 ⟨"PartitionedProcedureStoreModel", "partitionOf", "(I)I"⟩) ∈ TBL := tb3 53 rfl rfl
set_option maxRecDepth 20000 in
theorem LK_476 : (Cond.instanceMethod ⟨"PartitionedProcedureStoreModel", "partitionOf", "(I)I"⟩) ∈ TBL := tb3 55 rfl rfl
set_option maxRecDepth 20000 in
theorem LK_477 : (Cond.selects "PartitionedProcedureStoreModel" ⟨"PartitionedProcedureStoreModel", "partitionOf", "(I)I"⟩ ⟨"PartitionedProcedureStoreModel", "partitionOf", "(I)I"⟩) ∈ TBL := tbS 27 rfl rfl
set_option maxRecDepth 20000 in
theorem LK_code_M_partitionOf : Cond.code y_M_partitionOf b_M_partitionOf 3 (some .int) ∈ TBL := tb3 56 rfl rfl
set_option maxRecDepth 20000 in
theorem LK_479 : (Cond.methodLink "PartitionedProcedureStoreModel" 107 ⟨"PartitionedProcedureStoreModel", "foreign", "(II)Z"⟩) ∈ TBL := tb3 77 rfl rfl
set_option maxRecDepth 20000 in
theorem LK_480 : (Cond.instanceMethod ⟨"PartitionedProcedureStoreModel", "foreign", "(II)Z"⟩) ∈ TBL := tb3 79 rfl rfl
set_option maxRecDepth 20000 in
theorem LK_481 : (Cond.selects "PartitionedProcedureStoreModel" ⟨"PartitionedProcedureStoreModel", "foreign", "(II)Z"⟩ ⟨"PartitionedProcedureStoreModel", "foreign", "(II)Z"⟩) ∈ TBL := tbS 33 rfl rfl
set_option maxRecDepth 20000 in
theorem LK_code_M_foreign : Cond.code y_M_foreign b_M_foreign 3 (some .boolean) ∈ TBL := tb3 80 rfl rfl
set_option maxRecDepth 20000 in
theorem LK_483 : (Cond.methodLink "PartitionedProcedureStoreModel" 110 ⟨"PartitionedProcedureStoreModel", "put", "(IZI)Z"⟩) ∈ TBL := tb3 81 rfl rfl
set_option maxRecDepth 20000 in
theorem LK_484 : (Cond.instanceMethod ⟨"PartitionedProcedureStoreModel", "put", "(IZI)Z"⟩) ∈ TBL := tb3 83 rfl rfl
set_option maxRecDepth 20000 in
theorem LK_485 : (Cond.selects "PartitionedProcedureStoreModel" ⟨"PartitionedProcedureStoreModel", "put", "(IZI)Z"⟩ ⟨"PartitionedProcedureStoreModel", "put", "(IZI)Z"⟩) ∈ TBL := tbS 34 rfl rfl
set_option maxRecDepth 20000 in
theorem LK_code_M_put : Cond.code y_M_put b_M_put 4 (some .boolean) ∈ TBL := tb3 84 rfl rfl
set_option maxRecDepth 20000 in
theorem LK_487 : (Cond.methodLink "PartitionedProcedureStoreModel" 114 ⟨"PartitionedProcedureStoreModel", "statement", "(II)Z"⟩) ∈ TBL := tb3 73 rfl rfl
set_option maxRecDepth 20000 in
theorem LK_488 : (Cond.instanceMethod ⟨"PartitionedProcedureStoreModel", "statement", "(II)Z"⟩) ∈ TBL := tb3 75 rfl rfl
set_option maxRecDepth 20000 in
theorem LK_489 : (Cond.selects "PartitionedProcedureStoreModel" ⟨"PartitionedProcedureStoreModel", "statement", "(II)Z"⟩ ⟨"PartitionedProcedureStoreModel", "statement", "(II)Z"⟩) ∈ TBL := tbS 32 rfl rfl
set_option maxRecDepth 20000 in
theorem LK_code_M_statement : Cond.code y_M_statement b_M_statement 5 (some .boolean) ∈ TBL := tb3 76 rfl rfl
set_option maxRecDepth 20000 in
theorem LK_491 : (Cond.methodLink "PartitionedProcedureStoreModel" 123 ⟨"PartitionedProcedureStoreModel", "execute", "(I)V"⟩) ∈ TBL := tb3 69 rfl rfl
set_option maxRecDepth 20000 in
theorem LK_492 : (Cond.instanceMethod ⟨"PartitionedProcedureStoreModel", "execute", "(I)V"⟩) ∈ TBL := tb3 71 rfl rfl
set_option maxRecDepth 20000 in
theorem LK_493 : (Cond.selects "PartitionedProcedureStoreModel" ⟨"PartitionedProcedureStoreModel", "execute", "(I)V"⟩ ⟨"PartitionedProcedureStoreModel", "execute", "(I)V"⟩) ∈ TBL := tbS 31 rfl rfl
set_option maxRecDepth 20000 in
theorem LK_code_M_execute : Cond.code y_M_execute b_M_execute 5 none ∈ TBL := tb3 72 rfl rfl
set_option maxRecDepth 20000 in
theorem LK_495 : (Cond.fieldLink "PartitionedProcedureStoreModel" 117 "PartitionedProcedureStoreModel" "durable" "I") ∈ TBL := tb2 180 rfl rfl
set_option maxRecDepth 20000 in
theorem LK_496 : (Cond.methodLink "PartitionedProcedureStoreModel" 136 ⟨"PartitionedProcedureStoreModel", "tellClients", "()V"⟩) ∈ TBL := tb3 85 rfl rfl
set_option maxRecDepth 20000 in
theorem LK_497 : (Cond.instanceMethod ⟨"PartitionedProcedureStoreModel", "tellClients", "()V"⟩) ∈ TBL := tb3 87 rfl rfl
set_option maxRecDepth 20000 in
theorem LK_498 : (Cond.selects "PartitionedProcedureStoreModel" ⟨"PartitionedProcedureStoreModel", "tellClients", "()V"⟩ ⟨"PartitionedProcedureStoreModel", "tellClients", "()V"⟩) ∈ TBL := tbS 35 rfl rfl
set_option maxRecDepth 20000 in
theorem LK_code_M_tellClients : Cond.code y_M_tellClients b_M_tellClients 4 none ∈ TBL := tb3 88 rfl rfl
set_option maxRecDepth 20000 in
theorem LK_500 : (Cond.fieldLink "PartitionedProcedureStoreModel" 127 "PartitionedProcedureStoreModel" "underWay" "I") ∈ TBL := tb2 182 rfl rfl
set_option maxRecDepth 20000 in
theorem LK_501 : (Cond.methodLink "PartitionedProcedureStoreModel" 130 ⟨"PartitionedProcedureStoreModel", "replay", "(I)V"⟩) ∈ TBL := tb3 65 rfl rfl
set_option maxRecDepth 20000 in
theorem LK_502 : (Cond.instanceMethod ⟨"PartitionedProcedureStoreModel", "replay", "(I)V"⟩) ∈ TBL := tb3 67 rfl rfl
set_option maxRecDepth 20000 in
theorem LK_503 : (Cond.selects "PartitionedProcedureStoreModel" ⟨"PartitionedProcedureStoreModel", "replay", "(I)V"⟩ ⟨"PartitionedProcedureStoreModel", "replay", "(I)V"⟩) ∈ TBL := tbS 30 rfl rfl
set_option maxRecDepth 20000 in
theorem LK_code_M_replay : Cond.code y_M_replay b_M_replay 3 none ∈ TBL := tb3 68 rfl rfl
set_option maxRecDepth 20000 in
theorem LK_505 : (Cond.methodLink "PartitionedProcedureStoreModel" 152 ⟨"PartitionedProcedureStoreModel", "completeIfDone", "()V"⟩) ∈ TBL := tb3 61 rfl rfl
set_option maxRecDepth 20000 in
theorem LK_506 : (Cond.instanceMethod ⟨"PartitionedProcedureStoreModel", "completeIfDone", "()V"⟩) ∈ TBL := tb3 63 rfl rfl
set_option maxRecDepth 20000 in
theorem LK_507 : (Cond.selects "PartitionedProcedureStoreModel" ⟨"PartitionedProcedureStoreModel", "completeIfDone", "()V"⟩ ⟨"PartitionedProcedureStoreModel", "completeIfDone", "()V"⟩) ∈ TBL := tbS 29 rfl rfl
set_option maxRecDepth 20000 in
theorem LK_code_M_completeIfDone : Cond.code y_M_completeIfDone b_M_completeIfDone 2 none ∈ TBL := tb3 64 rfl rfl
set_option maxRecDepth 20000 in
theorem LK_509 : (Cond.methodLink "PartitionedProcedureStoreModel" 149 ⟨"PartitionedProcedureStoreModel", "rowsOf", "(I)I"⟩) ∈ TBL := tb3 57 rfl rfl
set_option maxRecDepth 20000 in
theorem LK_510 : (Cond.instanceMethod ⟨"PartitionedProcedureStoreModel", "rowsOf", "(I)I"⟩) ∈ TBL := tb3 59 rfl rfl
set_option maxRecDepth 20000 in
theorem LK_511 : (Cond.selects "PartitionedProcedureStoreModel" ⟨"PartitionedProcedureStoreModel", "rowsOf", "(I)I"⟩ ⟨"PartitionedProcedureStoreModel", "rowsOf", "(I)I"⟩) ∈ TBL := tbS 28 rfl rfl
set_option maxRecDepth 20000 in
theorem LK_code_M_rowsOf : Cond.code y_M_rowsOf b_M_rowsOf 4 (some .int) ∈ TBL := tb3 60 rfl rfl
set_option maxRecDepth 20000 in
theorem LK_513 : (Cond.methodLink "PartitionedProcedureStoreModel" 146 ⟨"PartitionedProcedureStoreModel", "waits", "(II)Z"⟩) ∈ TBL := tb3 49 rfl rfl
set_option maxRecDepth 20000 in
theorem LK_514 : (Cond.instanceMethod ⟨"PartitionedProcedureStoreModel", "waits", "(II)Z"⟩) ∈ TBL := tb3 51 rfl rfl
set_option maxRecDepth 20000 in
theorem LK_515 : (Cond.selects "PartitionedProcedureStoreModel" ⟨"PartitionedProcedureStoreModel", "waits", "(II)Z"⟩ ⟨"PartitionedProcedureStoreModel", "waits", "(II)Z"⟩) ∈ TBL := tbS 26 rfl rfl
set_option maxRecDepth 20000 in
theorem LK_code_M_waits : Cond.code y_M_waits b_M_waits 3 (some .boolean) ∈ TBL := tb3 52 rfl rfl
set_option maxRecDepth 20000 in
theorem LK_517 : (Cond.constantLong "PartitionedProcedureStoreModel" 155 (1000000000000 : Int64)) ∈ TBL := tb3 113 rfl rfl
set_option maxRecDepth 20000 in
theorem LK_518 : (Cond.methodLink "PartitionedProcedureStoreModel" 157 ⟨"PartitionedProcedureStoreModel", "stalledAt", "()I"⟩) ∈ TBL := tb3 134 rfl rfl
set_option maxRecDepth 20000 in
theorem LK_519 : (Cond.instanceMethod ⟨"PartitionedProcedureStoreModel", "stalledAt", "()I"⟩) ∈ TBL := tb3 136 rfl rfl
set_option maxRecDepth 20000 in
theorem LK_520 : (Cond.selects "PartitionedProcedureStoreModel" ⟨"PartitionedProcedureStoreModel", "stalledAt", "()I"⟩ ⟨"PartitionedProcedureStoreModel", "stalledAt", "()I"⟩) ∈ TBL := tbS 36 rfl rfl
set_option maxRecDepth 20000 in
theorem LK_code_M_stalledAt : Cond.code y_M_stalledAt b_M_stalledAt 2 (some .int) ∈ TBL := tb3 137 rfl rfl
end
section
theorem d_Ac_init_0 : decode b_Ac_init 0 = .ok (.aload_n 0, 1) := by decide +kernel
theorem d_Ac_init_1 : decode b_Ac_init 1 = .ok (.invokespecial 1, 3) := by decide +kernel
theorem d_Ac_init_4 : decode b_Ac_init 4 = .ok (.return_, 1) := by decide +kernel
theorem d_Ab_init_0 : decode b_Ab_init 0 = .ok (.aload_n 0, 1) := by decide +kernel
theorem d_Ab_init_1 : decode b_Ab_init 1 = .ok (.invokespecial 1, 3) := by decide +kernel
theorem d_Ab_init_4 : decode b_Ab_init 4 = .ok (.aload_n 0, 1) := by decide +kernel
theorem d_Ab_init_5 : decode b_Ab_init 5 = .ok (.iconst 0, 1) := by decide +kernel
theorem d_Ab_init_6 : decode b_Ab_init 6 = .ok (.putfield 7, 3) := by decide +kernel
theorem d_Ab_init_9 : decode b_Ab_init 9 = .ok (.return_, 1) := by decide +kernel
theorem d_A_init_0 : decode b_A_init 0 = .ok (.aload_n 0, 1) := by decide +kernel
theorem d_A_init_1 : decode b_A_init 1 = .ok (.invokespecial 1, 3) := by decide +kernel
theorem d_A_init_4 : decode b_A_init 4 = .ok (.aload_n 0, 1) := by decide +kernel
theorem d_A_init_5 : decode b_A_init 5 = .ok (.getstatic 39, 3) := by decide +kernel
theorem d_A_init_8 : decode b_A_init 8 = .ok (.putfield 9, 3) := by decide +kernel
theorem d_A_init_11 : decode b_A_init 11 = .ok (.return_, 1) := by decide +kernel
theorem d_Ar_fill0_0 : decode b_Ar_fill0 0 = .ok (.iconst 0, 1) := by decide +kernel
theorem d_Ar_fill0_1 : decode b_Ar_fill0 1 = .ok (.istore_n 3, 1) := by decide +kernel
theorem d_Ar_fill0_2 : decode b_Ar_fill0 2 = .ok (.aload_n 0, 1) := by decide +kernel
theorem d_Ar_fill0_3 : decode b_Ar_fill0 3 = .ok (.arraylength, 1) := by decide +kernel
theorem d_Ar_fill0_4 : decode b_Ar_fill0 4 = .ok (.istore 4, 2) := by decide +kernel
theorem d_Ar_fill0_6 : decode b_Ar_fill0 6 = .ok (.iload_n 3, 1) := by decide +kernel
theorem d_Ar_fill0_7 : decode b_Ar_fill0 7 = .ok (.iload 4, 2) := by decide +kernel
theorem d_Ar_fill0_9 : decode b_Ar_fill0 9 = .ok (.if_icmp .ge 13, 3) := by decide +kernel
theorem d_Ar_fill0_12 : decode b_Ar_fill0 12 = .ok (.aload_n 0, 1) := by decide +kernel
theorem d_Ar_fill0_13 : decode b_Ar_fill0 13 = .ok (.iload_n 3, 1) := by decide +kernel
theorem d_Ar_fill0_14 : decode b_Ar_fill0 14 = .ok (.lload_n 1, 1) := by decide +kernel
theorem d_Ar_fill0_15 : decode b_Ar_fill0 15 = .ok (.lastore, 1) := by decide +kernel
theorem d_Ar_fill0_16 : decode b_Ar_fill0 16 = .ok (.iinc 3 1, 3) := by decide +kernel
theorem d_Ar_fill0_19 : decode b_Ar_fill0 19 = .ok (.goto (-13), 3) := by decide +kernel
theorem d_Ar_fill0_22 : decode b_Ar_fill0 22 = .ok (.return_, 1) := by decide +kernel
theorem d_B_init_0 : decode b_B_init 0 = .ok (.aload_n 0, 1) := by decide +kernel
theorem d_B_init_1 : decode b_B_init 1 = .ok (.invokespecial 3, 3) := by decide +kernel
theorem d_B_init_4 : decode b_B_init 4 = .ok (.aload_n 0, 1) := by decide +kernel
theorem d_B_init_5 : decode b_B_init 5 = .ok (.bipush 32, 2) := by decide +kernel
theorem d_B_init_7 : decode b_B_init 7 = .ok (.newarray .long, 2) := by decide +kernel
theorem d_B_init_9 : decode b_B_init 9 = .ok (.putfield 9, 3) := by decide +kernel
theorem d_B_init_12 : decode b_B_init 12 = .ok (.aload_n 0, 1) := by decide +kernel
theorem d_B_init_13 : decode b_B_init 13 = .ok (.bipush 8, 2) := by decide +kernel
theorem d_B_init_15 : decode b_B_init 15 = .ok (.newarray .int, 2) := by decide +kernel
theorem d_B_init_17 : decode b_B_init 17 = .ok (.putfield 15, 3) := by decide +kernel
theorem d_B_init_20 : decode b_B_init 20 = .ok (.aload_n 0, 1) := by decide +kernel
theorem d_B_init_21 : decode b_B_init 21 = .ok (.getfield 9, 3) := by decide +kernel
theorem d_B_init_24 : decode b_B_init 24 = .ok (.ldc2_w 19, 3) := by decide +kernel
theorem d_B_init_27 : decode b_B_init 27 = .ok (.invokestatic 21, 3) := by decide +kernel
theorem d_B_init_30 : decode b_B_init 30 = .ok (.return_, 1) := by decide +kernel
theorem d_Ma_min_0 : decode b_Ma_min 0 = .ok (.iload_n 0, 1) := by decide +kernel
theorem d_Ma_min_1 : decode b_Ma_min 1 = .ok (.iload_n 1, 1) := by decide +kernel
theorem d_Ma_min_2 : decode b_Ma_min 2 = .ok (.if_icmp .gt 7, 3) := by decide +kernel
theorem d_Ma_min_5 : decode b_Ma_min 5 = .ok (.iload_n 0, 1) := by decide +kernel
theorem d_Ma_min_6 : decode b_Ma_min 6 = .ok (.goto 4, 3) := by decide +kernel
theorem d_Ma_min_9 : decode b_Ma_min 9 = .ok (.iload_n 1, 1) := by decide +kernel
theorem d_Ma_min_10 : decode b_Ma_min 10 = .ok (.ireturn, 1) := by decide +kernel
theorem d_Ma_max_0 : decode b_Ma_max 0 = .ok (.iload_n 0, 1) := by decide +kernel
theorem d_Ma_max_1 : decode b_Ma_max 1 = .ok (.iload_n 1, 1) := by decide +kernel
theorem d_Ma_max_2 : decode b_Ma_max 2 = .ok (.if_icmp .lt 7, 3) := by decide +kernel
theorem d_Ma_max_5 : decode b_Ma_max 5 = .ok (.iload_n 0, 1) := by decide +kernel
theorem d_Ma_max_6 : decode b_Ma_max 6 = .ok (.goto 4, 3) := by decide +kernel
theorem d_Ma_max_9 : decode b_Ma_max 9 = .ok (.iload_n 1, 1) := by decide +kernel
theorem d_Ma_max_10 : decode b_Ma_max 10 = .ok (.ireturn, 1) := by decide +kernel
theorem d_R_init_0 : decode b_R_init 0 = .ok (.aload_n 0, 1) := by decide +kernel
theorem d_R_init_1 : decode b_R_init 1 = .ok (.invokespecial 3, 3) := by decide +kernel
theorem d_R_init_4 : decode b_R_init 4 = .ok (.aload_n 0, 1) := by decide +kernel
theorem d_R_init_5 : decode b_R_init 5 = .ok (.new 9, 3) := by decide +kernel
theorem d_R_init_8 : decode b_R_init 8 = .ok (.dup, 1) := by decide +kernel
theorem d_R_init_9 : decode b_R_init 9 = .ok (.invokespecial 11, 3) := by decide +kernel
theorem d_R_init_12 : decode b_R_init 12 = .ok (.putfield 12, 3) := by decide +kernel
theorem d_R_init_15 : decode b_R_init 15 = .ok (.aload_n 0, 1) := by decide +kernel
theorem d_R_init_16 : decode b_R_init 16 = .ok (.new 9, 3) := by decide +kernel
theorem d_R_init_19 : decode b_R_init 19 = .ok (.dup, 1) := by decide +kernel
theorem d_R_init_20 : decode b_R_init 20 = .ok (.invokespecial 11, 3) := by decide +kernel
theorem d_R_init_23 : decode b_R_init 23 = .ok (.putfield 18, 3) := by decide +kernel
theorem d_R_init_26 : decode b_R_init 26 = .ok (.aload_n 0, 1) := by decide +kernel
theorem d_R_init_27 : decode b_R_init 27 = .ok (.bipush 6, 2) := by decide +kernel
theorem d_R_init_29 : decode b_R_init 29 = .ok (.newarray .int, 2) := by decide +kernel
theorem d_R_init_31 : decode b_R_init 31 = .ok (.putfield 21, 3) := by decide +kernel
theorem d_R_init_34 : decode b_R_init 34 = .ok (.aload_n 0, 1) := by decide +kernel
theorem d_R_init_35 : decode b_R_init 35 = .ok (.iconst (-1), 1) := by decide +kernel
theorem d_R_init_36 : decode b_R_init 36 = .ok (.putfield 25, 3) := by decide +kernel
theorem d_R_init_39 : decode b_R_init 39 = .ok (.aload_n 0, 1) := by decide +kernel
theorem d_R_init_40 : decode b_R_init 40 = .ok (.iconst 4, 1) := by decide +kernel
theorem d_R_init_41 : decode b_R_init 41 = .ok (.newarray .int, 2) := by decide +kernel
theorem d_R_init_43 : decode b_R_init 43 = .ok (.putfield 29, 3) := by decide +kernel
theorem d_R_init_46 : decode b_R_init 46 = .ok (.aload_n 0, 1) := by decide +kernel
theorem d_R_init_47 : decode b_R_init 47 = .ok (.iconst 0, 1) := by decide +kernel
theorem d_R_init_48 : decode b_R_init 48 = .ok (.putfield 32, 3) := by decide +kernel
theorem d_R_init_51 : decode b_R_init 51 = .ok (.aload_n 0, 1) := by decide +kernel
theorem d_R_init_52 : decode b_R_init 52 = .ok (.iconst 0, 1) := by decide +kernel
theorem d_R_init_53 : decode b_R_init 53 = .ok (.putfield 35, 3) := by decide +kernel
theorem d_R_init_56 : decode b_R_init 56 = .ok (.aload_n 0, 1) := by decide +kernel
theorem d_R_init_57 : decode b_R_init 57 = .ok (.iload_n 1, 1) := by decide +kernel
theorem d_R_init_58 : decode b_R_init 58 = .ok (.putfield 38, 3) := by decide +kernel
theorem d_R_init_61 : decode b_R_init 61 = .ok (.return_, 1) := by decide +kernel
theorem d_P_init_0 : decode b_P_init 0 = .ok (.aload_n 0, 1) := by decide +kernel
theorem d_P_init_1 : decode b_P_init 1 = .ok (.invokespecial 3, 3) := by decide +kernel
theorem d_P_init_4 : decode b_P_init 4 = .ok (.aload_n 0, 1) := by decide +kernel
theorem d_P_init_5 : decode b_P_init 5 = .ok (.new 9, 3) := by decide +kernel
theorem d_P_init_8 : decode b_P_init 8 = .ok (.dup, 1) := by decide +kernel
theorem d_P_init_9 : decode b_P_init 9 = .ok (.invokespecial 11, 3) := by decide +kernel
theorem d_P_init_12 : decode b_P_init 12 = .ok (.putfield 12, 3) := by decide +kernel
theorem d_P_init_15 : decode b_P_init 15 = .ok (.aload_n 0, 1) := by decide +kernel
theorem d_P_init_16 : decode b_P_init 16 = .ok (.iconst 0, 1) := by decide +kernel
theorem d_P_init_17 : decode b_P_init 17 = .ok (.putfield 18, 3) := by decide +kernel
theorem d_P_init_20 : decode b_P_init 20 = .ok (.aload_n 0, 1) := by decide +kernel
theorem d_P_init_21 : decode b_P_init 21 = .ok (.iconst 0, 1) := by decide +kernel
theorem d_P_init_22 : decode b_P_init 22 = .ok (.putfield 22, 3) := by decide +kernel
theorem d_P_init_25 : decode b_P_init 25 = .ok (.return_, 1) := by decide +kernel
theorem d_C_init_0 : decode b_C_init 0 = .ok (.aload_n 0, 1) := by decide +kernel
theorem d_C_init_1 : decode b_C_init 1 = .ok (.invokespecial 3, 3) := by decide +kernel
theorem d_C_init_4 : decode b_C_init 4 = .ok (.aload_n 0, 1) := by decide +kernel
theorem d_C_init_5 : decode b_C_init 5 = .ok (.iconst 0, 1) := by decide +kernel
theorem d_C_init_6 : decode b_C_init 6 = .ok (.putfield 9, 3) := by decide +kernel
theorem d_C_init_9 : decode b_C_init 9 = .ok (.aload_n 0, 1) := by decide +kernel
theorem d_C_init_10 : decode b_C_init 10 = .ok (.iconst 0, 1) := by decide +kernel
theorem d_C_init_11 : decode b_C_init 11 = .ok (.putfield 15, 3) := by decide +kernel
theorem d_C_init_14 : decode b_C_init 14 = .ok (.aload_n 0, 1) := by decide +kernel
theorem d_C_init_15 : decode b_C_init 15 = .ok (.iconst 0, 1) := by decide +kernel
theorem d_C_init_16 : decode b_C_init 16 = .ok (.putfield 18, 3) := by decide +kernel
theorem d_C_init_19 : decode b_C_init 19 = .ok (.aload_n 0, 1) := by decide +kernel
theorem d_C_init_20 : decode b_C_init 20 = .ok (.iconst 0, 1) := by decide +kernel
theorem d_C_init_21 : decode b_C_init 21 = .ok (.putfield 22, 3) := by decide +kernel
theorem d_C_init_24 : decode b_C_init 24 = .ok (.aload_n 0, 1) := by decide +kernel
theorem d_C_init_25 : decode b_C_init 25 = .ok (.iconst 0, 1) := by decide +kernel
theorem d_C_init_26 : decode b_C_init 26 = .ok (.putfield 25, 3) := by decide +kernel
theorem d_C_init_29 : decode b_C_init 29 = .ok (.aload_n 0, 1) := by decide +kernel
theorem d_C_init_30 : decode b_C_init 30 = .ok (.iconst 0, 1) := by decide +kernel
theorem d_C_init_31 : decode b_C_init 31 = .ok (.putfield 28, 3) := by decide +kernel
theorem d_C_init_34 : decode b_C_init 34 = .ok (.aload_n 0, 1) := by decide +kernel
theorem d_C_init_35 : decode b_C_init 35 = .ok (.iconst 4, 1) := by decide +kernel
theorem d_C_init_36 : decode b_C_init 36 = .ok (.newarray .int, 2) := by decide +kernel
theorem d_C_init_38 : decode b_C_init 38 = .ok (.putfield 31, 3) := by decide +kernel
theorem d_C_init_41 : decode b_C_init 41 = .ok (.return_, 1) := by decide +kernel
theorem d_Q_init_0 : decode b_Q_init 0 = .ok (.aload_n 0, 1) := by decide +kernel
theorem d_Q_init_1 : decode b_Q_init 1 = .ok (.invokespecial 1, 3) := by decide +kernel
theorem d_Q_init_4 : decode b_Q_init 4 = .ok (.aload_n 0, 1) := by decide +kernel
theorem d_Q_init_5 : decode b_Q_init 5 = .ok (.new 7, 3) := by decide +kernel
theorem d_Q_init_8 : decode b_Q_init 8 = .ok (.dup, 1) := by decide +kernel
theorem d_Q_init_9 : decode b_Q_init 9 = .ok (.invokespecial 9, 3) := by decide +kernel
theorem d_Q_init_12 : decode b_Q_init 12 = .ok (.putfield 10, 3) := by decide +kernel
theorem d_Q_init_15 : decode b_Q_init 15 = .ok (.aload_n 0, 1) := by decide +kernel
theorem d_Q_init_16 : decode b_Q_init 16 = .ok (.iconst 0, 1) := by decide +kernel
theorem d_Q_init_17 : decode b_Q_init 17 = .ok (.putfield 16, 3) := by decide +kernel
theorem d_Q_init_20 : decode b_Q_init 20 = .ok (.aload_n 0, 1) := by decide +kernel
theorem d_Q_init_21 : decode b_Q_init 21 = .ok (.iconst 0, 1) := by decide +kernel
theorem d_Q_init_22 : decode b_Q_init 22 = .ok (.putfield 20, 3) := by decide +kernel
theorem d_Q_init_25 : decode b_Q_init 25 = .ok (.aload_n 0, 1) := by decide +kernel
theorem d_Q_init_26 : decode b_Q_init 26 = .ok (.iconst 0, 1) := by decide +kernel
theorem d_Q_init_27 : decode b_Q_init 27 = .ok (.putfield 23, 3) := by decide +kernel
theorem d_Q_init_30 : decode b_Q_init 30 = .ok (.return_, 1) := by decide +kernel
theorem d_S_init_0 : decode b_S_init 0 = .ok (.aload_n 0, 1) := by decide +kernel
theorem d_S_init_1 : decode b_S_init 1 = .ok (.invokespecial 1, 3) := by decide +kernel
theorem d_S_init_4 : decode b_S_init 4 = .ok (.aload_n 0, 1) := by decide +kernel
theorem d_S_init_5 : decode b_S_init 5 = .ok (.bipush 6, 2) := by decide +kernel
theorem d_S_init_7 : decode b_S_init 7 = .ok (.anewarray 9, 3) := by decide +kernel
theorem d_S_init_10 : decode b_S_init 10 = .ok (.putfield 11, 3) := by decide +kernel
theorem d_S_init_13 : decode b_S_init 13 = .ok (.aload_n 0, 1) := by decide +kernel
theorem d_S_init_14 : decode b_S_init 14 = .ok (.aconst_null, 1) := by decide +kernel
theorem d_S_init_15 : decode b_S_init 15 = .ok (.putfield 15, 3) := by decide +kernel
theorem d_S_init_18 : decode b_S_init 18 = .ok (.aload_n 0, 1) := by decide +kernel
theorem d_S_init_19 : decode b_S_init 19 = .ok (.iconst 4, 1) := by decide +kernel
theorem d_S_init_20 : decode b_S_init 20 = .ok (.anewarray 19, 3) := by decide +kernel
theorem d_S_init_23 : decode b_S_init 23 = .ok (.putfield 21, 3) := by decide +kernel
theorem d_S_init_26 : decode b_S_init 26 = .ok (.aload_n 0, 1) := by decide +kernel
theorem d_S_init_27 : decode b_S_init 27 = .ok (.new 25, 3) := by decide +kernel
theorem d_S_init_30 : decode b_S_init 30 = .ok (.dup, 1) := by decide +kernel
theorem d_S_init_31 : decode b_S_init 31 = .ok (.invokespecial 27, 3) := by decide +kernel
theorem d_S_init_34 : decode b_S_init 34 = .ok (.putfield 28, 3) := by decide +kernel
theorem d_S_init_37 : decode b_S_init 37 = .ok (.aload_n 0, 1) := by decide +kernel
theorem d_S_init_38 : decode b_S_init 38 = .ok (.new 32, 3) := by decide +kernel
theorem d_S_init_41 : decode b_S_init 41 = .ok (.dup, 1) := by decide +kernel
theorem d_S_init_42 : decode b_S_init 42 = .ok (.invokespecial 34, 3) := by decide +kernel
theorem d_S_init_45 : decode b_S_init 45 = .ok (.putfield 35, 3) := by decide +kernel
theorem d_S_init_48 : decode b_S_init 48 = .ok (.aload_n 0, 1) := by decide +kernel
theorem d_S_init_49 : decode b_S_init 49 = .ok (.iconst 0, 1) := by decide +kernel
theorem d_S_init_50 : decode b_S_init 50 = .ok (.putfield 39, 3) := by decide +kernel
theorem d_S_init_53 : decode b_S_init 53 = .ok (.aload_n 0, 1) := by decide +kernel
theorem d_S_init_54 : decode b_S_init 54 = .ok (.new 32, 3) := by decide +kernel
theorem d_S_init_57 : decode b_S_init 57 = .ok (.dup, 1) := by decide +kernel
theorem d_S_init_58 : decode b_S_init 58 = .ok (.invokespecial 34, 3) := by decide +kernel
theorem d_S_init_61 : decode b_S_init 61 = .ok (.putfield 43, 3) := by decide +kernel
theorem d_S_init_64 : decode b_S_init 64 = .ok (.aload_n 0, 1) := by decide +kernel
theorem d_S_init_65 : decode b_S_init 65 = .ok (.iconst 0, 1) := by decide +kernel
theorem d_S_init_66 : decode b_S_init 66 = .ok (.putfield 46, 3) := by decide +kernel
theorem d_S_init_69 : decode b_S_init 69 = .ok (.aload_n 0, 1) := by decide +kernel
theorem d_S_init_70 : decode b_S_init 70 = .ok (.iconst 0, 1) := by decide +kernel
theorem d_S_init_71 : decode b_S_init 71 = .ok (.putfield 49, 3) := by decide +kernel
theorem d_S_init_74 : decode b_S_init 74 = .ok (.aload_n 0, 1) := by decide +kernel
theorem d_S_init_75 : decode b_S_init 75 = .ok (.iconst 0, 1) := by decide +kernel
theorem d_S_init_76 : decode b_S_init 76 = .ok (.putfield 52, 3) := by decide +kernel
theorem d_S_init_79 : decode b_S_init 79 = .ok (.aload_n 0, 1) := by decide +kernel
theorem d_S_init_80 : decode b_S_init 80 = .ok (.iconst 1, 1) := by decide +kernel
theorem d_S_init_81 : decode b_S_init 81 = .ok (.iconst 4, 1) := by decide +kernel
theorem d_S_init_82 : decode b_S_init 82 = .ok (.iload_n 1, 1) := by decide +kernel
theorem d_S_init_83 : decode b_S_init 83 = .ok (.invokestatic 55, 3) := by decide +kernel
theorem d_S_init_86 : decode b_S_init 86 = .ok (.invokestatic 61, 3) := by decide +kernel
theorem d_S_init_89 : decode b_S_init 89 = .ok (.putfield 64, 3) := by decide +kernel
theorem d_S_init_92 : decode b_S_init 92 = .ok (.aload_n 0, 1) := by decide +kernel
theorem d_S_init_93 : decode b_S_init 93 = .ok (.new 67, 3) := by decide +kernel
theorem d_S_init_96 : decode b_S_init 96 = .ok (.dup, 1) := by decide +kernel
theorem d_S_init_97 : decode b_S_init 97 = .ok (.aload_n 0, 1) := by decide +kernel
theorem d_S_init_98 : decode b_S_init 98 = .ok (.getfield 64, 3) := by decide +kernel
theorem d_S_init_101 : decode b_S_init 101 = .ok (.invokespecial 69, 3) := by decide +kernel
theorem d_S_init_104 : decode b_S_init 104 = .ok (.putfield 72, 3) := by decide +kernel
theorem d_S_init_107 : decode b_S_init 107 = .ok (.iconst 0, 1) := by decide +kernel
theorem d_S_init_108 : decode b_S_init 108 = .ok (.istore_n 2, 1) := by decide +kernel
theorem d_S_init_109 : decode b_S_init 109 = .ok (.iload_n 2, 1) := by decide +kernel
theorem d_S_init_110 : decode b_S_init 110 = .ok (.bipush 6, 2) := by decide +kernel
theorem d_S_init_112 : decode b_S_init 112 = .ok (.if_icmp .ge 22, 3) := by decide +kernel
theorem d_S_init_115 : decode b_S_init 115 = .ok (.aload_n 0, 1) := by decide +kernel
theorem d_S_init_116 : decode b_S_init 116 = .ok (.getfield 11, 3) := by decide +kernel
theorem d_S_init_119 : decode b_S_init 119 = .ok (.iload_n 2, 1) := by decide +kernel
theorem d_S_init_120 : decode b_S_init 120 = .ok (.new 9, 3) := by decide +kernel
theorem d_S_init_123 : decode b_S_init 123 = .ok (.dup, 1) := by decide +kernel
theorem d_S_init_124 : decode b_S_init 124 = .ok (.invokespecial 76, 3) := by decide +kernel
theorem d_S_init_127 : decode b_S_init 127 = .ok (.aastore, 1) := by decide +kernel
theorem d_S_init_128 : decode b_S_init 128 = .ok (.iinc 2 1, 3) := by decide +kernel
theorem d_S_init_131 : decode b_S_init 131 = .ok (.goto (-22), 3) := by decide +kernel
theorem d_S_init_134 : decode b_S_init 134 = .ok (.iconst 0, 1) := by decide +kernel
theorem d_S_init_135 : decode b_S_init 135 = .ok (.istore_n 2, 1) := by decide +kernel
theorem d_S_init_136 : decode b_S_init 136 = .ok (.iload_n 2, 1) := by decide +kernel
theorem d_S_init_137 : decode b_S_init 137 = .ok (.iconst 4, 1) := by decide +kernel
theorem d_S_init_138 : decode b_S_init 138 = .ok (.if_icmp .ge 22, 3) := by decide +kernel
theorem d_S_init_141 : decode b_S_init 141 = .ok (.aload_n 0, 1) := by decide +kernel
theorem d_S_init_142 : decode b_S_init 142 = .ok (.getfield 21, 3) := by decide +kernel
theorem d_S_init_145 : decode b_S_init 145 = .ok (.iload_n 2, 1) := by decide +kernel
theorem d_S_init_146 : decode b_S_init 146 = .ok (.new 19, 3) := by decide +kernel
theorem d_S_init_149 : decode b_S_init 149 = .ok (.dup, 1) := by decide +kernel
theorem d_S_init_150 : decode b_S_init 150 = .ok (.invokespecial 77, 3) := by decide +kernel
theorem d_S_init_153 : decode b_S_init 153 = .ok (.aastore, 1) := by decide +kernel
theorem d_S_init_154 : decode b_S_init 154 = .ok (.iinc 2 1, 3) := by decide +kernel
theorem d_S_init_157 : decode b_S_init 157 = .ok (.goto (-21), 3) := by decide +kernel
theorem d_S_init_160 : decode b_S_init 160 = .ok (.aload_n 0, 1) := by decide +kernel
theorem d_S_init_161 : decode b_S_init 161 = .ok (.aload_n 0, 1) := by decide +kernel
theorem d_S_init_162 : decode b_S_init 162 = .ok (.getfield 64, 3) := by decide +kernel
theorem d_S_init_165 : decode b_S_init 165 = .ok (.anewarray 78, 3) := by decide +kernel
theorem d_S_init_168 : decode b_S_init 168 = .ok (.putfield 80, 3) := by decide +kernel
theorem d_S_init_171 : decode b_S_init 171 = .ok (.iconst 0, 1) := by decide +kernel
theorem d_S_init_172 : decode b_S_init 172 = .ok (.istore_n 2, 1) := by decide +kernel
theorem d_S_init_173 : decode b_S_init 173 = .ok (.iload_n 2, 1) := by decide +kernel
theorem d_S_init_174 : decode b_S_init 174 = .ok (.aload_n 0, 1) := by decide +kernel
theorem d_S_init_175 : decode b_S_init 175 = .ok (.getfield 64, 3) := by decide +kernel
theorem d_S_init_178 : decode b_S_init 178 = .ok (.if_icmp .ge 22, 3) := by decide +kernel
theorem d_S_init_181 : decode b_S_init 181 = .ok (.aload_n 0, 1) := by decide +kernel
theorem d_S_init_182 : decode b_S_init 182 = .ok (.getfield 80, 3) := by decide +kernel
theorem d_S_init_185 : decode b_S_init 185 = .ok (.iload_n 2, 1) := by decide +kernel
theorem d_S_init_186 : decode b_S_init 186 = .ok (.new 78, 3) := by decide +kernel
theorem d_S_init_189 : decode b_S_init 189 = .ok (.dup, 1) := by decide +kernel
theorem d_S_init_190 : decode b_S_init 190 = .ok (.invokespecial 84, 3) := by decide +kernel
theorem d_S_init_193 : decode b_S_init 193 = .ok (.aastore, 1) := by decide +kernel
theorem d_S_init_194 : decode b_S_init 194 = .ok (.iinc 2 1, 3) := by decide +kernel
theorem d_S_init_197 : decode b_S_init 197 = .ok (.goto (-24), 3) := by decide +kernel
theorem d_S_init_200 : decode b_S_init 200 = .ok (.return_, 1) := by decide +kernel
theorem d_S_isWithin_0 : decode b_S_isWithin 0 = .ok (.iload_n 0, 1) := by decide +kernel
theorem d_S_isWithin_1 : decode b_S_isWithin 1 = .ok (.ifCond .lt 12, 3) := by decide +kernel
theorem d_S_isWithin_4 : decode b_S_isWithin 4 = .ok (.iload_n 0, 1) := by decide +kernel
theorem d_S_isWithin_5 : decode b_S_isWithin 5 = .ok (.iload_n 1, 1) := by decide +kernel
theorem d_S_isWithin_6 : decode b_S_isWithin 6 = .ok (.if_icmp .ge 7, 3) := by decide +kernel
theorem d_S_isWithin_9 : decode b_S_isWithin 9 = .ok (.iconst 1, 1) := by decide +kernel
theorem d_S_isWithin_10 : decode b_S_isWithin 10 = .ok (.goto 4, 3) := by decide +kernel
theorem d_S_isWithin_13 : decode b_S_isWithin 13 = .ok (.iconst 0, 1) := by decide +kernel
theorem d_S_isWithin_14 : decode b_S_isWithin 14 = .ok (.ireturn, 1) := by decide +kernel
theorem d_A_clear_0 : decode b_A_clear 0 = .ok (.aload_n 0, 1) := by decide +kernel
theorem d_A_clear_1 : decode b_A_clear 1 = .ok (.dup, 1) := by decide +kernel
theorem d_A_clear_2 : decode b_A_clear 2 = .ok (.getfield 63, 3) := by decide +kernel
theorem d_A_clear_5 : decode b_A_clear 5 = .ok (.iconst 1, 1) := by decide +kernel
theorem d_A_clear_6 : decode b_A_clear 6 = .ok (.iadd, 1) := by decide +kernel
theorem d_A_clear_7 : decode b_A_clear 7 = .ok (.putfield 63, 3) := by decide +kernel
theorem d_A_clear_10 : decode b_A_clear 10 = .ok (.aload_n 0, 1) := by decide +kernel
theorem d_A_clear_11 : decode b_A_clear 11 = .ok (.getfield 9, 3) := by decide +kernel
theorem d_A_clear_14 : decode b_A_clear 14 = .ok (.astore_n 1, 1) := by decide +kernel
theorem d_A_clear_15 : decode b_A_clear 15 = .ok (.aload_n 0, 1) := by decide +kernel
theorem d_A_clear_16 : decode b_A_clear 16 = .ok (.getfield 48, 3) := by decide +kernel
theorem d_A_clear_19 : decode b_A_clear 19 = .ok (.istore_n 2, 1) := by decide +kernel
theorem d_A_clear_20 : decode b_A_clear 20 = .ok (.aload_n 0, 1) := by decide +kernel
theorem d_A_clear_21 : decode b_A_clear 21 = .ok (.iconst 0, 1) := by decide +kernel
theorem d_A_clear_22 : decode b_A_clear 22 = .ok (.dup_x1, 1) := by decide +kernel
theorem d_A_clear_23 : decode b_A_clear 23 = .ok (.putfield 48, 3) := by decide +kernel
theorem d_A_clear_26 : decode b_A_clear 26 = .ok (.istore_n 3, 1) := by decide +kernel
theorem d_A_clear_27 : decode b_A_clear 27 = .ok (.iload_n 3, 1) := by decide +kernel
theorem d_A_clear_28 : decode b_A_clear 28 = .ok (.iload_n 2, 1) := by decide +kernel
theorem d_A_clear_29 : decode b_A_clear 29 = .ok (.if_icmp .ge 13, 3) := by decide +kernel
theorem d_A_clear_32 : decode b_A_clear 32 = .ok (.aload_n 1, 1) := by decide +kernel
theorem d_A_clear_33 : decode b_A_clear 33 = .ok (.iload_n 3, 1) := by decide +kernel
theorem d_A_clear_34 : decode b_A_clear 34 = .ok (.aconst_null, 1) := by decide +kernel
theorem d_A_clear_35 : decode b_A_clear 35 = .ok (.aastore, 1) := by decide +kernel
theorem d_A_clear_36 : decode b_A_clear 36 = .ok (.iinc 3 1, 3) := by decide +kernel
theorem d_A_clear_39 : decode b_A_clear 39 = .ok (.goto (-12), 3) := by decide +kernel
theorem d_A_clear_42 : decode b_A_clear 42 = .ok (.return_, 1) := by decide +kernel
theorem d_P_restart_0 : decode b_P_restart 0 = .ok (.aload_n 0, 1) := by decide +kernel
theorem d_P_restart_1 : decode b_P_restart 1 = .ok (.getfield 12, 3) := by decide +kernel
theorem d_P_restart_4 : decode b_P_restart 4 = .ok (.invokevirtual 25, 3) := by decide +kernel
theorem d_P_restart_7 : decode b_P_restart 7 = .ok (.aload_n 0, 1) := by decide +kernel
theorem d_P_restart_8 : decode b_P_restart 8 = .ok (.iload_n 1, 1) := by decide +kernel
theorem d_P_restart_9 : decode b_P_restart 9 = .ok (.putfield 18, 3) := by decide +kernel
theorem d_P_restart_12 : decode b_P_restart 12 = .ok (.return_, 1) := by decide +kernel
theorem d_S_open_0 : decode b_S_open 0 = .ok (.iload_n 1, 1) := by decide +kernel
theorem d_S_open_1 : decode b_S_open 1 = .ok (.bipush 6, 2) := by decide +kernel
theorem d_S_open_3 : decode b_S_open 3 = .ok (.invokestatic 85, 3) := by decide +kernel
theorem d_S_open_6 : decode b_S_open 6 = .ok (.ifCond .eq 15, 3) := by decide +kernel
theorem d_S_open_9 : decode b_S_open 9 = .ok (.aload_n 0, 1) := by decide +kernel
theorem d_S_open_10 : decode b_S_open 10 = .ok (.getfield 11, 3) := by decide +kernel
theorem d_S_open_13 : decode b_S_open 13 = .ok (.iload_n 1, 1) := by decide +kernel
theorem d_S_open_14 : decode b_S_open 14 = .ok (.aaload, 1) := by decide +kernel
theorem d_S_open_15 : decode b_S_open 15 = .ok (.getfield 89, 3) := by decide +kernel
theorem d_S_open_18 : decode b_S_open 18 = .ok (.ifCond .eq 5, 3) := by decide +kernel
theorem d_S_open_21 : decode b_S_open 21 = .ok (.iconst (-1), 1) := by decide +kernel
theorem d_S_open_22 : decode b_S_open 22 = .ok (.ireturn, 1) := by decide +kernel
theorem d_S_open_23 : decode b_S_open 23 = .ok (.aload_n 0, 1) := by decide +kernel
theorem d_S_open_24 : decode b_S_open 24 = .ok (.aload_n 0, 1) := by decide +kernel
theorem d_S_open_25 : decode b_S_open 25 = .ok (.getfield 11, 3) := by decide +kernel
theorem d_S_open_28 : decode b_S_open 28 = .ok (.iload_n 1, 1) := by decide +kernel
theorem d_S_open_29 : decode b_S_open 29 = .ok (.aaload, 1) := by decide +kernel
theorem d_S_open_30 : decode b_S_open 30 = .ok (.putfield 15, 3) := by decide +kernel
theorem d_S_open_33 : decode b_S_open 33 = .ok (.aload_n 0, 1) := by decide +kernel
theorem d_S_open_34 : decode b_S_open 34 = .ok (.getfield 15, 3) := by decide +kernel
theorem d_S_open_37 : decode b_S_open 37 = .ok (.iload_n 2, 1) := by decide +kernel
theorem d_S_open_38 : decode b_S_open 38 = .ok (.invokevirtual 93, 3) := by decide +kernel
theorem d_S_open_41 : decode b_S_open 41 = .ok (.iconst 0, 1) := by decide +kernel
theorem d_S_open_42 : decode b_S_open 42 = .ok (.ireturn, 1) := by decide +kernel
theorem d_S_isStatement_0 : decode b_S_isStatement 0 = .ok (.iload_n 0, 1) := by decide +kernel
theorem d_S_isStatement_1 : decode b_S_isStatement 1 = .ok (.tableswitch 149 0 10 #[92, 92, 92, 59, 116, 59, 92, 66, 92, 92, 59], 59) := by decide +kernel
theorem d_S_isStatement_60 : decode b_S_isStatement 60 = .ok (.iload_n 1, 1) := by decide +kernel
theorem d_S_isStatement_61 : decode b_S_isStatement 61 = .ok (.bipush 6, 2) := by decide +kernel
theorem d_S_isStatement_63 : decode b_S_isStatement 63 = .ok (.invokestatic 85, 3) := by decide +kernel
theorem d_S_isStatement_66 : decode b_S_isStatement 66 = .ok (.ireturn, 1) := by decide +kernel
theorem d_S_isStatement_67 : decode b_S_isStatement 67 = .ok (.iload_n 1, 1) := by decide +kernel
theorem d_S_isStatement_68 : decode b_S_isStatement 68 = .ok (.bipush 6, 2) := by decide +kernel
theorem d_S_isStatement_70 : decode b_S_isStatement 70 = .ok (.invokestatic 85, 3) := by decide +kernel
theorem d_S_isStatement_73 : decode b_S_isStatement 73 = .ok (.ifCond .eq 18, 3) := by decide +kernel
theorem d_S_isStatement_76 : decode b_S_isStatement 76 = .ok (.iload_n 2, 1) := by decide +kernel
theorem d_S_isStatement_77 : decode b_S_isStatement 77 = .ok (.iconst 1, 1) := by decide +kernel
theorem d_S_isStatement_78 : decode b_S_isStatement 78 = .ok (.if_icmp .lt 13, 3) := by decide +kernel
theorem d_S_isStatement_81 : decode b_S_isStatement 81 = .ok (.iload_n 2, 1) := by decide +kernel
theorem d_S_isStatement_82 : decode b_S_isStatement 82 = .ok (.bipush 7, 2) := by decide +kernel
theorem d_S_isStatement_84 : decode b_S_isStatement 84 = .ok (.if_icmp .gt 7, 3) := by decide +kernel
theorem d_S_isStatement_87 : decode b_S_isStatement 87 = .ok (.iconst 1, 1) := by decide +kernel
theorem d_S_isStatement_88 : decode b_S_isStatement 88 = .ok (.goto 4, 3) := by decide +kernel
theorem d_S_isStatement_91 : decode b_S_isStatement 91 = .ok (.iconst 0, 1) := by decide +kernel
theorem d_S_isStatement_92 : decode b_S_isStatement 92 = .ok (.ireturn, 1) := by decide +kernel
theorem d_S_isStatement_93 : decode b_S_isStatement 93 = .ok (.iload_n 1, 1) := by decide +kernel
theorem d_S_isStatement_94 : decode b_S_isStatement 94 = .ok (.bipush 6, 2) := by decide +kernel
theorem d_S_isStatement_96 : decode b_S_isStatement 96 = .ok (.invokestatic 85, 3) := by decide +kernel
theorem d_S_isStatement_99 : decode b_S_isStatement 99 = .ok (.ifCond .eq 16, 3) := by decide +kernel
theorem d_S_isStatement_102 : decode b_S_isStatement 102 = .ok (.iload_n 2, 1) := by decide +kernel
theorem d_S_isStatement_103 : decode b_S_isStatement 103 = .ok (.bipush 6, 2) := by decide +kernel
theorem d_S_isStatement_105 : decode b_S_isStatement 105 = .ok (.invokestatic 85, 3) := by decide +kernel
theorem d_S_isStatement_108 : decode b_S_isStatement 108 = .ok (.ifCond .eq 7, 3) := by decide +kernel
theorem d_S_isStatement_111 : decode b_S_isStatement 111 = .ok (.iconst 1, 1) := by decide +kernel
theorem d_S_isStatement_112 : decode b_S_isStatement 112 = .ok (.goto 4, 3) := by decide +kernel
theorem d_S_isStatement_115 : decode b_S_isStatement 115 = .ok (.iconst 0, 1) := by decide +kernel
theorem d_S_isStatement_116 : decode b_S_isStatement 116 = .ok (.ireturn, 1) := by decide +kernel
theorem d_S_isStatement_117 : decode b_S_isStatement 117 = .ok (.iload_n 1, 1) := by decide +kernel
theorem d_S_isStatement_118 : decode b_S_isStatement 118 = .ok (.bipush 6, 2) := by decide +kernel
theorem d_S_isStatement_120 : decode b_S_isStatement 120 = .ok (.invokestatic 85, 3) := by decide +kernel
theorem d_S_isStatement_123 : decode b_S_isStatement 123 = .ok (.ifCond .eq 25, 3) := by decide +kernel
theorem d_S_isStatement_126 : decode b_S_isStatement 126 = .ok (.iload_n 2, 1) := by decide +kernel
theorem d_S_isStatement_127 : decode b_S_isStatement 127 = .ok (.bipush 6, 2) := by decide +kernel
theorem d_S_isStatement_129 : decode b_S_isStatement 129 = .ok (.invokestatic 85, 3) := by decide +kernel
theorem d_S_isStatement_132 : decode b_S_isStatement 132 = .ok (.ifCond .eq 16, 3) := by decide +kernel
theorem d_S_isStatement_135 : decode b_S_isStatement 135 = .ok (.iload_n 3, 1) := by decide +kernel
theorem d_S_isStatement_136 : decode b_S_isStatement 136 = .ok (.bipush 6, 2) := by decide +kernel
theorem d_S_isStatement_138 : decode b_S_isStatement 138 = .ok (.invokestatic 85, 3) := by decide +kernel
theorem d_S_isStatement_141 : decode b_S_isStatement 141 = .ok (.ifCond .eq 7, 3) := by decide +kernel
theorem d_S_isStatement_144 : decode b_S_isStatement 144 = .ok (.iconst 1, 1) := by decide +kernel
theorem d_S_isStatement_145 : decode b_S_isStatement 145 = .ok (.goto 4, 3) := by decide +kernel
theorem d_S_isStatement_148 : decode b_S_isStatement 148 = .ok (.iconst 0, 1) := by decide +kernel
theorem d_S_isStatement_149 : decode b_S_isStatement 149 = .ok (.ireturn, 1) := by decide +kernel
theorem d_S_isStatement_150 : decode b_S_isStatement 150 = .ok (.iconst 0, 1) := by decide +kernel
theorem d_S_isStatement_151 : decode b_S_isStatement 151 = .ok (.ireturn, 1) := by decide +kernel
theorem d_A_size_0 : decode b_A_size 0 = .ok (.aload_n 0, 1) := by decide +kernel
theorem d_A_size_1 : decode b_A_size 1 = .ok (.getfield 48, 3) := by decide +kernel
theorem d_A_size_4 : decode b_A_size 4 = .ok (.ireturn, 1) := by decide +kernel
theorem d_T_init_0 : decode b_T_init 0 = .ok (.aload_n 0, 1) := by decide +kernel
theorem d_T_init_1 : decode b_T_init 1 = .ok (.invokespecial 1, 3) := by decide +kernel
theorem d_T_init_4 : decode b_T_init 4 = .ok (.aload_n 0, 1) := by decide +kernel
theorem d_T_init_5 : decode b_T_init 5 = .ok (.iload_n 1, 1) := by decide +kernel
theorem d_T_init_6 : decode b_T_init 6 = .ok (.putfield 7, 3) := by decide +kernel
theorem d_T_init_9 : decode b_T_init 9 = .ok (.aload_n 0, 1) := by decide +kernel
theorem d_T_init_10 : decode b_T_init 10 = .ok (.iload_n 2, 1) := by decide +kernel
theorem d_T_init_11 : decode b_T_init 11 = .ok (.putfield 13, 3) := by decide +kernel
theorem d_T_init_14 : decode b_T_init 14 = .ok (.aload_n 0, 1) := by decide +kernel
theorem d_T_init_15 : decode b_T_init 15 = .ok (.iload_n 3, 1) := by decide +kernel
theorem d_T_init_16 : decode b_T_init 16 = .ok (.putfield 16, 3) := by decide +kernel
theorem d_T_init_19 : decode b_T_init 19 = .ok (.aload_n 0, 1) := by decide +kernel
theorem d_T_init_20 : decode b_T_init 20 = .ok (.iload 4, 2) := by decide +kernel
theorem d_T_init_22 : decode b_T_init 22 = .ok (.putfield 19, 3) := by decide +kernel
theorem d_T_init_25 : decode b_T_init 25 = .ok (.return_, 1) := by decide +kernel
theorem d_As_hugeLength_0 : decode b_As_hugeLength 0 = .ok (.iload_n 0, 1) := by decide +kernel
theorem d_As_hugeLength_1 : decode b_As_hugeLength 1 = .ok (.iload_n 1, 1) := by decide +kernel
theorem d_As_hugeLength_2 : decode b_As_hugeLength 2 = .ok (.iadd, 1) := by decide +kernel
theorem d_As_hugeLength_3 : decode b_As_hugeLength 3 = .ok (.istore_n 2, 1) := by decide +kernel
theorem d_As_hugeLength_4 : decode b_As_hugeLength 4 = .ok (.iload_n 2, 1) := by decide +kernel
theorem d_As_hugeLength_5 : decode b_As_hugeLength 5 = .ok (.ifCond .ge 44, 3) := by decide +kernel
theorem d_As_hugeLength_8 : decode b_As_hugeLength 8 = .ok (.new 204, 3) := by decide +kernel
theorem d_As_hugeLength_11 : decode b_As_hugeLength 11 = .ok (.dup, 1) := by decide +kernel
theorem d_As_hugeLength_12 : decode b_As_hugeLength 12 = .ok (.new 89, 3) := by decide +kernel
theorem d_As_hugeLength_15 : decode b_As_hugeLength 15 = .ok (.dup, 1) := by decide +kernel
theorem d_As_hugeLength_16 : decode b_As_hugeLength 16 = .ok (.invokespecial 91, 3) := by decide +kernel
theorem d_As_hugeLength_19 : decode b_As_hugeLength 19 = .ok (.ldc 206, 2) := by decide +kernel
theorem d_As_hugeLength_21 : decode b_As_hugeLength 21 = .ok (.invokevirtual 94, 3) := by decide +kernel
theorem d_As_hugeLength_24 : decode b_As_hugeLength 24 = .ok (.iload_n 0, 1) := by decide +kernel
theorem d_As_hugeLength_25 : decode b_As_hugeLength 25 = .ok (.invokevirtual 98, 3) := by decide +kernel
theorem d_As_hugeLength_28 : decode b_As_hugeLength 28 = .ok (.ldc 208, 2) := by decide +kernel
theorem d_As_hugeLength_30 : decode b_As_hugeLength 30 = .ok (.invokevirtual 94, 3) := by decide +kernel
theorem d_As_hugeLength_33 : decode b_As_hugeLength 33 = .ok (.iload_n 1, 1) := by decide +kernel
theorem d_As_hugeLength_34 : decode b_As_hugeLength 34 = .ok (.invokevirtual 98, 3) := by decide +kernel
theorem d_As_hugeLength_37 : decode b_As_hugeLength 37 = .ok (.ldc 210, 2) := by decide +kernel
theorem d_As_hugeLength_39 : decode b_As_hugeLength 39 = .ok (.invokevirtual 94, 3) := by decide +kernel
theorem d_As_hugeLength_42 : decode b_As_hugeLength 42 = .ok (.invokevirtual 101, 3) := by decide +kernel
theorem d_As_hugeLength_45 : decode b_As_hugeLength 45 = .ok (.invokespecial 212, 3) := by decide +kernel
theorem d_As_hugeLength_49 : decode b_As_hugeLength 49 = .ok (.iload_n 2, 1) := by decide +kernel
theorem d_As_hugeLength_50 : decode b_As_hugeLength 50 = .ok (.ldc 200, 2) := by decide +kernel
theorem d_As_hugeLength_52 : decode b_As_hugeLength 52 = .ok (.if_icmp .gt 6, 3) := by decide +kernel
theorem d_As_hugeLength_55 : decode b_As_hugeLength 55 = .ok (.ldc 200, 2) := by decide +kernel
theorem d_As_hugeLength_57 : decode b_As_hugeLength 57 = .ok (.ireturn, 1) := by decide +kernel
theorem d_As_hugeLength_58 : decode b_As_hugeLength 58 = .ok (.iload_n 2, 1) := by decide +kernel
theorem d_As_hugeLength_59 : decode b_As_hugeLength 59 = .ok (.ireturn, 1) := by decide +kernel
theorem d_As_newLength_0 : decode b_As_newLength 0 = .ok (.iload_n 0, 1) := by decide +kernel
theorem d_As_newLength_1 : decode b_As_newLength 1 = .ok (.iload_n 1, 1) := by decide +kernel
theorem d_As_newLength_2 : decode b_As_newLength 2 = .ok (.iload_n 2, 1) := by decide +kernel
theorem d_As_newLength_3 : decode b_As_newLength 3 = .ok (.invokestatic 194, 3) := by decide +kernel
theorem d_As_newLength_6 : decode b_As_newLength 6 = .ok (.iadd, 1) := by decide +kernel
theorem d_As_newLength_7 : decode b_As_newLength 7 = .ok (.istore_n 3, 1) := by decide +kernel
theorem d_As_newLength_8 : decode b_As_newLength 8 = .ok (.iconst 0, 1) := by decide +kernel
theorem d_As_newLength_9 : decode b_As_newLength 9 = .ok (.iload_n 3, 1) := by decide +kernel
theorem d_As_newLength_10 : decode b_As_newLength 10 = .ok (.if_icmp .ge 11, 3) := by decide +kernel
theorem d_As_newLength_13 : decode b_As_newLength 13 = .ok (.iload_n 3, 1) := by decide +kernel
theorem d_As_newLength_14 : decode b_As_newLength 14 = .ok (.ldc 200, 2) := by decide +kernel
theorem d_As_newLength_16 : decode b_As_newLength 16 = .ok (.if_icmp .gt 5, 3) := by decide +kernel
theorem d_As_newLength_19 : decode b_As_newLength 19 = .ok (.iload_n 3, 1) := by decide +kernel
theorem d_As_newLength_20 : decode b_As_newLength 20 = .ok (.ireturn, 1) := by decide +kernel
theorem d_As_newLength_21 : decode b_As_newLength 21 = .ok (.iload_n 0, 1) := by decide +kernel
theorem d_As_newLength_22 : decode b_As_newLength 22 = .ok (.iload_n 1, 1) := by decide +kernel
theorem d_As_newLength_23 : decode b_As_newLength 23 = .ok (.invokestatic 201, 3) := by decide +kernel
theorem d_As_newLength_26 : decode b_As_newLength 26 = .ok (.ireturn, 1) := by decide +kernel
theorem d_Ar_copyOf1_0 : decode b_Ar_copyOf1 0 = .ok (.aload_n 2, 1) := by decide +kernel
theorem d_Ar_copyOf1_1 : decode b_Ar_copyOf1 1 = .ok (.ldc 110, 2) := by decide +kernel
theorem d_Ar_copyOf1_3 : decode b_Ar_copyOf1 3 = .ok (.if_acmp .ne 10, 3) := by decide +kernel
theorem d_Ar_copyOf1_6 : decode b_Ar_copyOf1 6 = .ok (.iload_n 1, 1) := by decide +kernel
theorem d_Ar_copyOf1_7 : decode b_Ar_copyOf1 7 = .ok (.anewarray 2, 3) := by decide +kernel
theorem d_Ar_copyOf1_10 : decode b_Ar_copyOf1 10 = .ok (.goto 14, 3) := by decide +kernel
theorem d_Ar_copyOf1_13 : decode b_Ar_copyOf1 13 = .ok (.aload_n 2, 1) := by decide +kernel
theorem d_Ar_copyOf1_14 : decode b_Ar_copyOf1 14 = .ok (.invokevirtual 90, 3) := by decide +kernel
theorem d_Ar_copyOf1_17 : decode b_Ar_copyOf1 17 = .ok (.iload_n 1, 1) := by decide +kernel
theorem d_Ar_copyOf1_18 : decode b_Ar_copyOf1 18 = .ok (.invokestatic 95, 3) := by decide +kernel
theorem d_Ar_copyOf1_21 : decode b_Ar_copyOf1 21 = .ok (.checkcast 110, 3) := by decide +kernel
theorem d_Ar_copyOf1_24 : decode b_Ar_copyOf1 24 = .ok (.astore_n 3, 1) := by decide +kernel
theorem d_Ar_copyOf1_25 : decode b_Ar_copyOf1 25 = .ok (.aload_n 0, 1) := by decide +kernel
theorem d_Ar_copyOf1_26 : decode b_Ar_copyOf1 26 = .ok (.iconst 0, 1) := by decide +kernel
theorem d_Ar_copyOf1_27 : decode b_Ar_copyOf1 27 = .ok (.aload_n 3, 1) := by decide +kernel
theorem d_Ar_copyOf1_28 : decode b_Ar_copyOf1 28 = .ok (.iconst 0, 1) := by decide +kernel
theorem d_Ar_copyOf1_29 : decode b_Ar_copyOf1 29 = .ok (.aload_n 0, 1) := by decide +kernel
theorem d_Ar_copyOf1_30 : decode b_Ar_copyOf1 30 = .ok (.arraylength, 1) := by decide +kernel
theorem d_Ar_copyOf1_31 : decode b_Ar_copyOf1 31 = .ok (.iload_n 1, 1) := by decide +kernel
theorem d_Ar_copyOf1_32 : decode b_Ar_copyOf1 32 = .ok (.invokestatic 304, 3) := by decide +kernel
theorem d_Ar_copyOf1_35 : decode b_Ar_copyOf1 35 = .ok (.invokestatic 150, 3) := by decide +kernel
theorem d_Ar_copyOf1_38 : decode b_Ar_copyOf1 38 = .ok (.aload_n 3, 1) := by decide +kernel
theorem d_Ar_copyOf1_39 : decode b_Ar_copyOf1 39 = .ok (.areturn, 1) := by decide +kernel
theorem d_Ar_copyOf0_0 : decode b_Ar_copyOf0 0 = .ok (.aload_n 0, 1) := by decide +kernel
theorem d_Ar_copyOf0_1 : decode b_Ar_copyOf0 1 = .ok (.iload_n 1, 1) := by decide +kernel
theorem d_Ar_copyOf0_2 : decode b_Ar_copyOf0 2 = .ok (.aload_n 0, 1) := by decide +kernel
theorem d_Ar_copyOf0_3 : decode b_Ar_copyOf0 3 = .ok (.invokevirtual 86, 3) := by decide +kernel
theorem d_Ar_copyOf0_6 : decode b_Ar_copyOf0 6 = .ok (.invokestatic 300, 3) := by decide +kernel
theorem d_Ar_copyOf0_9 : decode b_Ar_copyOf0 9 = .ok (.areturn, 1) := by decide +kernel
theorem d_A_grow1_0 : decode b_A_grow1 0 = .ok (.aload_n 0, 1) := by decide +kernel
theorem d_A_grow1_1 : decode b_A_grow1 1 = .ok (.getfield 9, 3) := by decide +kernel
theorem d_A_grow1_4 : decode b_A_grow1 4 = .ok (.arraylength, 1) := by decide +kernel
theorem d_A_grow1_5 : decode b_A_grow1 5 = .ok (.istore_n 2, 1) := by decide +kernel
theorem d_A_grow1_6 : decode b_A_grow1 6 = .ok (.iload_n 2, 1) := by decide +kernel
theorem d_A_grow1_7 : decode b_A_grow1 7 = .ok (.ifCond .gt 13, 3) := by decide +kernel
theorem d_A_grow1_10 : decode b_A_grow1 10 = .ok (.aload_n 0, 1) := by decide +kernel
theorem d_A_grow1_11 : decode b_A_grow1 11 = .ok (.getfield 9, 3) := by decide +kernel
theorem d_A_grow1_14 : decode b_A_grow1 14 = .ok (.getstatic 39, 3) := by decide +kernel
theorem d_A_grow1_17 : decode b_A_grow1 17 = .ok (.if_acmp .eq 28, 3) := by decide +kernel
theorem d_A_grow1_20 : decode b_A_grow1 20 = .ok (.iload_n 2, 1) := by decide +kernel
theorem d_A_grow1_21 : decode b_A_grow1 21 = .ok (.iload_n 1, 1) := by decide +kernel
theorem d_A_grow1_22 : decode b_A_grow1 22 = .ok (.iload_n 2, 1) := by decide +kernel
theorem d_A_grow1_23 : decode b_A_grow1 23 = .ok (.isub, 1) := by decide +kernel
theorem d_A_grow1_24 : decode b_A_grow1 24 = .ok (.iload_n 2, 1) := by decide +kernel
theorem d_A_grow1_25 : decode b_A_grow1 25 = .ok (.iconst 1, 1) := by decide +kernel
theorem d_A_grow1_26 : decode b_A_grow1 26 = .ok (.ishr, 1) := by decide +kernel
theorem d_A_grow1_27 : decode b_A_grow1 27 = .ok (.invokestatic 73, 3) := by decide +kernel
theorem d_A_grow1_30 : decode b_A_grow1 30 = .ok (.istore_n 3, 1) := by decide +kernel
theorem d_A_grow1_31 : decode b_A_grow1 31 = .ok (.aload_n 0, 1) := by decide +kernel
theorem d_A_grow1_32 : decode b_A_grow1 32 = .ok (.aload_n 0, 1) := by decide +kernel
theorem d_A_grow1_33 : decode b_A_grow1 33 = .ok (.getfield 9, 3) := by decide +kernel
theorem d_A_grow1_36 : decode b_A_grow1 36 = .ok (.iload_n 3, 1) := by decide +kernel
theorem d_A_grow1_37 : decode b_A_grow1 37 = .ok (.invokestatic 66, 3) := by decide +kernel
theorem d_A_grow1_40 : decode b_A_grow1 40 = .ok (.dup_x1, 1) := by decide +kernel
theorem d_A_grow1_41 : decode b_A_grow1 41 = .ok (.putfield 9, 3) := by decide +kernel
theorem d_A_grow1_44 : decode b_A_grow1 44 = .ok (.areturn, 1) := by decide +kernel
theorem d_A_grow1_45 : decode b_A_grow1 45 = .ok (.aload_n 0, 1) := by decide +kernel
theorem d_A_grow1_46 : decode b_A_grow1 46 = .ok (.bipush 10, 2) := by decide +kernel
theorem d_A_grow1_48 : decode b_A_grow1 48 = .ok (.iload_n 1, 1) := by decide +kernel
theorem d_A_grow1_49 : decode b_A_grow1 49 = .ok (.invokestatic 79, 3) := by decide +kernel
theorem d_A_grow1_52 : decode b_A_grow1 52 = .ok (.anewarray 7, 3) := by decide +kernel
theorem d_A_grow1_55 : decode b_A_grow1 55 = .ok (.dup_x1, 1) := by decide +kernel
theorem d_A_grow1_56 : decode b_A_grow1 56 = .ok (.putfield 9, 3) := by decide +kernel
theorem d_A_grow1_59 : decode b_A_grow1 59 = .ok (.areturn, 1) := by decide +kernel
theorem d_A_grow0_0 : decode b_A_grow0 0 = .ok (.aload_n 0, 1) := by decide +kernel
theorem d_A_grow0_1 : decode b_A_grow0 1 = .ok (.aload_n 0, 1) := by decide +kernel
theorem d_A_grow0_2 : decode b_A_grow0 2 = .ok (.getfield 48, 3) := by decide +kernel
theorem d_A_grow0_5 : decode b_A_grow0 5 = .ok (.iconst 1, 1) := by decide +kernel
theorem d_A_grow0_6 : decode b_A_grow0 6 = .ok (.iadd, 1) := by decide +kernel
theorem d_A_grow0_7 : decode b_A_grow0 7 = .ok (.invokevirtual 69, 3) := by decide +kernel
theorem d_A_grow0_10 : decode b_A_grow0 10 = .ok (.areturn, 1) := by decide +kernel
theorem d_A_add1_0 : decode b_A_add1 0 = .ok (.iload_n 3, 1) := by decide +kernel
theorem d_A_add1_1 : decode b_A_add1 1 = .ok (.aload_n 2, 1) := by decide +kernel
theorem d_A_add1_2 : decode b_A_add1 2 = .ok (.arraylength, 1) := by decide +kernel
theorem d_A_add1_3 : decode b_A_add1 3 = .ok (.if_icmp .ne 8, 3) := by decide +kernel
theorem d_A_add1_6 : decode b_A_add1 6 = .ok (.aload_n 0, 1) := by decide +kernel
theorem d_A_add1_7 : decode b_A_add1 7 = .ok (.invokevirtual 129, 3) := by decide +kernel
theorem d_A_add1_10 : decode b_A_add1 10 = .ok (.astore_n 2, 1) := by decide +kernel
theorem d_A_add1_11 : decode b_A_add1 11 = .ok (.aload_n 2, 1) := by decide +kernel
theorem d_A_add1_12 : decode b_A_add1 12 = .ok (.iload_n 3, 1) := by decide +kernel
theorem d_A_add1_13 : decode b_A_add1 13 = .ok (.aload_n 1, 1) := by decide +kernel
theorem d_A_add1_14 : decode b_A_add1 14 = .ok (.aastore, 1) := by decide +kernel
theorem d_A_add1_15 : decode b_A_add1 15 = .ok (.aload_n 0, 1) := by decide +kernel
theorem d_A_add1_16 : decode b_A_add1 16 = .ok (.iload_n 3, 1) := by decide +kernel
theorem d_A_add1_17 : decode b_A_add1 17 = .ok (.iconst 1, 1) := by decide +kernel
theorem d_A_add1_18 : decode b_A_add1 18 = .ok (.iadd, 1) := by decide +kernel
theorem d_A_add1_19 : decode b_A_add1 19 = .ok (.putfield 48, 3) := by decide +kernel
theorem d_A_add1_22 : decode b_A_add1 22 = .ok (.return_, 1) := by decide +kernel
theorem d_A_add0_0 : decode b_A_add0 0 = .ok (.aload_n 0, 1) := by decide +kernel
theorem d_A_add0_1 : decode b_A_add0 1 = .ok (.dup, 1) := by decide +kernel
theorem d_A_add0_2 : decode b_A_add0 2 = .ok (.getfield 63, 3) := by decide +kernel
theorem d_A_add0_5 : decode b_A_add0 5 = .ok (.iconst 1, 1) := by decide +kernel
theorem d_A_add0_6 : decode b_A_add0 6 = .ok (.iadd, 1) := by decide +kernel
theorem d_A_add0_7 : decode b_A_add0 7 = .ok (.putfield 63, 3) := by decide +kernel
theorem d_A_add0_10 : decode b_A_add0 10 = .ok (.aload_n 0, 1) := by decide +kernel
theorem d_A_add0_11 : decode b_A_add0 11 = .ok (.aload_n 1, 1) := by decide +kernel
theorem d_A_add0_12 : decode b_A_add0 12 = .ok (.aload_n 0, 1) := by decide +kernel
theorem d_A_add0_13 : decode b_A_add0 13 = .ok (.getfield 9, 3) := by decide +kernel
theorem d_A_add0_16 : decode b_A_add0 16 = .ok (.aload_n 0, 1) := by decide +kernel
theorem d_A_add0_17 : decode b_A_add0 17 = .ok (.getfield 48, 3) := by decide +kernel
theorem d_A_add0_20 : decode b_A_add0 20 = .ok (.invokevirtual 131, 3) := by decide +kernel
theorem d_A_add0_23 : decode b_A_add0 23 = .ok (.iconst 1, 1) := by decide +kernel
theorem d_A_add0_24 : decode b_A_add0 24 = .ok (.ireturn, 1) := by decide +kernel
theorem d_S_add_0 : decode b_S_add 0 = .ok (.aload_n 0, 1) := by decide +kernel
theorem d_S_add_1 : decode b_S_add 1 = .ok (.getfield 15, 3) := by decide +kernel
theorem d_S_add_4 : decode b_S_add 4 = .ok (.ifnull 14, 3) := by decide +kernel
theorem d_S_add_7 : decode b_S_add 7 = .ok (.iload_n 1, 1) := by decide +kernel
theorem d_S_add_8 : decode b_S_add 8 = .ok (.iload_n 2, 1) := by decide +kernel
theorem d_S_add_9 : decode b_S_add 9 = .ok (.iload_n 3, 1) := by decide +kernel
theorem d_S_add_10 : decode b_S_add 10 = .ok (.iload 4, 2) := by decide +kernel
theorem d_S_add_12 : decode b_S_add 12 = .ok (.invokestatic 97, 3) := by decide +kernel
theorem d_S_add_15 : decode b_S_add 15 = .ok (.ifCond .ne 5, 3) := by decide +kernel
theorem d_S_add_18 : decode b_S_add 18 = .ok (.iconst (-1), 1) := by decide +kernel
theorem d_S_add_19 : decode b_S_add 19 = .ok (.ireturn, 1) := by decide +kernel
theorem d_S_add_20 : decode b_S_add 20 = .ok (.aload_n 0, 1) := by decide +kernel
theorem d_S_add_21 : decode b_S_add 21 = .ok (.getfield 15, 3) := by decide +kernel
theorem d_S_add_24 : decode b_S_add 24 = .ok (.getfield 101, 3) := by decide +kernel
theorem d_S_add_27 : decode b_S_add 27 = .ok (.invokevirtual 104, 3) := by decide +kernel
theorem d_S_add_30 : decode b_S_add 30 = .ok (.istore 5, 2) := by decide +kernel
theorem d_S_add_32 : decode b_S_add 32 = .ok (.iload 5, 2) := by decide +kernel
theorem d_S_add_34 : decode b_S_add 34 = .ok (.bipush 8, 2) := by decide +kernel
theorem d_S_add_36 : decode b_S_add 36 = .ok (.if_icmp .lt 6, 3) := by decide +kernel
theorem d_S_add_39 : decode b_S_add 39 = .ok (.bipush (-2), 2) := by decide +kernel
theorem d_S_add_41 : decode b_S_add 41 = .ok (.ireturn, 1) := by decide +kernel
theorem d_S_add_42 : decode b_S_add 42 = .ok (.aload_n 0, 1) := by decide +kernel
theorem d_S_add_43 : decode b_S_add 43 = .ok (.getfield 15, 3) := by decide +kernel
theorem d_S_add_46 : decode b_S_add 46 = .ok (.getfield 101, 3) := by decide +kernel
theorem d_S_add_49 : decode b_S_add 49 = .ok (.new 108, 3) := by decide +kernel
theorem d_S_add_52 : decode b_S_add 52 = .ok (.dup, 1) := by decide +kernel
theorem d_S_add_53 : decode b_S_add 53 = .ok (.iload_n 1, 1) := by decide +kernel
theorem d_S_add_54 : decode b_S_add 54 = .ok (.iload_n 2, 1) := by decide +kernel
theorem d_S_add_55 : decode b_S_add 55 = .ok (.iload_n 3, 1) := by decide +kernel
theorem d_S_add_56 : decode b_S_add 56 = .ok (.iload 4, 2) := by decide +kernel
theorem d_S_add_58 : decode b_S_add 58 = .ok (.invokespecial 110, 3) := by decide +kernel
theorem d_S_add_61 : decode b_S_add 61 = .ok (.invokevirtual 113, 3) := by decide +kernel
theorem d_S_add_64 : decode b_S_add 64 = .ok (.pop, 1) := by decide +kernel
theorem d_S_add_65 : decode b_S_add 65 = .ok (.iload 5, 2) := by decide +kernel
theorem d_S_add_67 : decode b_S_add 67 = .ok (.ireturn, 1) := by decide +kernel
theorem d_Pc_checkIndex_0 : decode b_Pc_checkIndex 0 = .ok (.iload_n 0, 1) := by decide +kernel
theorem d_Pc_checkIndex_1 : decode b_Pc_checkIndex 1 = .ok (.ifCond .lt 8, 3) := by decide +kernel
theorem d_Pc_checkIndex_4 : decode b_Pc_checkIndex 4 = .ok (.iload_n 0, 1) := by decide +kernel
theorem d_Pc_checkIndex_5 : decode b_Pc_checkIndex 5 = .ok (.iload_n 1, 1) := by decide +kernel
theorem d_Pc_checkIndex_6 : decode b_Pc_checkIndex 6 = .ok (.if_icmp .lt 10, 3) := by decide +kernel
theorem d_Pc_checkIndex_9 : decode b_Pc_checkIndex 9 = .ok (.aload_n 2, 1) := by decide +kernel
theorem d_Pc_checkIndex_10 : decode b_Pc_checkIndex 10 = .ok (.iload_n 0, 1) := by decide +kernel
theorem d_Pc_checkIndex_11 : decode b_Pc_checkIndex 11 = .ok (.iload_n 1, 1) := by decide +kernel
theorem d_Pc_checkIndex_12 : decode b_Pc_checkIndex 12 = .ok (.invokestatic 95, 3) := by decide +kernel
theorem d_Pc_checkIndex_16 : decode b_Pc_checkIndex 16 = .ok (.iload_n 0, 1) := by decide +kernel
theorem d_Pc_checkIndex_17 : decode b_Pc_checkIndex 17 = .ok (.ireturn, 1) := by decide +kernel
theorem d_Oj_checkIndex_0 : decode b_Oj_checkIndex 0 = .ok (.iload_n 0, 1) := by decide +kernel
theorem d_Oj_checkIndex_1 : decode b_Oj_checkIndex 1 = .ok (.iload_n 1, 1) := by decide +kernel
theorem d_Oj_checkIndex_2 : decode b_Oj_checkIndex 2 = .ok (.aconst_null, 1) := by decide +kernel
theorem d_Oj_checkIndex_3 : decode b_Oj_checkIndex 3 = .ok (.invokestatic 105, 3) := by decide +kernel
theorem d_Oj_checkIndex_6 : decode b_Oj_checkIndex 6 = .ok (.ireturn, 1) := by decide +kernel
theorem d_A_elementData_0 : decode b_A_elementData 0 = .ok (.aload_n 0, 1) := by decide +kernel
theorem d_A_elementData_1 : decode b_A_elementData 1 = .ok (.getfield 9, 3) := by decide +kernel
theorem d_A_elementData_4 : decode b_A_elementData 4 = .ok (.iload_n 1, 1) := by decide +kernel
theorem d_A_elementData_5 : decode b_A_elementData 5 = .ok (.aaload, 1) := by decide +kernel
theorem d_A_elementData_6 : decode b_A_elementData 6 = .ok (.areturn, 1) := by decide +kernel
theorem d_A_get_0 : decode b_A_get 0 = .ok (.iload_n 1, 1) := by decide +kernel
theorem d_A_get_1 : decode b_A_get 1 = .ok (.aload_n 0, 1) := by decide +kernel
theorem d_A_get_2 : decode b_A_get 2 = .ok (.getfield 48, 3) := by decide +kernel
theorem d_A_get_5 : decode b_A_get 5 = .ok (.invokestatic 118, 3) := by decide +kernel
theorem d_A_get_8 : decode b_A_get 8 = .ok (.pop, 1) := by decide +kernel
theorem d_A_get_9 : decode b_A_get 9 = .ok (.aload_n 0, 1) := by decide +kernel
theorem d_A_get_10 : decode b_A_get 10 = .ok (.iload_n 1, 1) := by decide +kernel
theorem d_A_get_11 : decode b_A_get 11 = .ok (.invokevirtual 123, 3) := by decide +kernel
theorem d_A_get_14 : decode b_A_get 14 = .ok (.areturn, 1) := by decide +kernel
theorem d_P_isSound_0 : decode b_P_isSound 0 = .ok (.aload_n 0, 1) := by decide +kernel
theorem d_P_isSound_1 : decode b_P_isSound 1 = .ok (.getfield 12, 3) := by decide +kernel
theorem d_P_isSound_4 : decode b_P_isSound 4 = .ok (.invokevirtual 28, 3) := by decide +kernel
theorem d_P_isSound_7 : decode b_P_isSound 7 = .ok (.istore_n 1, 1) := by decide +kernel
theorem d_P_isSound_8 : decode b_P_isSound 8 = .ok (.iconst 0, 1) := by decide +kernel
theorem d_P_isSound_9 : decode b_P_isSound 9 = .ok (.istore_n 2, 1) := by decide +kernel
theorem d_P_isSound_10 : decode b_P_isSound 10 = .ok (.iload_n 2, 1) := by decide +kernel
theorem d_P_isSound_11 : decode b_P_isSound 11 = .ok (.iload_n 1, 1) := by decide +kernel
theorem d_P_isSound_12 : decode b_P_isSound 12 = .ok (.if_icmp .ge 62, 3) := by decide +kernel
theorem d_P_isSound_15 : decode b_P_isSound 15 = .ok (.aload_n 0, 1) := by decide +kernel
theorem d_P_isSound_16 : decode b_P_isSound 16 = .ok (.getfield 12, 3) := by decide +kernel
theorem d_P_isSound_19 : decode b_P_isSound 19 = .ok (.iload_n 2, 1) := by decide +kernel
theorem d_P_isSound_20 : decode b_P_isSound 20 = .ok (.invokevirtual 32, 3) := by decide +kernel
theorem d_P_isSound_23 : decode b_P_isSound 23 = .ok (.checkcast 36, 3) := by decide +kernel
theorem d_P_isSound_26 : decode b_P_isSound 26 = .ok (.astore_n 3, 1) := by decide +kernel
theorem d_P_isSound_27 : decode b_P_isSound 27 = .ok (.aload_n 3, 1) := by decide +kernel
theorem d_P_isSound_28 : decode b_P_isSound 28 = .ok (.getfield 38, 3) := by decide +kernel
theorem d_P_isSound_31 : decode b_P_isSound 31 = .ok (.bipush 7, 2) := by decide +kernel
theorem d_P_isSound_33 : decode b_P_isSound 33 = .ok (.if_icmp .ne 17, 3) := by decide +kernel
theorem d_P_isSound_36 : decode b_P_isSound 36 = .ok (.aload_n 3, 1) := by decide +kernel
theorem d_P_isSound_37 : decode b_P_isSound 37 = .ok (.getfield 42, 3) := by decide +kernel
theorem d_P_isSound_40 : decode b_P_isSound 40 = .ok (.iload_n 1, 1) := by decide +kernel
theorem d_P_isSound_41 : decode b_P_isSound 41 = .ok (.iconst 1, 1) := by decide +kernel
theorem d_P_isSound_42 : decode b_P_isSound 42 = .ok (.isub, 1) := by decide +kernel
theorem d_P_isSound_43 : decode b_P_isSound 43 = .ok (.iload_n 2, 1) := by decide +kernel
theorem d_P_isSound_44 : decode b_P_isSound 44 = .ok (.isub, 1) := by decide +kernel
theorem d_P_isSound_45 : decode b_P_isSound 45 = .ok (.if_icmp .le 5, 3) := by decide +kernel
theorem d_P_isSound_48 : decode b_P_isSound 48 = .ok (.iconst 0, 1) := by decide +kernel
theorem d_P_isSound_49 : decode b_P_isSound 49 = .ok (.ireturn, 1) := by decide +kernel
theorem d_P_isSound_50 : decode b_P_isSound 50 = .ok (.aload_n 3, 1) := by decide +kernel
theorem d_P_isSound_51 : decode b_P_isSound 51 = .ok (.getfield 38, 3) := by decide +kernel
theorem d_P_isSound_54 : decode b_P_isSound 54 = .ok (.bipush 9, 2) := by decide +kernel
theorem d_P_isSound_56 : decode b_P_isSound 56 = .ok (.if_icmp .ne 12, 3) := by decide +kernel
theorem d_P_isSound_59 : decode b_P_isSound 59 = .ok (.aload_n 0, 1) := by decide +kernel
theorem d_P_isSound_60 : decode b_P_isSound 60 = .ok (.getfield 18, 3) := by decide +kernel
theorem d_P_isSound_63 : decode b_P_isSound 63 = .ok (.ifCond .ne 5, 3) := by decide +kernel
theorem d_P_isSound_66 : decode b_P_isSound 66 = .ok (.iconst 0, 1) := by decide +kernel
theorem d_P_isSound_67 : decode b_P_isSound 67 = .ok (.ireturn, 1) := by decide +kernel
theorem d_P_isSound_68 : decode b_P_isSound 68 = .ok (.iinc 2 1, 3) := by decide +kernel
theorem d_P_isSound_71 : decode b_P_isSound 71 = .ok (.goto (-61), 3) := by decide +kernel
theorem d_P_isSound_74 : decode b_P_isSound 74 = .ok (.iload_n 1, 1) := by decide +kernel
theorem d_P_isSound_75 : decode b_P_isSound 75 = .ok (.ifCond .le 7, 3) := by decide +kernel
theorem d_P_isSound_78 : decode b_P_isSound 78 = .ok (.iconst 1, 1) := by decide +kernel
theorem d_P_isSound_79 : decode b_P_isSound 79 = .ok (.goto 4, 3) := by decide +kernel
theorem d_P_isSound_82 : decode b_P_isSound 82 = .ok (.iconst 0, 1) := by decide +kernel
theorem d_P_isSound_83 : decode b_P_isSound 83 = .ok (.ireturn, 1) := by decide +kernel
theorem d_S_deploy_0 : decode b_S_deploy 0 = .ok (.aload_n 0, 1) := by decide +kernel
theorem d_S_deploy_1 : decode b_S_deploy 1 = .ok (.getfield 15, 3) := by decide +kernel
theorem d_S_deploy_4 : decode b_S_deploy 4 = .ok (.ifnonnull 5, 3) := by decide +kernel
theorem d_S_deploy_7 : decode b_S_deploy 7 = .ok (.iconst (-1), 1) := by decide +kernel
theorem d_S_deploy_8 : decode b_S_deploy 8 = .ok (.ireturn, 1) := by decide +kernel
theorem d_S_deploy_9 : decode b_S_deploy 9 = .ok (.aload_n 0, 1) := by decide +kernel
theorem d_S_deploy_10 : decode b_S_deploy 10 = .ok (.getfield 15, 3) := by decide +kernel
theorem d_S_deploy_13 : decode b_S_deploy 13 = .ok (.astore_n 1, 1) := by decide +kernel
theorem d_S_deploy_14 : decode b_S_deploy 14 = .ok (.aload_n 0, 1) := by decide +kernel
theorem d_S_deploy_15 : decode b_S_deploy 15 = .ok (.aconst_null, 1) := by decide +kernel
theorem d_S_deploy_16 : decode b_S_deploy 16 = .ok (.putfield 15, 3) := by decide +kernel
theorem d_S_deploy_19 : decode b_S_deploy 19 = .ok (.aload_n 1, 1) := by decide +kernel
theorem d_S_deploy_20 : decode b_S_deploy 20 = .ok (.invokevirtual 117, 3) := by decide +kernel
theorem d_S_deploy_23 : decode b_S_deploy 23 = .ok (.ifCond .ne 6, 3) := by decide +kernel
theorem d_S_deploy_26 : decode b_S_deploy 26 = .ok (.bipush (-3), 2) := by decide +kernel
theorem d_S_deploy_28 : decode b_S_deploy 28 = .ok (.ireturn, 1) := by decide +kernel
theorem d_S_deploy_29 : decode b_S_deploy 29 = .ok (.aload_n 1, 1) := by decide +kernel
theorem d_S_deploy_30 : decode b_S_deploy 30 = .ok (.iconst 1, 1) := by decide +kernel
theorem d_S_deploy_31 : decode b_S_deploy 31 = .ok (.putfield 89, 3) := by decide +kernel
theorem d_S_deploy_34 : decode b_S_deploy 34 = .ok (.iconst 0, 1) := by decide +kernel
theorem d_S_deploy_35 : decode b_S_deploy 35 = .ok (.ireturn, 1) := by decide +kernel
theorem d_K_init_0 : decode b_K_init 0 = .ok (.aload_n 0, 1) := by decide +kernel
theorem d_K_init_1 : decode b_K_init 1 = .ok (.invokespecial 1, 3) := by decide +kernel
theorem d_K_init_4 : decode b_K_init 4 = .ok (.aload_n 0, 1) := by decide +kernel
theorem d_K_init_5 : decode b_K_init 5 = .ok (.iload_n 1, 1) := by decide +kernel
theorem d_K_init_6 : decode b_K_init 6 = .ok (.putfield 7, 3) := by decide +kernel
theorem d_K_init_9 : decode b_K_init 9 = .ok (.aload_n 0, 1) := by decide +kernel
theorem d_K_init_10 : decode b_K_init 10 = .ok (.iload_n 2, 1) := by decide +kernel
theorem d_K_init_11 : decode b_K_init 11 = .ok (.putfield 13, 3) := by decide +kernel
theorem d_K_init_14 : decode b_K_init 14 = .ok (.aload_n 0, 1) := by decide +kernel
theorem d_K_init_15 : decode b_K_init 15 = .ok (.aload_n 3, 1) := by decide +kernel
theorem d_K_init_16 : decode b_K_init 16 = .ok (.putfield 16, 3) := by decide +kernel
theorem d_K_init_19 : decode b_K_init 19 = .ok (.aload_n 0, 1) := by decide +kernel
theorem d_K_init_20 : decode b_K_init 20 = .ok (.iload 4, 2) := by decide +kernel
theorem d_K_init_22 : decode b_K_init 22 = .ok (.putfield 20, 3) := by decide +kernel
theorem d_K_init_25 : decode b_K_init 25 = .ok (.aload_n 0, 1) := by decide +kernel
theorem d_K_init_26 : decode b_K_init 26 = .ok (.iload 5, 2) := by decide +kernel
theorem d_K_init_28 : decode b_K_init 28 = .ok (.putfield 23, 3) := by decide +kernel
theorem d_K_init_31 : decode b_K_init 31 = .ok (.aload_n 0, 1) := by decide +kernel
theorem d_K_init_32 : decode b_K_init 32 = .ok (.iload 6, 2) := by decide +kernel
theorem d_K_init_34 : decode b_K_init 34 = .ok (.putfield 26, 3) := by decide +kernel
theorem d_K_init_37 : decode b_K_init 37 = .ok (.return_, 1) := by decide +kernel
theorem d_C_begin_0 : decode b_C_begin 0 = .ok (.aload_n 0, 1) := by decide +kernel
theorem d_C_begin_1 : decode b_C_begin 1 = .ok (.iconst 1, 1) := by decide +kernel
theorem d_C_begin_2 : decode b_C_begin 2 = .ok (.putfield 9, 3) := by decide +kernel
theorem d_C_begin_5 : decode b_C_begin 5 = .ok (.aload_n 0, 1) := by decide +kernel
theorem d_C_begin_6 : decode b_C_begin 6 = .ok (.iload_n 1, 1) := by decide +kernel
theorem d_C_begin_7 : decode b_C_begin 7 = .ok (.putfield 15, 3) := by decide +kernel
theorem d_C_begin_10 : decode b_C_begin 10 = .ok (.aload_n 0, 1) := by decide +kernel
theorem d_C_begin_11 : decode b_C_begin 11 = .ok (.iconst 0, 1) := by decide +kernel
theorem d_C_begin_12 : decode b_C_begin 12 = .ok (.putfield 18, 3) := by decide +kernel
theorem d_C_begin_15 : decode b_C_begin 15 = .ok (.return_, 1) := by decide +kernel
theorem d_S_waitAtAllSites_0 : decode b_S_waitAtAllSites 0 = .ok (.aload_n 0, 1) := by decide +kernel
theorem d_S_waitAtAllSites_1 : decode b_S_waitAtAllSites 1 = .ok (.getfield 80, 3) := by decide +kernel
theorem d_S_waitAtAllSites_4 : decode b_S_waitAtAllSites 4 = .ok (.astore_n 2, 1) := by decide +kernel
theorem d_S_waitAtAllSites_5 : decode b_S_waitAtAllSites 5 = .ok (.aload_n 2, 1) := by decide +kernel
theorem d_S_waitAtAllSites_6 : decode b_S_waitAtAllSites 6 = .ok (.arraylength, 1) := by decide +kernel
theorem d_S_waitAtAllSites_7 : decode b_S_waitAtAllSites 7 = .ok (.istore_n 3, 1) := by decide +kernel
theorem d_S_waitAtAllSites_8 : decode b_S_waitAtAllSites 8 = .ok (.iconst 0, 1) := by decide +kernel
theorem d_S_waitAtAllSites_9 : decode b_S_waitAtAllSites 9 = .ok (.istore 4, 2) := by decide +kernel
theorem d_S_waitAtAllSites_11 : decode b_S_waitAtAllSites 11 = .ok (.iload 4, 2) := by decide +kernel
theorem d_S_waitAtAllSites_13 : decode b_S_waitAtAllSites 13 = .ok (.iload_n 3, 1) := by decide +kernel
theorem d_S_waitAtAllSites_14 : decode b_S_waitAtAllSites 14 = .ok (.if_icmp .ge 25, 3) := by decide +kernel
theorem d_S_waitAtAllSites_17 : decode b_S_waitAtAllSites 17 = .ok (.aload_n 2, 1) := by decide +kernel
theorem d_S_waitAtAllSites_18 : decode b_S_waitAtAllSites 18 = .ok (.iload 4, 2) := by decide +kernel
theorem d_S_waitAtAllSites_20 : decode b_S_waitAtAllSites 20 = .ok (.aaload, 1) := by decide +kernel
theorem d_S_waitAtAllSites_21 : decode b_S_waitAtAllSites 21 = .ok (.astore 5, 2) := by decide +kernel
theorem d_S_waitAtAllSites_23 : decode b_S_waitAtAllSites 23 = .ok (.aload 5, 2) := by decide +kernel
theorem d_S_waitAtAllSites_25 : decode b_S_waitAtAllSites 25 = .ok (.getfield 146, 3) := by decide +kernel
theorem d_S_waitAtAllSites_28 : decode b_S_waitAtAllSites 28 = .ok (.aload_n 1, 1) := by decide +kernel
theorem d_S_waitAtAllSites_29 : decode b_S_waitAtAllSites 29 = .ok (.invokevirtual 113, 3) := by decide +kernel
theorem d_S_waitAtAllSites_32 : decode b_S_waitAtAllSites 32 = .ok (.pop, 1) := by decide +kernel
theorem d_S_waitAtAllSites_33 : decode b_S_waitAtAllSites 33 = .ok (.iinc 4 1, 3) := by decide +kernel
theorem d_S_waitAtAllSites_36 : decode b_S_waitAtAllSites 36 = .ok (.goto (-25), 3) := by decide +kernel
theorem d_S_waitAtAllSites_39 : decode b_S_waitAtAllSites 39 = .ok (.return_, 1) := by decide +kernel
end
section
theorem d_Ma_floorMod_0 : decode b_Ma_floorMod 0 = .ok (.iload_n 0, 1) := by decide +kernel
theorem d_Ma_floorMod_1 : decode b_Ma_floorMod 1 = .ok (.iload_n 1, 1) := by decide +kernel
theorem d_Ma_floorMod_2 : decode b_Ma_floorMod 2 = .ok (.irem, 1) := by decide +kernel
theorem d_Ma_floorMod_3 : decode b_Ma_floorMod 3 = .ok (.istore_n 2, 1) := by decide +kernel
theorem d_Ma_floorMod_4 : decode b_Ma_floorMod 4 = .ok (.iload_n 0, 1) := by decide +kernel
theorem d_Ma_floorMod_5 : decode b_Ma_floorMod 5 = .ok (.iload_n 1, 1) := by decide +kernel
theorem d_Ma_floorMod_6 : decode b_Ma_floorMod 6 = .ok (.ixor, 1) := by decide +kernel
theorem d_Ma_floorMod_7 : decode b_Ma_floorMod 7 = .ok (.ifCond .ge 11, 3) := by decide +kernel
theorem d_Ma_floorMod_10 : decode b_Ma_floorMod 10 = .ok (.iload_n 2, 1) := by decide +kernel
theorem d_Ma_floorMod_11 : decode b_Ma_floorMod 11 = .ok (.ifCond .eq 7, 3) := by decide +kernel
theorem d_Ma_floorMod_14 : decode b_Ma_floorMod 14 = .ok (.iload_n 2, 1) := by decide +kernel
theorem d_Ma_floorMod_15 : decode b_Ma_floorMod 15 = .ok (.iload_n 1, 1) := by decide +kernel
theorem d_Ma_floorMod_16 : decode b_Ma_floorMod 16 = .ok (.iadd, 1) := by decide +kernel
theorem d_Ma_floorMod_17 : decode b_Ma_floorMod 17 = .ok (.ireturn, 1) := by decide +kernel
theorem d_Ma_floorMod_18 : decode b_Ma_floorMod 18 = .ok (.iload_n 2, 1) := by decide +kernel
theorem d_Ma_floorMod_19 : decode b_Ma_floorMod 19 = .ok (.ireturn, 1) := by decide +kernel
theorem d_K_home_0 : decode b_K_home 0 = .ok (.aload_n 0, 1) := by decide +kernel
theorem d_K_home_1 : decode b_K_home 1 = .ok (.getfield 20, 3) := by decide +kernel
theorem d_K_home_4 : decode b_K_home 4 = .ok (.iload_n 1, 1) := by decide +kernel
theorem d_K_home_5 : decode b_K_home 5 = .ok (.invokestatic 29, 3) := by decide +kernel
theorem d_K_home_8 : decode b_K_home 8 = .ok (.ireturn, 1) := by decide +kernel
theorem d_S_invoke_0 : decode b_S_invoke 0 = .ok (.iload_n 1, 1) := by decide +kernel
theorem d_S_invoke_1 : decode b_S_invoke 1 = .ok (.iconst 4, 1) := by decide +kernel
theorem d_S_invoke_2 : decode b_S_invoke 2 = .ok (.invokestatic 85, 3) := by decide +kernel
theorem d_S_invoke_5 : decode b_S_invoke 5 = .ok (.ifCond .eq 16, 3) := by decide +kernel
theorem d_S_invoke_8 : decode b_S_invoke 8 = .ok (.aload_n 0, 1) := by decide +kernel
theorem d_S_invoke_9 : decode b_S_invoke 9 = .ok (.getfield 21, 3) := by decide +kernel
theorem d_S_invoke_12 : decode b_S_invoke 12 = .ok (.iload_n 1, 1) := by decide +kernel
theorem d_S_invoke_13 : decode b_S_invoke 13 = .ok (.aaload, 1) := by decide +kernel
theorem d_S_invoke_14 : decode b_S_invoke 14 = .ok (.getfield 121, 3) := by decide +kernel
theorem d_S_invoke_17 : decode b_S_invoke 17 = .ok (.iconst 1, 1) := by decide +kernel
theorem d_S_invoke_18 : decode b_S_invoke 18 = .ok (.if_icmp .ne 5, 3) := by decide +kernel
theorem d_S_invoke_21 : decode b_S_invoke 21 = .ok (.iconst (-1), 1) := by decide +kernel
theorem d_S_invoke_22 : decode b_S_invoke 22 = .ok (.ireturn, 1) := by decide +kernel
theorem d_S_invoke_23 : decode b_S_invoke 23 = .ok (.iload_n 2, 1) := by decide +kernel
theorem d_S_invoke_24 : decode b_S_invoke 24 = .ok (.bipush 6, 2) := by decide +kernel
theorem d_S_invoke_26 : decode b_S_invoke 26 = .ok (.invokestatic 85, 3) := by decide +kernel
theorem d_S_invoke_29 : decode b_S_invoke 29 = .ok (.ifCond .eq 15, 3) := by decide +kernel
theorem d_S_invoke_32 : decode b_S_invoke 32 = .ok (.aload_n 0, 1) := by decide +kernel
theorem d_S_invoke_33 : decode b_S_invoke 33 = .ok (.getfield 11, 3) := by decide +kernel
theorem d_S_invoke_36 : decode b_S_invoke 36 = .ok (.iload_n 2, 1) := by decide +kernel
theorem d_S_invoke_37 : decode b_S_invoke 37 = .ok (.aaload, 1) := by decide +kernel
theorem d_S_invoke_38 : decode b_S_invoke 38 = .ok (.getfield 89, 3) := by decide +kernel
theorem d_S_invoke_41 : decode b_S_invoke 41 = .ok (.ifCond .ne 5, 3) := by decide +kernel
theorem d_S_invoke_44 : decode b_S_invoke 44 = .ok (.iconst (-1), 1) := by decide +kernel
theorem d_S_invoke_45 : decode b_S_invoke 45 = .ok (.ireturn, 1) := by decide +kernel
theorem d_S_invoke_46 : decode b_S_invoke 46 = .ok (.aload_n 0, 1) := by decide +kernel
theorem d_S_invoke_47 : decode b_S_invoke 47 = .ok (.getfield 28, 3) := by decide +kernel
theorem d_S_invoke_50 : decode b_S_invoke 50 = .ok (.invokevirtual 104, 3) := by decide +kernel
theorem d_S_invoke_53 : decode b_S_invoke 53 = .ok (.bipush 48, 2) := by decide +kernel
theorem d_S_invoke_55 : decode b_S_invoke 55 = .ok (.if_icmp .lt 6, 3) := by decide +kernel
theorem d_S_invoke_58 : decode b_S_invoke 58 = .ok (.bipush (-2), 2) := by decide +kernel
theorem d_S_invoke_60 : decode b_S_invoke 60 = .ok (.ireturn, 1) := by decide +kernel
theorem d_S_invoke_61 : decode b_S_invoke 61 = .ok (.aload_n 0, 1) := by decide +kernel
theorem d_S_invoke_62 : decode b_S_invoke 62 = .ok (.dup, 1) := by decide +kernel
theorem d_S_invoke_63 : decode b_S_invoke 63 = .ok (.getfield 49, 3) := by decide +kernel
theorem d_S_invoke_66 : decode b_S_invoke 66 = .ok (.iconst 1, 1) := by decide +kernel
theorem d_S_invoke_67 : decode b_S_invoke 67 = .ok (.iadd, 1) := by decide +kernel
theorem d_S_invoke_68 : decode b_S_invoke 68 = .ok (.putfield 49, 3) := by decide +kernel
theorem d_S_invoke_71 : decode b_S_invoke 71 = .ok (.new 124, 3) := by decide +kernel
theorem d_S_invoke_74 : decode b_S_invoke 74 = .ok (.dup, 1) := by decide +kernel
theorem d_S_invoke_75 : decode b_S_invoke 75 = .ok (.aload_n 0, 1) := by decide +kernel
theorem d_S_invoke_76 : decode b_S_invoke 76 = .ok (.getfield 49, 3) := by decide +kernel
theorem d_S_invoke_79 : decode b_S_invoke 79 = .ok (.iload_n 1, 1) := by decide +kernel
theorem d_S_invoke_80 : decode b_S_invoke 80 = .ok (.aload_n 0, 1) := by decide +kernel
theorem d_S_invoke_81 : decode b_S_invoke 81 = .ok (.getfield 11, 3) := by decide +kernel
theorem d_S_invoke_84 : decode b_S_invoke 84 = .ok (.iload_n 2, 1) := by decide +kernel
theorem d_S_invoke_85 : decode b_S_invoke 85 = .ok (.aaload, 1) := by decide +kernel
theorem d_S_invoke_86 : decode b_S_invoke 86 = .ok (.iload_n 3, 1) := by decide +kernel
theorem d_S_invoke_87 : decode b_S_invoke 87 = .ok (.iload 4, 2) := by decide +kernel
theorem d_S_invoke_89 : decode b_S_invoke 89 = .ok (.iload 5, 2) := by decide +kernel
theorem d_S_invoke_91 : decode b_S_invoke 91 = .ok (.invokespecial 126, 3) := by decide +kernel
theorem d_S_invoke_94 : decode b_S_invoke 94 = .ok (.astore 6, 2) := by decide +kernel
theorem d_S_invoke_96 : decode b_S_invoke 96 = .ok (.aload_n 0, 1) := by decide +kernel
theorem d_S_invoke_97 : decode b_S_invoke 97 = .ok (.getfield 28, 3) := by decide +kernel
theorem d_S_invoke_100 : decode b_S_invoke 100 = .ok (.aload 6, 2) := by decide +kernel
theorem d_S_invoke_102 : decode b_S_invoke 102 = .ok (.invokevirtual 113, 3) := by decide +kernel
theorem d_S_invoke_105 : decode b_S_invoke 105 = .ok (.pop, 1) := by decide +kernel
theorem d_S_invoke_106 : decode b_S_invoke 106 = .ok (.aload_n 0, 1) := by decide +kernel
theorem d_S_invoke_107 : decode b_S_invoke 107 = .ok (.getfield 21, 3) := by decide +kernel
theorem d_S_invoke_110 : decode b_S_invoke 110 = .ok (.iload_n 1, 1) := by decide +kernel
theorem d_S_invoke_111 : decode b_S_invoke 111 = .ok (.aaload, 1) := by decide +kernel
theorem d_S_invoke_112 : decode b_S_invoke 112 = .ok (.aload_n 0, 1) := by decide +kernel
theorem d_S_invoke_113 : decode b_S_invoke 113 = .ok (.getfield 49, 3) := by decide +kernel
theorem d_S_invoke_116 : decode b_S_invoke 116 = .ok (.invokevirtual 129, 3) := by decide +kernel
theorem d_S_invoke_119 : decode b_S_invoke 119 = .ok (.aload 6, 2) := by decide +kernel
theorem d_S_invoke_121 : decode b_S_invoke 121 = .ok (.getfield 132, 3) := by decide +kernel
theorem d_S_invoke_124 : decode b_S_invoke 124 = .ok (.getfield 135, 3) := by decide +kernel
theorem d_S_invoke_127 : decode b_S_invoke 127 = .ok (.ifCond .eq 12, 3) := by decide +kernel
theorem d_S_invoke_130 : decode b_S_invoke 130 = .ok (.aload_n 0, 1) := by decide +kernel
theorem d_S_invoke_131 : decode b_S_invoke 131 = .ok (.aload 6, 2) := by decide +kernel
theorem d_S_invoke_133 : decode b_S_invoke 133 = .ok (.invokevirtual 138, 3) := by decide +kernel
theorem d_S_invoke_136 : decode b_S_invoke 136 = .ok (.goto 26, 3) := by decide +kernel
theorem d_S_invoke_139 : decode b_S_invoke 139 = .ok (.aload_n 0, 1) := by decide +kernel
theorem d_S_invoke_140 : decode b_S_invoke 140 = .ok (.getfield 80, 3) := by decide +kernel
theorem d_S_invoke_143 : decode b_S_invoke 143 = .ok (.aload 6, 2) := by decide +kernel
theorem d_S_invoke_145 : decode b_S_invoke 145 = .ok (.aload_n 0, 1) := by decide +kernel
theorem d_S_invoke_146 : decode b_S_invoke 146 = .ok (.getfield 64, 3) := by decide +kernel
theorem d_S_invoke_149 : decode b_S_invoke 149 = .ok (.invokevirtual 142, 3) := by decide +kernel
theorem d_S_invoke_152 : decode b_S_invoke 152 = .ok (.aaload, 1) := by decide +kernel
theorem d_S_invoke_153 : decode b_S_invoke 153 = .ok (.getfield 146, 3) := by decide +kernel
theorem d_S_invoke_156 : decode b_S_invoke 156 = .ok (.aload 6, 2) := by decide +kernel
theorem d_S_invoke_158 : decode b_S_invoke 158 = .ok (.invokevirtual 113, 3) := by decide +kernel
theorem d_S_invoke_161 : decode b_S_invoke 161 = .ok (.pop, 1) := by decide +kernel
theorem d_S_invoke_162 : decode b_S_invoke 162 = .ok (.aload_n 0, 1) := by decide +kernel
theorem d_S_invoke_163 : decode b_S_invoke 163 = .ok (.getfield 49, 3) := by decide +kernel
theorem d_S_invoke_166 : decode b_S_invoke 166 = .ok (.ireturn, 1) := by decide +kernel
theorem d_A_isEmpty_0 : decode b_A_isEmpty 0 = .ok (.aload_n 0, 1) := by decide +kernel
theorem d_A_isEmpty_1 : decode b_A_isEmpty 1 = .ok (.getfield 48, 3) := by decide +kernel
theorem d_A_isEmpty_4 : decode b_A_isEmpty 4 = .ok (.ifCond .ne 7, 3) := by decide +kernel
theorem d_A_isEmpty_7 : decode b_A_isEmpty 7 = .ok (.iconst 1, 1) := by decide +kernel
theorem d_A_isEmpty_8 : decode b_A_isEmpty 8 = .ok (.goto 4, 3) := by decide +kernel
theorem d_A_isEmpty_11 : decode b_A_isEmpty 11 = .ok (.iconst 0, 1) := by decide +kernel
theorem d_A_isEmpty_12 : decode b_A_isEmpty 12 = .ok (.ireturn, 1) := by decide +kernel
theorem d_Q_first_0 : decode b_Q_first 0 = .ok (.aload_n 0, 1) := by decide +kernel
theorem d_Q_first_1 : decode b_Q_first 1 = .ok (.getfield 10, 3) := by decide +kernel
theorem d_Q_first_4 : decode b_Q_first 4 = .ok (.invokevirtual 27, 3) := by decide +kernel
theorem d_Q_first_7 : decode b_Q_first 7 = .ok (.ifCond .eq 7, 3) := by decide +kernel
theorem d_Q_first_10 : decode b_Q_first 10 = .ok (.aconst_null, 1) := by decide +kernel
theorem d_Q_first_11 : decode b_Q_first 11 = .ok (.goto 14, 3) := by decide +kernel
theorem d_Q_first_14 : decode b_Q_first 14 = .ok (.aload_n 0, 1) := by decide +kernel
theorem d_Q_first_15 : decode b_Q_first 15 = .ok (.getfield 10, 3) := by decide +kernel
theorem d_Q_first_18 : decode b_Q_first 18 = .ok (.iconst 0, 1) := by decide +kernel
theorem d_Q_first_19 : decode b_Q_first 19 = .ok (.invokevirtual 31, 3) := by decide +kernel
theorem d_Q_first_22 : decode b_Q_first 22 = .ok (.checkcast 35, 3) := by decide +kernel
theorem d_Q_first_25 : decode b_Q_first 25 = .ok (.areturn, 1) := by decide +kernel
theorem d_A_fastRemove_0 : decode b_A_fastRemove 0 = .ok (.aload_n 0, 1) := by decide +kernel
theorem d_A_fastRemove_1 : decode b_A_fastRemove 1 = .ok (.dup, 1) := by decide +kernel
theorem d_A_fastRemove_2 : decode b_A_fastRemove 2 = .ok (.getfield 63, 3) := by decide +kernel
theorem d_A_fastRemove_5 : decode b_A_fastRemove 5 = .ok (.iconst 1, 1) := by decide +kernel
theorem d_A_fastRemove_6 : decode b_A_fastRemove 6 = .ok (.iadd, 1) := by decide +kernel
theorem d_A_fastRemove_7 : decode b_A_fastRemove 7 = .ok (.putfield 63, 3) := by decide +kernel
theorem d_A_fastRemove_10 : decode b_A_fastRemove 10 = .ok (.aload_n 0, 1) := by decide +kernel
theorem d_A_fastRemove_11 : decode b_A_fastRemove 11 = .ok (.getfield 48, 3) := by decide +kernel
theorem d_A_fastRemove_14 : decode b_A_fastRemove 14 = .ok (.iconst 1, 1) := by decide +kernel
theorem d_A_fastRemove_15 : decode b_A_fastRemove 15 = .ok (.isub, 1) := by decide +kernel
theorem d_A_fastRemove_16 : decode b_A_fastRemove 16 = .ok (.dup, 1) := by decide +kernel
theorem d_A_fastRemove_17 : decode b_A_fastRemove 17 = .ok (.istore_n 3, 1) := by decide +kernel
theorem d_A_fastRemove_18 : decode b_A_fastRemove 18 = .ok (.iload_n 2, 1) := by decide +kernel
theorem d_A_fastRemove_19 : decode b_A_fastRemove 19 = .ok (.if_icmp .le 15, 3) := by decide +kernel
theorem d_A_fastRemove_22 : decode b_A_fastRemove 22 = .ok (.aload_n 1, 1) := by decide +kernel
theorem d_A_fastRemove_23 : decode b_A_fastRemove 23 = .ok (.iload_n 2, 1) := by decide +kernel
theorem d_A_fastRemove_24 : decode b_A_fastRemove 24 = .ok (.iconst 1, 1) := by decide +kernel
theorem d_A_fastRemove_25 : decode b_A_fastRemove 25 = .ok (.iadd, 1) := by decide +kernel
theorem d_A_fastRemove_26 : decode b_A_fastRemove 26 = .ok (.aload_n 1, 1) := by decide +kernel
theorem d_A_fastRemove_27 : decode b_A_fastRemove 27 = .ok (.iload_n 2, 1) := by decide +kernel
theorem d_A_fastRemove_28 : decode b_A_fastRemove 28 = .ok (.iload_n 3, 1) := by decide +kernel
theorem d_A_fastRemove_29 : decode b_A_fastRemove 29 = .ok (.iload_n 2, 1) := by decide +kernel
theorem d_A_fastRemove_30 : decode b_A_fastRemove 30 = .ok (.isub, 1) := by decide +kernel
theorem d_A_fastRemove_31 : decode b_A_fastRemove 31 = .ok (.invokestatic 112, 3) := by decide +kernel
theorem d_A_fastRemove_34 : decode b_A_fastRemove 34 = .ok (.aload_n 1, 1) := by decide +kernel
theorem d_A_fastRemove_35 : decode b_A_fastRemove 35 = .ok (.aload_n 0, 1) := by decide +kernel
theorem d_A_fastRemove_36 : decode b_A_fastRemove 36 = .ok (.iload_n 3, 1) := by decide +kernel
theorem d_A_fastRemove_37 : decode b_A_fastRemove 37 = .ok (.dup_x1, 1) := by decide +kernel
theorem d_A_fastRemove_38 : decode b_A_fastRemove 38 = .ok (.putfield 48, 3) := by decide +kernel
theorem d_A_fastRemove_41 : decode b_A_fastRemove 41 = .ok (.aconst_null, 1) := by decide +kernel
theorem d_A_fastRemove_42 : decode b_A_fastRemove 42 = .ok (.aastore, 1) := by decide +kernel
theorem d_A_fastRemove_43 : decode b_A_fastRemove 43 = .ok (.return_, 1) := by decide +kernel
theorem d_A_remove_0 : decode b_A_remove 0 = .ok (.iload_n 1, 1) := by decide +kernel
theorem d_A_remove_1 : decode b_A_remove 1 = .ok (.aload_n 0, 1) := by decide +kernel
theorem d_A_remove_2 : decode b_A_remove 2 = .ok (.getfield 48, 3) := by decide +kernel
theorem d_A_remove_5 : decode b_A_remove 5 = .ok (.invokestatic 118, 3) := by decide +kernel
theorem d_A_remove_8 : decode b_A_remove 8 = .ok (.pop, 1) := by decide +kernel
theorem d_A_remove_9 : decode b_A_remove 9 = .ok (.aload_n 0, 1) := by decide +kernel
theorem d_A_remove_10 : decode b_A_remove 10 = .ok (.getfield 9, 3) := by decide +kernel
theorem d_A_remove_13 : decode b_A_remove 13 = .ok (.astore_n 2, 1) := by decide +kernel
theorem d_A_remove_14 : decode b_A_remove 14 = .ok (.aload_n 2, 1) := by decide +kernel
theorem d_A_remove_15 : decode b_A_remove 15 = .ok (.iload_n 1, 1) := by decide +kernel
theorem d_A_remove_16 : decode b_A_remove 16 = .ok (.aaload, 1) := by decide +kernel
theorem d_A_remove_17 : decode b_A_remove 17 = .ok (.astore_n 3, 1) := by decide +kernel
theorem d_A_remove_18 : decode b_A_remove 18 = .ok (.aload_n 0, 1) := by decide +kernel
theorem d_A_remove_19 : decode b_A_remove 19 = .ok (.aload_n 2, 1) := by decide +kernel
theorem d_A_remove_20 : decode b_A_remove 20 = .ok (.iload_n 1, 1) := by decide +kernel
theorem d_A_remove_21 : decode b_A_remove 21 = .ok (.invokevirtual 144, 3) := by decide +kernel
theorem d_A_remove_24 : decode b_A_remove 24 = .ok (.aload_n 3, 1) := by decide +kernel
theorem d_A_remove_25 : decode b_A_remove 25 = .ok (.areturn, 1) := by decide +kernel
theorem d_Q_passOn_0 : decode b_Q_passOn 0 = .ok (.aload_n 0, 1) := by decide +kernel
theorem d_Q_passOn_1 : decode b_Q_passOn 1 = .ok (.iconst 0, 1) := by decide +kernel
theorem d_Q_passOn_2 : decode b_Q_passOn 2 = .ok (.putfield 16, 3) := by decide +kernel
theorem d_Q_passOn_5 : decode b_Q_passOn 5 = .ok (.aload_n 0, 1) := by decide +kernel
theorem d_Q_passOn_6 : decode b_Q_passOn 6 = .ok (.getfield 10, 3) := by decide +kernel
theorem d_Q_passOn_9 : decode b_Q_passOn 9 = .ok (.invokevirtual 27, 3) := by decide +kernel
theorem d_Q_passOn_12 : decode b_Q_passOn 12 = .ok (.ifCond .ne 12, 3) := by decide +kernel
theorem d_Q_passOn_15 : decode b_Q_passOn 15 = .ok (.aload_n 0, 1) := by decide +kernel
theorem d_Q_passOn_16 : decode b_Q_passOn 16 = .ok (.getfield 10, 3) := by decide +kernel
theorem d_Q_passOn_19 : decode b_Q_passOn 19 = .ok (.iconst 0, 1) := by decide +kernel
theorem d_Q_passOn_20 : decode b_Q_passOn 20 = .ok (.invokevirtual 37, 3) := by decide +kernel
theorem d_Q_passOn_23 : decode b_Q_passOn 23 = .ok (.pop, 1) := by decide +kernel
theorem d_Q_passOn_24 : decode b_Q_passOn 24 = .ok (.return_, 1) := by decide +kernel
theorem d_B_copyPart_0 : decode b_B_copyPart 0 = .ok (.iconst 0, 1) := by decide +kernel
theorem d_B_copyPart_1 : decode b_B_copyPart 1 = .ok (.istore 4, 2) := by decide +kernel
theorem d_B_copyPart_3 : decode b_B_copyPart 3 = .ok (.iload 4, 2) := by decide +kernel
theorem d_B_copyPart_5 : decode b_B_copyPart 5 = .ok (.bipush 32, 2) := by decide +kernel
theorem d_B_copyPart_7 : decode b_B_copyPart 7 = .ok (.if_icmp .ge 31, 3) := by decide +kernel
theorem d_B_copyPart_10 : decode b_B_copyPart 10 = .ok (.iload 4, 2) := by decide +kernel
theorem d_B_copyPart_12 : decode b_B_copyPart 12 = .ok (.iload_n 3, 1) := by decide +kernel
theorem d_B_copyPart_13 : decode b_B_copyPart 13 = .ok (.irem, 1) := by decide +kernel
theorem d_B_copyPart_14 : decode b_B_copyPart 14 = .ok (.iload_n 2, 1) := by decide +kernel
theorem d_B_copyPart_15 : decode b_B_copyPart 15 = .ok (.if_icmp .ne 17, 3) := by decide +kernel
theorem d_B_copyPart_18 : decode b_B_copyPart 18 = .ok (.aload_n 0, 1) := by decide +kernel
theorem d_B_copyPart_19 : decode b_B_copyPart 19 = .ok (.getfield 9, 3) := by decide +kernel
theorem d_B_copyPart_22 : decode b_B_copyPart 22 = .ok (.iload 4, 2) := by decide +kernel
theorem d_B_copyPart_24 : decode b_B_copyPart 24 = .ok (.aload_n 1, 1) := by decide +kernel
theorem d_B_copyPart_25 : decode b_B_copyPart 25 = .ok (.getfield 9, 3) := by decide +kernel
theorem d_B_copyPart_28 : decode b_B_copyPart 28 = .ok (.iload 4, 2) := by decide +kernel
theorem d_B_copyPart_30 : decode b_B_copyPart 30 = .ok (.laload, 1) := by decide +kernel
theorem d_B_copyPart_31 : decode b_B_copyPart 31 = .ok (.lastore, 1) := by decide +kernel
theorem d_B_copyPart_32 : decode b_B_copyPart 32 = .ok (.iinc 4 1, 3) := by decide +kernel
theorem d_B_copyPart_35 : decode b_B_copyPart 35 = .ok (.goto (-32), 3) := by decide +kernel
theorem d_B_copyPart_38 : decode b_B_copyPart 38 = .ok (.return_, 1) := by decide +kernel
theorem d_B_copyCells_0 : decode b_B_copyCells 0 = .ok (.aload_n 1, 1) := by decide +kernel
theorem d_B_copyCells_1 : decode b_B_copyCells 1 = .ok (.getfield 15, 3) := by decide +kernel
theorem d_B_copyCells_4 : decode b_B_copyCells 4 = .ok (.iconst 0, 1) := by decide +kernel
theorem d_B_copyCells_5 : decode b_B_copyCells 5 = .ok (.aload_n 0, 1) := by decide +kernel
theorem d_B_copyCells_6 : decode b_B_copyCells 6 = .ok (.getfield 15, 3) := by decide +kernel
theorem d_B_copyCells_9 : decode b_B_copyCells 9 = .ok (.iconst 0, 1) := by decide +kernel
theorem d_B_copyCells_10 : decode b_B_copyCells 10 = .ok (.bipush 8, 2) := by decide +kernel
theorem d_B_copyCells_12 : decode b_B_copyCells 12 = .ok (.invokestatic 27, 3) := by decide +kernel
theorem d_B_copyCells_15 : decode b_B_copyCells 15 = .ok (.return_, 1) := by decide +kernel
theorem d_B_countPart_0 : decode b_B_countPart 0 = .ok (.iconst 0, 1) := by decide +kernel
theorem d_B_countPart_1 : decode b_B_countPart 1 = .ok (.istore_n 3, 1) := by decide +kernel
theorem d_B_countPart_2 : decode b_B_countPart 2 = .ok (.iconst 0, 1) := by decide +kernel
theorem d_B_countPart_3 : decode b_B_countPart 3 = .ok (.istore 4, 2) := by decide +kernel
theorem d_B_countPart_5 : decode b_B_countPart 5 = .ok (.iload 4, 2) := by decide +kernel
theorem d_B_countPart_7 : decode b_B_countPart 7 = .ok (.bipush 32, 2) := by decide +kernel
theorem d_B_countPart_9 : decode b_B_countPart 9 = .ok (.if_icmp .ge 34, 3) := by decide +kernel
theorem d_B_countPart_12 : decode b_B_countPart 12 = .ok (.iload 4, 2) := by decide +kernel
theorem d_B_countPart_14 : decode b_B_countPart 14 = .ok (.iload_n 2, 1) := by decide +kernel
theorem d_B_countPart_15 : decode b_B_countPart 15 = .ok (.irem, 1) := by decide +kernel
theorem d_B_countPart_16 : decode b_B_countPart 16 = .ok (.iload_n 1, 1) := by decide +kernel
theorem d_B_countPart_17 : decode b_B_countPart 17 = .ok (.if_icmp .ne 20, 3) := by decide +kernel
theorem d_B_countPart_20 : decode b_B_countPart 20 = .ok (.aload_n 0, 1) := by decide +kernel
theorem d_B_countPart_21 : decode b_B_countPart 21 = .ok (.getfield 9, 3) := by decide +kernel
theorem d_B_countPart_24 : decode b_B_countPart 24 = .ok (.iload 4, 2) := by decide +kernel
theorem d_B_countPart_26 : decode b_B_countPart 26 = .ok (.laload, 1) := by decide +kernel
theorem d_B_countPart_27 : decode b_B_countPart 27 = .ok (.ldc2_w 19, 3) := by decide +kernel
theorem d_B_countPart_30 : decode b_B_countPart 30 = .ok (.lcmp, 1) := by decide +kernel
theorem d_B_countPart_31 : decode b_B_countPart 31 = .ok (.ifCond .eq 6, 3) := by decide +kernel
theorem d_B_countPart_34 : decode b_B_countPart 34 = .ok (.iinc 3 1, 3) := by decide +kernel
theorem d_B_countPart_37 : decode b_B_countPart 37 = .ok (.iinc 4 1, 3) := by decide +kernel
theorem d_B_countPart_40 : decode b_B_countPart 40 = .ok (.goto (-35), 3) := by decide +kernel
theorem d_B_countPart_43 : decode b_B_countPart 43 = .ok (.iload_n 3, 1) := by decide +kernel
theorem d_B_countPart_44 : decode b_B_countPart 44 = .ok (.ireturn, 1) := by decide +kernel
theorem d_Q_beginPart_0 : decode b_Q_beginPart 0 = .ok (.aload_n 0, 1) := by decide +kernel
theorem d_Q_beginPart_1 : decode b_Q_beginPart 1 = .ok (.iconst 1, 1) := by decide +kernel
theorem d_Q_beginPart_2 : decode b_Q_beginPart 2 = .ok (.putfield 20, 3) := by decide +kernel
theorem d_Q_beginPart_5 : decode b_Q_beginPart 5 = .ok (.aload_n 0, 1) := by decide +kernel
theorem d_Q_beginPart_6 : decode b_Q_beginPart 6 = .ok (.iload_n 1, 1) := by decide +kernel
theorem d_Q_beginPart_7 : decode b_Q_beginPart 7 = .ok (.putfield 23, 3) := by decide +kernel
theorem d_Q_beginPart_10 : decode b_Q_beginPart 10 = .ok (.return_, 1) := by decide +kernel
theorem d_B_copyFrom_0 : decode b_B_copyFrom 0 = .ok (.aload_n 1, 1) := by decide +kernel
theorem d_B_copyFrom_1 : decode b_B_copyFrom 1 = .ok (.getfield 9, 3) := by decide +kernel
theorem d_B_copyFrom_4 : decode b_B_copyFrom 4 = .ok (.iconst 0, 1) := by decide +kernel
theorem d_B_copyFrom_5 : decode b_B_copyFrom 5 = .ok (.aload_n 0, 1) := by decide +kernel
theorem d_B_copyFrom_6 : decode b_B_copyFrom 6 = .ok (.getfield 9, 3) := by decide +kernel
theorem d_B_copyFrom_9 : decode b_B_copyFrom 9 = .ok (.iconst 0, 1) := by decide +kernel
theorem d_B_copyFrom_10 : decode b_B_copyFrom 10 = .ok (.bipush 32, 2) := by decide +kernel
theorem d_B_copyFrom_12 : decode b_B_copyFrom 12 = .ok (.invokestatic 27, 3) := by decide +kernel
theorem d_B_copyFrom_15 : decode b_B_copyFrom 15 = .ok (.aload_n 0, 1) := by decide +kernel
theorem d_B_copyFrom_16 : decode b_B_copyFrom 16 = .ok (.aload_n 1, 1) := by decide +kernel
theorem d_B_copyFrom_17 : decode b_B_copyFrom 17 = .ok (.invokevirtual 33, 3) := by decide +kernel
theorem d_B_copyFrom_20 : decode b_B_copyFrom 20 = .ok (.return_, 1) := by decide +kernel
theorem d_S_dropLogUpTo_0 : decode b_S_dropLogUpTo 0 = .ok (.aload_n 0, 1) := by decide +kernel
theorem d_S_dropLogUpTo_1 : decode b_S_dropLogUpTo 1 = .ok (.getfield 28, 3) := by decide +kernel
theorem d_S_dropLogUpTo_4 : decode b_S_dropLogUpTo 4 = .ok (.invokevirtual 104, 3) := by decide +kernel
theorem d_S_dropLogUpTo_7 : decode b_S_dropLogUpTo 7 = .ok (.istore_n 2, 1) := by decide +kernel
theorem d_S_dropLogUpTo_8 : decode b_S_dropLogUpTo 8 = .ok (.iload_n 2, 1) := by decide +kernel
theorem d_S_dropLogUpTo_9 : decode b_S_dropLogUpTo 9 = .ok (.ifCond .le 36, 3) := by decide +kernel
theorem d_S_dropLogUpTo_12 : decode b_S_dropLogUpTo 12 = .ok (.aload_n 0, 1) := by decide +kernel
theorem d_S_dropLogUpTo_13 : decode b_S_dropLogUpTo 13 = .ok (.getfield 28, 3) := by decide +kernel
theorem d_S_dropLogUpTo_16 : decode b_S_dropLogUpTo 16 = .ok (.iconst 0, 1) := by decide +kernel
theorem d_S_dropLogUpTo_17 : decode b_S_dropLogUpTo 17 = .ok (.invokevirtual 198, 3) := by decide +kernel
theorem d_S_dropLogUpTo_20 : decode b_S_dropLogUpTo 20 = .ok (.checkcast 124, 3) := by decide +kernel
theorem d_S_dropLogUpTo_23 : decode b_S_dropLogUpTo 23 = .ok (.getfield 248, 3) := by decide +kernel
theorem d_S_dropLogUpTo_26 : decode b_S_dropLogUpTo 26 = .ok (.iload_n 1, 1) := by decide +kernel
theorem d_S_dropLogUpTo_27 : decode b_S_dropLogUpTo 27 = .ok (.if_icmp .gt 18, 3) := by decide +kernel
theorem d_S_dropLogUpTo_30 : decode b_S_dropLogUpTo 30 = .ok (.aload_n 0, 1) := by decide +kernel
theorem d_S_dropLogUpTo_31 : decode b_S_dropLogUpTo 31 = .ok (.getfield 28, 3) := by decide +kernel
theorem d_S_dropLogUpTo_34 : decode b_S_dropLogUpTo 34 = .ok (.iconst 0, 1) := by decide +kernel
theorem d_S_dropLogUpTo_35 : decode b_S_dropLogUpTo 35 = .ok (.invokevirtual 251, 3) := by decide +kernel
theorem d_S_dropLogUpTo_38 : decode b_S_dropLogUpTo 38 = .ok (.pop, 1) := by decide +kernel
theorem d_S_dropLogUpTo_39 : decode b_S_dropLogUpTo 39 = .ok (.iinc 2 (-1), 3) := by decide +kernel
theorem d_S_dropLogUpTo_42 : decode b_S_dropLogUpTo 42 = .ok (.goto (-34), 3) := by decide +kernel
theorem d_S_dropLogUpTo_45 : decode b_S_dropLogUpTo 45 = .ok (.return_, 1) := by decide +kernel
theorem d_C_settle_0 : decode b_C_settle 0 = .ok (.aload_n 0, 1) := by decide +kernel
theorem d_C_settle_1 : decode b_C_settle 1 = .ok (.getfield 9, 3) := by decide +kernel
theorem d_C_settle_4 : decode b_C_settle 4 = .ok (.iconst 1, 1) := by decide +kernel
theorem d_C_settle_5 : decode b_C_settle 5 = .ok (.if_icmp .ne 34, 3) := by decide +kernel
theorem d_C_settle_8 : decode b_C_settle 8 = .ok (.aload_n 0, 1) := by decide +kernel
theorem d_C_settle_9 : decode b_C_settle 9 = .ok (.getfield 18, 3) := by decide +kernel
theorem d_C_settle_12 : decode b_C_settle 12 = .ok (.ifCond .eq 27, 3) := by decide +kernel
theorem d_C_settle_15 : decode b_C_settle 15 = .ok (.aload_n 0, 1) := by decide +kernel
theorem d_C_settle_16 : decode b_C_settle 16 = .ok (.getfield 15, 3) := by decide +kernel
theorem d_C_settle_19 : decode b_C_settle 19 = .ok (.iload_n 1, 1) := by decide +kernel
theorem d_C_settle_20 : decode b_C_settle 20 = .ok (.if_icmp .gt 19, 3) := by decide +kernel
theorem d_C_settle_23 : decode b_C_settle 23 = .ok (.aload_n 0, 1) := by decide +kernel
theorem d_C_settle_24 : decode b_C_settle 24 = .ok (.aload_n 0, 1) := by decide +kernel
theorem d_C_settle_25 : decode b_C_settle 25 = .ok (.getfield 22, 3) := by decide +kernel
theorem d_C_settle_28 : decode b_C_settle 28 = .ok (.ifCond .eq 7, 3) := by decide +kernel
theorem d_C_settle_31 : decode b_C_settle 31 = .ok (.iconst 2, 1) := by decide +kernel
theorem d_C_settle_32 : decode b_C_settle 32 = .ok (.goto 4, 3) := by decide +kernel
theorem d_C_settle_35 : decode b_C_settle 35 = .ok (.iconst 3, 1) := by decide +kernel
theorem d_C_settle_36 : decode b_C_settle 36 = .ok (.putfield 9, 3) := by decide +kernel
theorem d_C_settle_39 : decode b_C_settle 39 = .ok (.return_, 1) := by decide +kernel
theorem d_S_raiseDurable_0 : decode b_S_raiseDurable 0 = .ok (.aload_n 0, 1) := by decide +kernel
theorem d_S_raiseDurable_1 : decode b_S_raiseDurable 1 = .ok (.aload_n 0, 1) := by decide +kernel
theorem d_S_raiseDurable_2 : decode b_S_raiseDurable 2 = .ok (.getfield 52, 3) := by decide +kernel
theorem d_S_raiseDurable_5 : decode b_S_raiseDurable 5 = .ok (.iload_n 1, 1) := by decide +kernel
theorem d_S_raiseDurable_6 : decode b_S_raiseDurable 6 = .ok (.invokestatic 61, 3) := by decide +kernel
theorem d_S_raiseDurable_9 : decode b_S_raiseDurable 9 = .ok (.putfield 52, 3) := by decide +kernel
theorem d_S_raiseDurable_12 : decode b_S_raiseDurable 12 = .ok (.aload_n 0, 1) := by decide +kernel
theorem d_S_raiseDurable_13 : decode b_S_raiseDurable 13 = .ok (.getfield 21, 3) := by decide +kernel
theorem d_S_raiseDurable_16 : decode b_S_raiseDurable 16 = .ok (.astore_n 2, 1) := by decide +kernel
theorem d_S_raiseDurable_17 : decode b_S_raiseDurable 17 = .ok (.aload_n 2, 1) := by decide +kernel
theorem d_S_raiseDurable_18 : decode b_S_raiseDurable 18 = .ok (.arraylength, 1) := by decide +kernel
theorem d_S_raiseDurable_19 : decode b_S_raiseDurable 19 = .ok (.istore_n 3, 1) := by decide +kernel
theorem d_S_raiseDurable_20 : decode b_S_raiseDurable 20 = .ok (.iconst 0, 1) := by decide +kernel
theorem d_S_raiseDurable_21 : decode b_S_raiseDurable 21 = .ok (.istore 4, 2) := by decide +kernel
theorem d_S_raiseDurable_23 : decode b_S_raiseDurable 23 = .ok (.iload 4, 2) := by decide +kernel
theorem d_S_raiseDurable_25 : decode b_S_raiseDurable 25 = .ok (.iload_n 3, 1) := by decide +kernel
theorem d_S_raiseDurable_26 : decode b_S_raiseDurable 26 = .ok (.if_icmp .ge 24, 3) := by decide +kernel
theorem d_S_raiseDurable_29 : decode b_S_raiseDurable 29 = .ok (.aload_n 2, 1) := by decide +kernel
theorem d_S_raiseDurable_30 : decode b_S_raiseDurable 30 = .ok (.iload 4, 2) := by decide +kernel
theorem d_S_raiseDurable_32 : decode b_S_raiseDurable 32 = .ok (.aaload, 1) := by decide +kernel
theorem d_S_raiseDurable_33 : decode b_S_raiseDurable 33 = .ok (.astore 5, 2) := by decide +kernel
theorem d_S_raiseDurable_35 : decode b_S_raiseDurable 35 = .ok (.aload 5, 2) := by decide +kernel
theorem d_S_raiseDurable_37 : decode b_S_raiseDurable 37 = .ok (.aload_n 0, 1) := by decide +kernel
theorem d_S_raiseDurable_38 : decode b_S_raiseDurable 38 = .ok (.getfield 52, 3) := by decide +kernel
theorem d_S_raiseDurable_41 : decode b_S_raiseDurable 41 = .ok (.invokevirtual 232, 3) := by decide +kernel
theorem d_S_raiseDurable_44 : decode b_S_raiseDurable 44 = .ok (.iinc 4 1, 3) := by decide +kernel
theorem d_S_raiseDurable_47 : decode b_S_raiseDurable 47 = .ok (.goto (-24), 3) := by decide +kernel
theorem d_S_raiseDurable_50 : decode b_S_raiseDurable 50 = .ok (.return_, 1) := by decide +kernel
theorem d_S_completeSnapshotIfCopied_0 : decode b_S_completeSnapshotIfCopied 0 = .ok (.aload_n 0, 1) := by decide +kernel
theorem d_S_completeSnapshotIfCopied_1 : decode b_S_completeSnapshotIfCopied 1 = .ok (.getfield 80, 3) := by decide +kernel
theorem d_S_completeSnapshotIfCopied_4 : decode b_S_completeSnapshotIfCopied 4 = .ok (.astore_n 1, 1) := by decide +kernel
theorem d_S_completeSnapshotIfCopied_5 : decode b_S_completeSnapshotIfCopied 5 = .ok (.aload_n 1, 1) := by decide +kernel
theorem d_S_completeSnapshotIfCopied_6 : decode b_S_completeSnapshotIfCopied 6 = .ok (.arraylength, 1) := by decide +kernel
theorem d_S_completeSnapshotIfCopied_7 : decode b_S_completeSnapshotIfCopied 7 = .ok (.istore_n 2, 1) := by decide +kernel
theorem d_S_completeSnapshotIfCopied_8 : decode b_S_completeSnapshotIfCopied 8 = .ok (.iconst 0, 1) := by decide +kernel
theorem d_S_completeSnapshotIfCopied_9 : decode b_S_completeSnapshotIfCopied 9 = .ok (.istore_n 3, 1) := by decide +kernel
theorem d_S_completeSnapshotIfCopied_10 : decode b_S_completeSnapshotIfCopied 10 = .ok (.iload_n 3, 1) := by decide +kernel
theorem d_S_completeSnapshotIfCopied_11 : decode b_S_completeSnapshotIfCopied 11 = .ok (.iload_n 2, 1) := by decide +kernel
theorem d_S_completeSnapshotIfCopied_12 : decode b_S_completeSnapshotIfCopied 12 = .ok (.if_icmp .ge 31, 3) := by decide +kernel
theorem d_S_completeSnapshotIfCopied_15 : decode b_S_completeSnapshotIfCopied 15 = .ok (.aload_n 1, 1) := by decide +kernel
theorem d_S_completeSnapshotIfCopied_16 : decode b_S_completeSnapshotIfCopied 16 = .ok (.iload_n 3, 1) := by decide +kernel
theorem d_S_completeSnapshotIfCopied_17 : decode b_S_completeSnapshotIfCopied 17 = .ok (.aaload, 1) := by decide +kernel
theorem d_S_completeSnapshotIfCopied_18 : decode b_S_completeSnapshotIfCopied 18 = .ok (.astore 4, 2) := by decide +kernel
theorem d_S_completeSnapshotIfCopied_20 : decode b_S_completeSnapshotIfCopied 20 = .ok (.aload 4, 2) := by decide +kernel
theorem d_S_completeSnapshotIfCopied_22 : decode b_S_completeSnapshotIfCopied 22 = .ok (.getfield 174, 3) := by decide +kernel
theorem d_S_completeSnapshotIfCopied_25 : decode b_S_completeSnapshotIfCopied 25 = .ok (.ifCond .eq 11, 3) := by decide +kernel
theorem d_S_completeSnapshotIfCopied_28 : decode b_S_completeSnapshotIfCopied 28 = .ok (.aload 4, 2) := by decide +kernel
theorem d_S_completeSnapshotIfCopied_30 : decode b_S_completeSnapshotIfCopied 30 = .ok (.getfield 177, 3) := by decide +kernel
theorem d_S_completeSnapshotIfCopied_33 : decode b_S_completeSnapshotIfCopied 33 = .ok (.ifCond .le 4, 3) := by decide +kernel
theorem d_S_completeSnapshotIfCopied_36 : decode b_S_completeSnapshotIfCopied 36 = .ok (.return_, 1) := by decide +kernel
theorem d_S_completeSnapshotIfCopied_37 : decode b_S_completeSnapshotIfCopied 37 = .ok (.iinc 3 1, 3) := by decide +kernel
theorem d_S_completeSnapshotIfCopied_40 : decode b_S_completeSnapshotIfCopied 40 = .ok (.goto (-30), 3) := by decide +kernel
theorem d_S_completeSnapshotIfCopied_43 : decode b_S_completeSnapshotIfCopied 43 = .ok (.aload_n 0, 1) := by decide +kernel
theorem d_S_completeSnapshotIfCopied_44 : decode b_S_completeSnapshotIfCopied 44 = .ok (.getfield 35, 3) := by decide +kernel
theorem d_S_completeSnapshotIfCopied_47 : decode b_S_completeSnapshotIfCopied 47 = .ok (.aload_n 0, 1) := by decide +kernel
theorem d_S_completeSnapshotIfCopied_48 : decode b_S_completeSnapshotIfCopied 48 = .ok (.getfield 43, 3) := by decide +kernel
theorem d_S_completeSnapshotIfCopied_51 : decode b_S_completeSnapshotIfCopied 51 = .ok (.invokevirtual 194, 3) := by decide +kernel
theorem d_S_completeSnapshotIfCopied_54 : decode b_S_completeSnapshotIfCopied 54 = .ok (.aload_n 0, 1) := by decide +kernel
theorem d_S_completeSnapshotIfCopied_55 : decode b_S_completeSnapshotIfCopied 55 = .ok (.aload_n 0, 1) := by decide +kernel
theorem d_S_completeSnapshotIfCopied_56 : decode b_S_completeSnapshotIfCopied 56 = .ok (.getfield 46, 3) := by decide +kernel
theorem d_S_completeSnapshotIfCopied_59 : decode b_S_completeSnapshotIfCopied 59 = .ok (.putfield 39, 3) := by decide +kernel
theorem d_S_completeSnapshotIfCopied_62 : decode b_S_completeSnapshotIfCopied 62 = .ok (.aload_n 0, 1) := by decide +kernel
theorem d_S_completeSnapshotIfCopied_63 : decode b_S_completeSnapshotIfCopied 63 = .ok (.iconst 0, 1) := by decide +kernel
theorem d_S_completeSnapshotIfCopied_64 : decode b_S_completeSnapshotIfCopied 64 = .ok (.putfield 46, 3) := by decide +kernel
theorem d_S_completeSnapshotIfCopied_67 : decode b_S_completeSnapshotIfCopied 67 = .ok (.aload_n 0, 1) := by decide +kernel
theorem d_S_completeSnapshotIfCopied_68 : decode b_S_completeSnapshotIfCopied 68 = .ok (.aload_n 0, 1) := by decide +kernel
theorem d_S_completeSnapshotIfCopied_69 : decode b_S_completeSnapshotIfCopied 69 = .ok (.getfield 39, 3) := by decide +kernel
theorem d_S_completeSnapshotIfCopied_72 : decode b_S_completeSnapshotIfCopied 72 = .ok (.invokevirtual 245, 3) := by decide +kernel
theorem d_S_completeSnapshotIfCopied_75 : decode b_S_completeSnapshotIfCopied 75 = .ok (.aload_n 0, 1) := by decide +kernel
theorem d_S_completeSnapshotIfCopied_76 : decode b_S_completeSnapshotIfCopied 76 = .ok (.aload_n 0, 1) := by decide +kernel
theorem d_S_completeSnapshotIfCopied_77 : decode b_S_completeSnapshotIfCopied 77 = .ok (.getfield 39, 3) := by decide +kernel
theorem d_S_completeSnapshotIfCopied_80 : decode b_S_completeSnapshotIfCopied 80 = .ok (.invokevirtual 171, 3) := by decide +kernel
theorem d_S_completeSnapshotIfCopied_83 : decode b_S_completeSnapshotIfCopied 83 = .ok (.return_, 1) := by decide +kernel
theorem d_S_comeToMarker_0 : decode b_S_comeToMarker 0 = .ok (.aload_n 0, 1) := by decide +kernel
theorem d_S_comeToMarker_1 : decode b_S_comeToMarker 1 = .ok (.getfield 80, 3) := by decide +kernel
theorem d_S_comeToMarker_4 : decode b_S_comeToMarker 4 = .ok (.iload_n 1, 1) := by decide +kernel
theorem d_S_comeToMarker_5 : decode b_S_comeToMarker 5 = .ok (.aaload, 1) := by decide +kernel
theorem d_S_comeToMarker_6 : decode b_S_comeToMarker 6 = .ok (.invokevirtual 165, 3) := by decide +kernel
theorem d_S_comeToMarker_9 : decode b_S_comeToMarker 9 = .ok (.aload_n 0, 1) := by decide +kernel
theorem d_S_comeToMarker_10 : decode b_S_comeToMarker 10 = .ok (.getfield 43, 3) := by decide +kernel
theorem d_S_comeToMarker_13 : decode b_S_comeToMarker 13 = .ok (.aload_n 0, 1) := by decide +kernel
theorem d_S_comeToMarker_14 : decode b_S_comeToMarker 14 = .ok (.getfield 72, 3) := by decide +kernel
theorem d_S_comeToMarker_17 : decode b_S_comeToMarker 17 = .ok (.getfield 191, 3) := by decide +kernel
theorem d_S_comeToMarker_20 : decode b_S_comeToMarker 20 = .ok (.iload_n 1, 1) := by decide +kernel
theorem d_S_comeToMarker_21 : decode b_S_comeToMarker 21 = .ok (.aload_n 0, 1) := by decide +kernel
theorem d_S_comeToMarker_22 : decode b_S_comeToMarker 22 = .ok (.getfield 64, 3) := by decide +kernel
theorem d_S_comeToMarker_25 : decode b_S_comeToMarker 25 = .ok (.invokevirtual 235, 3) := by decide +kernel
theorem d_S_comeToMarker_28 : decode b_S_comeToMarker 28 = .ok (.aload_n 0, 1) := by decide +kernel
theorem d_S_comeToMarker_29 : decode b_S_comeToMarker 29 = .ok (.getfield 43, 3) := by decide +kernel
theorem d_S_comeToMarker_32 : decode b_S_comeToMarker 32 = .ok (.aload_n 0, 1) := by decide +kernel
theorem d_S_comeToMarker_33 : decode b_S_comeToMarker 33 = .ok (.getfield 72, 3) := by decide +kernel
theorem d_S_comeToMarker_36 : decode b_S_comeToMarker 36 = .ok (.getfield 191, 3) := by decide +kernel
theorem d_S_comeToMarker_39 : decode b_S_comeToMarker 39 = .ok (.invokevirtual 239, 3) := by decide +kernel
theorem d_S_comeToMarker_42 : decode b_S_comeToMarker 42 = .ok (.aload_n 0, 1) := by decide +kernel
theorem d_S_comeToMarker_43 : decode b_S_comeToMarker 43 = .ok (.getfield 80, 3) := by decide +kernel
theorem d_S_comeToMarker_46 : decode b_S_comeToMarker 46 = .ok (.iload_n 1, 1) := by decide +kernel
theorem d_S_comeToMarker_47 : decode b_S_comeToMarker 47 = .ok (.aaload, 1) := by decide +kernel
theorem d_S_comeToMarker_48 : decode b_S_comeToMarker 48 = .ok (.aload_n 0, 1) := by decide +kernel
theorem d_S_comeToMarker_49 : decode b_S_comeToMarker 49 = .ok (.getfield 43, 3) := by decide +kernel
theorem d_S_comeToMarker_52 : decode b_S_comeToMarker 52 = .ok (.iload_n 1, 1) := by decide +kernel
theorem d_S_comeToMarker_53 : decode b_S_comeToMarker 53 = .ok (.aload_n 0, 1) := by decide +kernel
theorem d_S_comeToMarker_54 : decode b_S_comeToMarker 54 = .ok (.getfield 64, 3) := by decide +kernel
theorem d_S_comeToMarker_57 : decode b_S_comeToMarker 57 = .ok (.invokevirtual 220, 3) := by decide +kernel
theorem d_S_comeToMarker_60 : decode b_S_comeToMarker 60 = .ok (.invokevirtual 242, 3) := by decide +kernel
theorem d_S_comeToMarker_63 : decode b_S_comeToMarker 63 = .ok (.aload_n 0, 1) := by decide +kernel
theorem d_S_comeToMarker_64 : decode b_S_comeToMarker 64 = .ok (.invokevirtual 180, 3) := by decide +kernel
theorem d_S_comeToMarker_67 : decode b_S_comeToMarker 67 = .ok (.return_, 1) := by decide +kernel
theorem d_S_areAllStalled_0 : decode b_S_areAllStalled 0 = .ok (.aload_n 0, 1) := by decide +kernel
theorem d_S_areAllStalled_1 : decode b_S_areAllStalled 1 = .ok (.getfield 80, 3) := by decide +kernel
theorem d_S_areAllStalled_4 : decode b_S_areAllStalled 4 = .ok (.astore_n 1, 1) := by decide +kernel
theorem d_S_areAllStalled_5 : decode b_S_areAllStalled 5 = .ok (.aload_n 1, 1) := by decide +kernel
theorem d_S_areAllStalled_6 : decode b_S_areAllStalled 6 = .ok (.arraylength, 1) := by decide +kernel
theorem d_S_areAllStalled_7 : decode b_S_areAllStalled 7 = .ok (.istore_n 2, 1) := by decide +kernel
theorem d_S_areAllStalled_8 : decode b_S_areAllStalled 8 = .ok (.iconst 0, 1) := by decide +kernel
theorem d_S_areAllStalled_9 : decode b_S_areAllStalled 9 = .ok (.istore_n 3, 1) := by decide +kernel
theorem d_S_areAllStalled_10 : decode b_S_areAllStalled 10 = .ok (.iload_n 3, 1) := by decide +kernel
theorem d_S_areAllStalled_11 : decode b_S_areAllStalled 11 = .ok (.iload_n 2, 1) := by decide +kernel
theorem d_S_areAllStalled_12 : decode b_S_areAllStalled 12 = .ok (.if_icmp .ge 24, 3) := by decide +kernel
theorem d_S_areAllStalled_15 : decode b_S_areAllStalled 15 = .ok (.aload_n 1, 1) := by decide +kernel
theorem d_S_areAllStalled_16 : decode b_S_areAllStalled 16 = .ok (.iload_n 3, 1) := by decide +kernel
theorem d_S_areAllStalled_17 : decode b_S_areAllStalled 17 = .ok (.aaload, 1) := by decide +kernel
theorem d_S_areAllStalled_18 : decode b_S_areAllStalled 18 = .ok (.astore 4, 2) := by decide +kernel
theorem d_S_areAllStalled_20 : decode b_S_areAllStalled 20 = .ok (.aload 4, 2) := by decide +kernel
theorem d_S_areAllStalled_22 : decode b_S_areAllStalled 22 = .ok (.getfield 156, 3) := by decide +kernel
theorem d_S_areAllStalled_25 : decode b_S_areAllStalled 25 = .ok (.ifCond .ne 5, 3) := by decide +kernel
theorem d_S_areAllStalled_28 : decode b_S_areAllStalled 28 = .ok (.iconst 0, 1) := by decide +kernel
theorem d_S_areAllStalled_29 : decode b_S_areAllStalled 29 = .ok (.ireturn, 1) := by decide +kernel
theorem d_S_areAllStalled_30 : decode b_S_areAllStalled 30 = .ok (.iinc 3 1, 3) := by decide +kernel
theorem d_S_areAllStalled_33 : decode b_S_areAllStalled 33 = .ok (.goto (-23), 3) := by decide +kernel
theorem d_S_areAllStalled_36 : decode b_S_areAllStalled 36 = .ok (.iconst 1, 1) := by decide +kernel
theorem d_S_areAllStalled_37 : decode b_S_areAllStalled 37 = .ok (.ireturn, 1) := by decide +kernel
theorem d_S_passOnAtAllSites_0 : decode b_S_passOnAtAllSites 0 = .ok (.aload_n 0, 1) := by decide +kernel
theorem d_S_passOnAtAllSites_1 : decode b_S_passOnAtAllSites 1 = .ok (.getfield 80, 3) := by decide +kernel
theorem d_S_passOnAtAllSites_4 : decode b_S_passOnAtAllSites 4 = .ok (.astore_n 1, 1) := by decide +kernel
theorem d_S_passOnAtAllSites_5 : decode b_S_passOnAtAllSites 5 = .ok (.aload_n 1, 1) := by decide +kernel
theorem d_S_passOnAtAllSites_6 : decode b_S_passOnAtAllSites 6 = .ok (.arraylength, 1) := by decide +kernel
theorem d_S_passOnAtAllSites_7 : decode b_S_passOnAtAllSites 7 = .ok (.istore_n 2, 1) := by decide +kernel
theorem d_S_passOnAtAllSites_8 : decode b_S_passOnAtAllSites 8 = .ok (.iconst 0, 1) := by decide +kernel
theorem d_S_passOnAtAllSites_9 : decode b_S_passOnAtAllSites 9 = .ok (.istore_n 3, 1) := by decide +kernel
theorem d_S_passOnAtAllSites_10 : decode b_S_passOnAtAllSites 10 = .ok (.iload_n 3, 1) := by decide +kernel
theorem d_S_passOnAtAllSites_11 : decode b_S_passOnAtAllSites 11 = .ok (.iload_n 2, 1) := by decide +kernel
theorem d_S_passOnAtAllSites_12 : decode b_S_passOnAtAllSites 12 = .ok (.if_icmp .ge 19, 3) := by decide +kernel
theorem d_S_passOnAtAllSites_15 : decode b_S_passOnAtAllSites 15 = .ok (.aload_n 1, 1) := by decide +kernel
theorem d_S_passOnAtAllSites_16 : decode b_S_passOnAtAllSites 16 = .ok (.iload_n 3, 1) := by decide +kernel
theorem d_S_passOnAtAllSites_17 : decode b_S_passOnAtAllSites 17 = .ok (.aaload, 1) := by decide +kernel
theorem d_S_passOnAtAllSites_18 : decode b_S_passOnAtAllSites 18 = .ok (.astore 4, 2) := by decide +kernel
theorem d_S_passOnAtAllSites_20 : decode b_S_passOnAtAllSites 20 = .ok (.aload 4, 2) := by decide +kernel
theorem d_S_passOnAtAllSites_22 : decode b_S_passOnAtAllSites 22 = .ok (.invokevirtual 165, 3) := by decide +kernel
theorem d_S_passOnAtAllSites_25 : decode b_S_passOnAtAllSites 25 = .ok (.iinc 3 1, 3) := by decide +kernel
theorem d_S_passOnAtAllSites_28 : decode b_S_passOnAtAllSites 28 = .ok (.goto (-18), 3) := by decide +kernel
theorem d_S_passOnAtAllSites_31 : decode b_S_passOnAtAllSites 31 = .ok (.return_, 1) := by decide +kernel
theorem d_Ar_fill1_0 : decode b_Ar_fill1 0 = .ok (.iconst 0, 1) := by decide +kernel
theorem d_Ar_fill1_1 : decode b_Ar_fill1 1 = .ok (.istore_n 2, 1) := by decide +kernel
theorem d_Ar_fill1_2 : decode b_Ar_fill1 2 = .ok (.aload_n 0, 1) := by decide +kernel
theorem d_Ar_fill1_3 : decode b_Ar_fill1 3 = .ok (.arraylength, 1) := by decide +kernel
theorem d_Ar_fill1_4 : decode b_Ar_fill1 4 = .ok (.istore_n 3, 1) := by decide +kernel
theorem d_Ar_fill1_5 : decode b_Ar_fill1 5 = .ok (.iload_n 2, 1) := by decide +kernel
theorem d_Ar_fill1_6 : decode b_Ar_fill1 6 = .ok (.iload_n 3, 1) := by decide +kernel
theorem d_Ar_fill1_7 : decode b_Ar_fill1 7 = .ok (.if_icmp .ge 13, 3) := by decide +kernel
theorem d_Ar_fill1_10 : decode b_Ar_fill1 10 = .ok (.aload_n 0, 1) := by decide +kernel
theorem d_Ar_fill1_11 : decode b_Ar_fill1 11 = .ok (.iload_n 2, 1) := by decide +kernel
theorem d_Ar_fill1_12 : decode b_Ar_fill1 12 = .ok (.iload_n 1, 1) := by decide +kernel
theorem d_Ar_fill1_13 : decode b_Ar_fill1 13 = .ok (.iastore, 1) := by decide +kernel
theorem d_Ar_fill1_14 : decode b_Ar_fill1 14 = .ok (.iinc 2 1, 3) := by decide +kernel
theorem d_Ar_fill1_17 : decode b_Ar_fill1 17 = .ok (.goto (-12), 3) := by decide +kernel
theorem d_Ar_fill1_20 : decode b_Ar_fill1 20 = .ok (.return_, 1) := by decide +kernel
theorem d_R_begin_0 : decode b_R_begin 0 = .ok (.aload_n 0, 1) := by decide +kernel
theorem d_R_begin_1 : decode b_R_begin 1 = .ok (.getfield 18, 3) := by decide +kernel
theorem d_R_begin_4 : decode b_R_begin 4 = .ok (.aload_n 0, 1) := by decide +kernel
theorem d_R_begin_5 : decode b_R_begin 5 = .ok (.getfield 12, 3) := by decide +kernel
theorem d_R_begin_8 : decode b_R_begin 8 = .ok (.invokevirtual 77, 3) := by decide +kernel
theorem d_R_begin_11 : decode b_R_begin 11 = .ok (.aload_n 0, 1) := by decide +kernel
theorem d_R_begin_12 : decode b_R_begin 12 = .ok (.aload_n 1, 1) := by decide +kernel
theorem d_R_begin_13 : decode b_R_begin 13 = .ok (.getfield 45, 3) := by decide +kernel
theorem d_R_begin_16 : decode b_R_begin 16 = .ok (.getfield 81, 3) := by decide +kernel
theorem d_R_begin_19 : decode b_R_begin 19 = .ok (.ifCond .eq 7, 3) := by decide +kernel
theorem d_R_begin_22 : decode b_R_begin 22 = .ok (.iconst (-1), 1) := by decide +kernel
theorem d_R_begin_23 : decode b_R_begin 23 = .ok (.goto 11, 3) := by decide +kernel
theorem d_R_begin_26 : decode b_R_begin 26 = .ok (.aload_n 1, 1) := by decide +kernel
theorem d_R_begin_27 : decode b_R_begin 27 = .ok (.aload_n 0, 1) := by decide +kernel
theorem d_R_begin_28 : decode b_R_begin 28 = .ok (.getfield 38, 3) := by decide +kernel
theorem d_R_begin_31 : decode b_R_begin 31 = .ok (.invokevirtual 85, 3) := by decide +kernel
theorem d_R_begin_34 : decode b_R_begin 34 = .ok (.putfield 25, 3) := by decide +kernel
theorem d_R_begin_37 : decode b_R_begin 37 = .ok (.aload_n 0, 1) := by decide +kernel
theorem d_R_begin_38 : decode b_R_begin 38 = .ok (.getfield 21, 3) := by decide +kernel
theorem d_R_begin_41 : decode b_R_begin 41 = .ok (.iconst 0, 1) := by decide +kernel
theorem d_R_begin_42 : decode b_R_begin 42 = .ok (.invokestatic 88, 3) := by decide +kernel
theorem d_R_begin_45 : decode b_R_begin 45 = .ok (.aload_n 0, 1) := by decide +kernel
theorem d_R_begin_46 : decode b_R_begin 46 = .ok (.getfield 21, 3) := by decide +kernel
theorem d_R_begin_49 : decode b_R_begin 49 = .ok (.iconst 0, 1) := by decide +kernel
theorem d_R_begin_50 : decode b_R_begin 50 = .ok (.aload_n 1, 1) := by decide +kernel
theorem d_R_begin_51 : decode b_R_begin 51 = .ok (.getfield 94, 3) := by decide +kernel
theorem d_R_begin_54 : decode b_R_begin 54 = .ok (.iastore, 1) := by decide +kernel
theorem d_R_begin_55 : decode b_R_begin 55 = .ok (.aload_n 0, 1) := by decide +kernel
theorem d_R_begin_56 : decode b_R_begin 56 = .ok (.getfield 21, 3) := by decide +kernel
theorem d_R_begin_59 : decode b_R_begin 59 = .ok (.iconst 1, 1) := by decide +kernel
theorem d_R_begin_60 : decode b_R_begin 60 = .ok (.aload_n 1, 1) := by decide +kernel
theorem d_R_begin_61 : decode b_R_begin 61 = .ok (.getfield 97, 3) := by decide +kernel
theorem d_R_begin_64 : decode b_R_begin 64 = .ok (.iastore, 1) := by decide +kernel
theorem d_R_begin_65 : decode b_R_begin 65 = .ok (.aload_n 0, 1) := by decide +kernel
theorem d_R_begin_66 : decode b_R_begin 66 = .ok (.getfield 21, 3) := by decide +kernel
theorem d_R_begin_69 : decode b_R_begin 69 = .ok (.iconst 2, 1) := by decide +kernel
theorem d_R_begin_70 : decode b_R_begin 70 = .ok (.aload_n 1, 1) := by decide +kernel
theorem d_R_begin_71 : decode b_R_begin 71 = .ok (.getfield 100, 3) := by decide +kernel
theorem d_R_begin_74 : decode b_R_begin 74 = .ok (.iastore, 1) := by decide +kernel
theorem d_R_begin_75 : decode b_R_begin 75 = .ok (.aload_n 0, 1) := by decide +kernel
theorem d_R_begin_76 : decode b_R_begin 76 = .ok (.iconst 0, 1) := by decide +kernel
theorem d_R_begin_77 : decode b_R_begin 77 = .ok (.putfield 32, 3) := by decide +kernel
theorem d_R_begin_80 : decode b_R_begin 80 = .ok (.return_, 1) := by decide +kernel
theorem d_R_isReachable_0 : decode b_R_isReachable 0 = .ok (.iload_n 1, 1) := by decide +kernel
theorem d_R_isReachable_1 : decode b_R_isReachable 1 = .ok (.ifCond .lt 34, 3) := by decide +kernel
theorem d_R_isReachable_4 : decode b_R_isReachable 4 = .ok (.iload_n 1, 1) := by decide +kernel
theorem d_R_isReachable_5 : decode b_R_isReachable 5 = .ok (.bipush 32, 2) := by decide +kernel
theorem d_R_isReachable_7 : decode b_R_isReachable 7 = .ok (.if_icmp .ge 28, 3) := by decide +kernel
theorem d_R_isReachable_10 : decode b_R_isReachable 10 = .ok (.aload_n 0, 1) := by decide +kernel
theorem d_R_isReachable_11 : decode b_R_isReachable 11 = .ok (.getfield 25, 3) := by decide +kernel
theorem d_R_isReachable_14 : decode b_R_isReachable 14 = .ok (.iconst (-1), 1) := by decide +kernel
theorem d_R_isReachable_15 : decode b_R_isReachable 15 = .ok (.if_icmp .eq 16, 3) := by decide +kernel
theorem d_R_isReachable_18 : decode b_R_isReachable 18 = .ok (.iload_n 1, 1) := by decide +kernel
theorem d_R_isReachable_19 : decode b_R_isReachable 19 = .ok (.aload_n 0, 1) := by decide +kernel
theorem d_R_isReachable_20 : decode b_R_isReachable 20 = .ok (.getfield 38, 3) := by decide +kernel
theorem d_R_isReachable_23 : decode b_R_isReachable 23 = .ok (.irem, 1) := by decide +kernel
theorem d_R_isReachable_24 : decode b_R_isReachable 24 = .ok (.aload_n 0, 1) := by decide +kernel
theorem d_R_isReachable_25 : decode b_R_isReachable 25 = .ok (.getfield 25, 3) := by decide +kernel
theorem d_R_isReachable_28 : decode b_R_isReachable 28 = .ok (.if_icmp .ne 7, 3) := by decide +kernel
theorem d_R_isReachable_31 : decode b_R_isReachable 31 = .ok (.iconst 1, 1) := by decide +kernel
theorem d_R_isReachable_32 : decode b_R_isReachable 32 = .ok (.goto 4, 3) := by decide +kernel
theorem d_R_isReachable_35 : decode b_R_isReachable 35 = .ok (.iconst 0, 1) := by decide +kernel
theorem d_R_isReachable_36 : decode b_R_isReachable 36 = .ok (.ireturn, 1) := by decide +kernel
theorem d_R_isPresent_0 : decode b_R_isPresent 0 = .ok (.aload_n 0, 1) := by decide +kernel
theorem d_R_isPresent_1 : decode b_R_isPresent 1 = .ok (.iload_n 1, 1) := by decide +kernel
theorem d_R_isPresent_2 : decode b_R_isPresent 2 = .ok (.invokevirtual 137, 3) := by decide +kernel
theorem d_R_isPresent_5 : decode b_R_isPresent 5 = .ok (.ifCond .eq 23, 3) := by decide +kernel
theorem d_R_isPresent_8 : decode b_R_isPresent 8 = .ok (.aload_n 0, 1) := by decide +kernel
theorem d_R_isPresent_9 : decode b_R_isPresent 9 = .ok (.getfield 12, 3) := by decide +kernel
theorem d_R_isPresent_12 : decode b_R_isPresent 12 = .ok (.getfield 140, 3) := by decide +kernel
theorem d_R_isPresent_15 : decode b_R_isPresent 15 = .ok (.iload_n 1, 1) := by decide +kernel
theorem d_R_isPresent_16 : decode b_R_isPresent 16 = .ok (.laload, 1) := by decide +kernel
theorem d_R_isPresent_17 : decode b_R_isPresent 17 = .ok (.ldc2_w 123, 3) := by decide +kernel
theorem d_R_isPresent_20 : decode b_R_isPresent 20 = .ok (.lcmp, 1) := by decide +kernel
theorem d_R_isPresent_21 : decode b_R_isPresent 21 = .ok (.ifCond .eq 7, 3) := by decide +kernel
theorem d_R_isPresent_24 : decode b_R_isPresent 24 = .ok (.iconst 1, 1) := by decide +kernel
theorem d_R_isPresent_25 : decode b_R_isPresent 25 = .ok (.goto 4, 3) := by decide +kernel
theorem d_R_isPresent_28 : decode b_R_isPresent 28 = .ok (.iconst 0, 1) := by decide +kernel
theorem d_R_isPresent_29 : decode b_R_isPresent 29 = .ok (.ireturn, 1) := by decide +kernel
theorem d_R_readRow_0 : decode b_R_readRow 0 = .ok (.aload_n 0, 1) := by decide +kernel
theorem d_R_readRow_1 : decode b_R_readRow 1 = .ok (.getfield 21, 3) := by decide +kernel
theorem d_R_readRow_4 : decode b_R_readRow 4 = .ok (.aload_n 1, 1) := by decide +kernel
theorem d_R_readRow_5 : decode b_R_readRow 5 = .ok (.getfield 112, 3) := by decide +kernel
theorem d_R_readRow_8 : decode b_R_readRow 8 = .ok (.iaload, 1) := by decide +kernel
theorem d_R_readRow_9 : decode b_R_readRow 9 = .ok (.istore_n 2, 1) := by decide +kernel
theorem d_R_readRow_10 : decode b_R_readRow 10 = .ok (.aload_n 0, 1) := by decide +kernel
theorem d_R_readRow_11 : decode b_R_readRow 11 = .ok (.iload_n 2, 1) := by decide +kernel
theorem d_R_readRow_12 : decode b_R_readRow 12 = .ok (.invokevirtual 119, 3) := by decide +kernel
theorem d_R_readRow_15 : decode b_R_readRow 15 = .ok (.ifCond .ne 5, 3) := by decide +kernel
theorem d_R_readRow_18 : decode b_R_readRow 18 = .ok (.iconst (-1), 1) := by decide +kernel
theorem d_R_readRow_19 : decode b_R_readRow 19 = .ok (.ireturn, 1) := by decide +kernel
theorem d_R_readRow_20 : decode b_R_readRow 20 = .ok (.aload_n 0, 1) := by decide +kernel
theorem d_R_readRow_21 : decode b_R_readRow 21 = .ok (.getfield 21, 3) := by decide +kernel
theorem d_R_readRow_24 : decode b_R_readRow 24 = .ok (.aload_n 1, 1) := by decide +kernel
theorem d_R_readRow_25 : decode b_R_readRow 25 = .ok (.getfield 109, 3) := by decide +kernel
theorem d_R_readRow_28 : decode b_R_readRow 28 = .ok (.aload_n 0, 1) := by decide +kernel
theorem d_R_readRow_29 : decode b_R_readRow 29 = .ok (.getfield 12, 3) := by decide +kernel
theorem d_R_readRow_32 : decode b_R_readRow 32 = .ok (.getfield 140, 3) := by decide +kernel
theorem d_R_readRow_35 : decode b_R_readRow 35 = .ok (.iload_n 2, 1) := by decide +kernel
theorem d_R_readRow_36 : decode b_R_readRow 36 = .ok (.laload, 1) := by decide +kernel
theorem d_R_readRow_37 : decode b_R_readRow 37 = .ok (.l2i, 1) := by decide +kernel
theorem d_R_readRow_38 : decode b_R_readRow 38 = .ok (.iastore, 1) := by decide +kernel
theorem d_R_readRow_39 : decode b_R_readRow 39 = .ok (.iconst 0, 1) := by decide +kernel
theorem d_R_readRow_40 : decode b_R_readRow 40 = .ok (.ireturn, 1) := by decide +kernel
theorem d_R_writeRow_0 : decode b_R_writeRow 0 = .ok (.aload_n 0, 1) := by decide +kernel
theorem d_R_writeRow_1 : decode b_R_writeRow 1 = .ok (.iload_n 1, 1) := by decide +kernel
theorem d_R_writeRow_2 : decode b_R_writeRow 2 = .ok (.invokevirtual 137, 3) := by decide +kernel
theorem d_R_writeRow_5 : decode b_R_writeRow 5 = .ok (.ifCond .ne 5, 3) := by decide +kernel
theorem d_R_writeRow_8 : decode b_R_writeRow 8 = .ok (.iconst (-1), 1) := by decide +kernel
theorem d_R_writeRow_9 : decode b_R_writeRow 9 = .ok (.ireturn, 1) := by decide +kernel
theorem d_R_writeRow_10 : decode b_R_writeRow 10 = .ok (.aload_n 0, 1) := by decide +kernel
theorem d_R_writeRow_11 : decode b_R_writeRow 11 = .ok (.getfield 12, 3) := by decide +kernel
theorem d_R_writeRow_14 : decode b_R_writeRow 14 = .ok (.getfield 140, 3) := by decide +kernel
theorem d_R_writeRow_17 : decode b_R_writeRow 17 = .ok (.iload_n 1, 1) := by decide +kernel
theorem d_R_writeRow_18 : decode b_R_writeRow 18 = .ok (.lload_n 2, 1) := by decide +kernel
theorem d_R_writeRow_19 : decode b_R_writeRow 19 = .ok (.lastore, 1) := by decide +kernel
theorem d_R_writeRow_20 : decode b_R_writeRow 20 = .ok (.iconst 0, 1) := by decide +kernel
theorem d_R_writeRow_21 : decode b_R_writeRow 21 = .ok (.ireturn, 1) := by decide +kernel
theorem d_R_loadCell_0 : decode b_R_loadCell 0 = .ok (.aload_n 0, 1) := by decide +kernel
theorem d_R_loadCell_1 : decode b_R_loadCell 1 = .ok (.getfield 21, 3) := by decide +kernel
theorem d_R_loadCell_4 : decode b_R_loadCell 4 = .ok (.aload_n 1, 1) := by decide +kernel
theorem d_R_loadCell_5 : decode b_R_loadCell 5 = .ok (.getfield 112, 3) := by decide +kernel
theorem d_R_loadCell_8 : decode b_R_loadCell 8 = .ok (.iaload, 1) := by decide +kernel
theorem d_R_loadCell_9 : decode b_R_loadCell 9 = .ok (.istore_n 2, 1) := by decide +kernel
theorem d_R_loadCell_10 : decode b_R_loadCell 10 = .ok (.iload_n 2, 1) := by decide +kernel
theorem d_R_loadCell_11 : decode b_R_loadCell 11 = .ok (.bipush 8, 2) := by decide +kernel
theorem d_R_loadCell_13 : decode b_R_loadCell 13 = .ok (.invokestatic 144, 3) := by decide +kernel
theorem d_R_loadCell_16 : decode b_R_loadCell 16 = .ok (.ifCond .ne 5, 3) := by decide +kernel
theorem d_R_loadCell_19 : decode b_R_loadCell 19 = .ok (.iconst (-1), 1) := by decide +kernel
theorem d_R_loadCell_20 : decode b_R_loadCell 20 = .ok (.ireturn, 1) := by decide +kernel
theorem d_R_loadCell_21 : decode b_R_loadCell 21 = .ok (.aload_n 0, 1) := by decide +kernel
theorem d_R_loadCell_22 : decode b_R_loadCell 22 = .ok (.getfield 21, 3) := by decide +kernel
theorem d_R_loadCell_25 : decode b_R_loadCell 25 = .ok (.aload_n 1, 1) := by decide +kernel
theorem d_R_loadCell_26 : decode b_R_loadCell 26 = .ok (.getfield 109, 3) := by decide +kernel
theorem d_R_loadCell_29 : decode b_R_loadCell 29 = .ok (.aload_n 0, 1) := by decide +kernel
theorem d_R_loadCell_30 : decode b_R_loadCell 30 = .ok (.getfield 12, 3) := by decide +kernel
theorem d_R_loadCell_33 : decode b_R_loadCell 33 = .ok (.getfield 148, 3) := by decide +kernel
theorem d_R_loadCell_36 : decode b_R_loadCell 36 = .ok (.iload_n 2, 1) := by decide +kernel
theorem d_R_loadCell_37 : decode b_R_loadCell 37 = .ok (.iaload, 1) := by decide +kernel
theorem d_R_loadCell_38 : decode b_R_loadCell 38 = .ok (.iastore, 1) := by decide +kernel
theorem d_R_loadCell_39 : decode b_R_loadCell 39 = .ok (.iconst 0, 1) := by decide +kernel
theorem d_R_loadCell_40 : decode b_R_loadCell 40 = .ok (.ireturn, 1) := by decide +kernel
theorem d_R_storeCell_0 : decode b_R_storeCell 0 = .ok (.aload_n 0, 1) := by decide +kernel
theorem d_R_storeCell_1 : decode b_R_storeCell 1 = .ok (.getfield 21, 3) := by decide +kernel
theorem d_R_storeCell_4 : decode b_R_storeCell 4 = .ok (.aload_n 1, 1) := by decide +kernel
theorem d_R_storeCell_5 : decode b_R_storeCell 5 = .ok (.getfield 109, 3) := by decide +kernel
theorem d_R_storeCell_8 : decode b_R_storeCell 8 = .ok (.iaload, 1) := by decide +kernel
theorem d_R_storeCell_9 : decode b_R_storeCell 9 = .ok (.istore_n 2, 1) := by decide +kernel
theorem d_R_storeCell_10 : decode b_R_storeCell 10 = .ok (.iload_n 2, 1) := by decide +kernel
theorem d_R_storeCell_11 : decode b_R_storeCell 11 = .ok (.bipush 8, 2) := by decide +kernel
theorem d_R_storeCell_13 : decode b_R_storeCell 13 = .ok (.invokestatic 144, 3) := by decide +kernel
theorem d_R_storeCell_16 : decode b_R_storeCell 16 = .ok (.ifCond .ne 5, 3) := by decide +kernel
theorem d_R_storeCell_19 : decode b_R_storeCell 19 = .ok (.iconst (-1), 1) := by decide +kernel
theorem d_R_storeCell_20 : decode b_R_storeCell 20 = .ok (.ireturn, 1) := by decide +kernel
theorem d_R_storeCell_21 : decode b_R_storeCell 21 = .ok (.aload_n 0, 1) := by decide +kernel
theorem d_R_storeCell_22 : decode b_R_storeCell 22 = .ok (.getfield 12, 3) := by decide +kernel
theorem d_R_storeCell_25 : decode b_R_storeCell 25 = .ok (.getfield 148, 3) := by decide +kernel
theorem d_R_storeCell_28 : decode b_R_storeCell 28 = .ok (.iload_n 2, 1) := by decide +kernel
theorem d_R_storeCell_29 : decode b_R_storeCell 29 = .ok (.aload_n 0, 1) := by decide +kernel
theorem d_R_storeCell_30 : decode b_R_storeCell 30 = .ok (.getfield 21, 3) := by decide +kernel
theorem d_R_storeCell_33 : decode b_R_storeCell 33 = .ok (.aload_n 1, 1) := by decide +kernel
theorem d_R_storeCell_34 : decode b_R_storeCell 34 = .ok (.getfield 112, 3) := by decide +kernel
theorem d_R_storeCell_37 : decode b_R_storeCell 37 = .ok (.iaload, 1) := by decide +kernel
theorem d_R_storeCell_38 : decode b_R_storeCell 38 = .ok (.iastore, 1) := by decide +kernel
theorem d_R_storeCell_39 : decode b_R_storeCell 39 = .ok (.iconst 0, 1) := by decide +kernel
theorem d_R_storeCell_40 : decode b_R_storeCell 40 = .ok (.ireturn, 1) := by decide +kernel
theorem d_R_putOut_0 : decode b_R_putOut 0 = .ok (.aload_n 0, 1) := by decide +kernel
theorem d_R_putOut_1 : decode b_R_putOut 1 = .ok (.getfield 32, 3) := by decide +kernel
theorem d_R_putOut_4 : decode b_R_putOut 4 = .ok (.iconst 4, 1) := by decide +kernel
theorem d_R_putOut_5 : decode b_R_putOut 5 = .ok (.if_icmp .lt 5, 3) := by decide +kernel
theorem d_R_putOut_8 : decode b_R_putOut 8 = .ok (.iconst (-1), 1) := by decide +kernel
theorem d_R_putOut_9 : decode b_R_putOut 9 = .ok (.ireturn, 1) := by decide +kernel
theorem d_R_putOut_10 : decode b_R_putOut 10 = .ok (.aload_n 0, 1) := by decide +kernel
theorem d_R_putOut_11 : decode b_R_putOut 11 = .ok (.getfield 29, 3) := by decide +kernel
theorem d_R_putOut_14 : decode b_R_putOut 14 = .ok (.aload_n 0, 1) := by decide +kernel
theorem d_R_putOut_15 : decode b_R_putOut 15 = .ok (.getfield 32, 3) := by decide +kernel
theorem d_R_putOut_18 : decode b_R_putOut 18 = .ok (.iload_n 1, 1) := by decide +kernel
theorem d_R_putOut_19 : decode b_R_putOut 19 = .ok (.iastore, 1) := by decide +kernel
theorem d_R_putOut_20 : decode b_R_putOut 20 = .ok (.aload_n 0, 1) := by decide +kernel
theorem d_R_putOut_21 : decode b_R_putOut 21 = .ok (.dup, 1) := by decide +kernel
theorem d_R_putOut_22 : decode b_R_putOut 22 = .ok (.getfield 32, 3) := by decide +kernel
theorem d_R_putOut_25 : decode b_R_putOut 25 = .ok (.iconst 1, 1) := by decide +kernel
theorem d_R_putOut_26 : decode b_R_putOut 26 = .ok (.iadd, 1) := by decide +kernel
theorem d_R_putOut_27 : decode b_R_putOut 27 = .ok (.putfield 32, 3) := by decide +kernel
theorem d_R_putOut_30 : decode b_R_putOut 30 = .ok (.iconst 0, 1) := by decide +kernel
theorem d_R_putOut_31 : decode b_R_putOut 31 = .ok (.ireturn, 1) := by decide +kernel
theorem d_R_execute_0 : decode b_R_execute 0 = .ok (.aload_n 1, 1) := by decide +kernel
theorem d_R_execute_1 : decode b_R_execute 1 = .ok (.getfield 103, 3) := by decide +kernel
theorem d_R_execute_4 : decode b_R_execute 4 = .ok (.tableswitch 290 0 10 #[60, 66, 90, 134, 171, 201, 216, 243, 264, 270, 276], 60) := by decide +kernel
theorem d_R_execute_64 : decode b_R_execute 64 = .ok (.aload_n 0, 1) := by decide +kernel
theorem d_R_execute_65 : decode b_R_execute 65 = .ok (.aload_n 1, 1) := by decide +kernel
theorem d_R_execute_66 : decode b_R_execute 66 = .ok (.invokevirtual 106, 3) := by decide +kernel
theorem d_R_execute_69 : decode b_R_execute 69 = .ok (.ireturn, 1) := by decide +kernel
theorem d_R_execute_70 : decode b_R_execute 70 = .ok (.aload_n 0, 1) := by decide +kernel
theorem d_R_execute_71 : decode b_R_execute 71 = .ok (.aload_n 0, 1) := by decide +kernel
theorem d_R_execute_72 : decode b_R_execute 72 = .ok (.getfield 21, 3) := by decide +kernel
theorem d_R_execute_75 : decode b_R_execute 75 = .ok (.aload_n 1, 1) := by decide +kernel
theorem d_R_execute_76 : decode b_R_execute 76 = .ok (.getfield 109, 3) := by decide +kernel
theorem d_R_execute_79 : decode b_R_execute 79 = .ok (.iaload, 1) := by decide +kernel
theorem d_R_execute_80 : decode b_R_execute 80 = .ok (.aload_n 0, 1) := by decide +kernel
theorem d_R_execute_81 : decode b_R_execute 81 = .ok (.getfield 21, 3) := by decide +kernel
theorem d_R_execute_84 : decode b_R_execute 84 = .ok (.aload_n 1, 1) := by decide +kernel
theorem d_R_execute_85 : decode b_R_execute 85 = .ok (.getfield 112, 3) := by decide +kernel
theorem d_R_execute_88 : decode b_R_execute 88 = .ok (.iaload, 1) := by decide +kernel
theorem d_R_execute_89 : decode b_R_execute 89 = .ok (.i2l, 1) := by decide +kernel
theorem d_R_execute_90 : decode b_R_execute 90 = .ok (.invokevirtual 115, 3) := by decide +kernel
theorem d_R_execute_93 : decode b_R_execute 93 = .ok (.ireturn, 1) := by decide +kernel
theorem d_R_execute_94 : decode b_R_execute 94 = .ok (.aload_n 0, 1) := by decide +kernel
theorem d_R_execute_95 : decode b_R_execute 95 = .ok (.aload_n 0, 1) := by decide +kernel
theorem d_R_execute_96 : decode b_R_execute 96 = .ok (.getfield 21, 3) := by decide +kernel
theorem d_R_execute_99 : decode b_R_execute 99 = .ok (.aload_n 1, 1) := by decide +kernel
theorem d_R_execute_100 : decode b_R_execute 100 = .ok (.getfield 109, 3) := by decide +kernel
theorem d_R_execute_103 : decode b_R_execute 103 = .ok (.iaload, 1) := by decide +kernel
theorem d_R_execute_104 : decode b_R_execute 104 = .ok (.invokevirtual 119, 3) := by decide +kernel
theorem d_R_execute_107 : decode b_R_execute 107 = .ok (.ifCond .eq 7, 3) := by decide +kernel
theorem d_R_execute_110 : decode b_R_execute 110 = .ok (.iconst (-1), 1) := by decide +kernel
theorem d_R_execute_111 : decode b_R_execute 111 = .ok (.goto 26, 3) := by decide +kernel
theorem d_R_execute_114 : decode b_R_execute 114 = .ok (.aload_n 0, 1) := by decide +kernel
theorem d_R_execute_115 : decode b_R_execute 115 = .ok (.aload_n 0, 1) := by decide +kernel
theorem d_R_execute_116 : decode b_R_execute 116 = .ok (.getfield 21, 3) := by decide +kernel
theorem d_R_execute_119 : decode b_R_execute 119 = .ok (.aload_n 1, 1) := by decide +kernel
theorem d_R_execute_120 : decode b_R_execute 120 = .ok (.getfield 109, 3) := by decide +kernel
theorem d_R_execute_123 : decode b_R_execute 123 = .ok (.iaload, 1) := by decide +kernel
theorem d_R_execute_124 : decode b_R_execute 124 = .ok (.aload_n 0, 1) := by decide +kernel
theorem d_R_execute_125 : decode b_R_execute 125 = .ok (.getfield 21, 3) := by decide +kernel
theorem d_R_execute_128 : decode b_R_execute 128 = .ok (.aload_n 1, 1) := by decide +kernel
theorem d_R_execute_129 : decode b_R_execute 129 = .ok (.getfield 112, 3) := by decide +kernel
theorem d_R_execute_132 : decode b_R_execute 132 = .ok (.iaload, 1) := by decide +kernel
theorem d_R_execute_133 : decode b_R_execute 133 = .ok (.i2l, 1) := by decide +kernel
theorem d_R_execute_134 : decode b_R_execute 134 = .ok (.invokevirtual 115, 3) := by decide +kernel
theorem d_R_execute_137 : decode b_R_execute 137 = .ok (.ireturn, 1) := by decide +kernel
theorem d_R_execute_138 : decode b_R_execute 138 = .ok (.aload_n 0, 1) := by decide +kernel
theorem d_R_execute_139 : decode b_R_execute 139 = .ok (.aload_n 0, 1) := by decide +kernel
theorem d_R_execute_140 : decode b_R_execute 140 = .ok (.getfield 21, 3) := by decide +kernel
theorem d_R_execute_143 : decode b_R_execute 143 = .ok (.aload_n 1, 1) := by decide +kernel
theorem d_R_execute_144 : decode b_R_execute 144 = .ok (.getfield 109, 3) := by decide +kernel
theorem d_R_execute_147 : decode b_R_execute 147 = .ok (.iaload, 1) := by decide +kernel
theorem d_R_execute_148 : decode b_R_execute 148 = .ok (.invokevirtual 119, 3) := by decide +kernel
theorem d_R_execute_151 : decode b_R_execute 151 = .ok (.ifCond .eq 22, 3) := by decide +kernel
theorem d_R_execute_154 : decode b_R_execute 154 = .ok (.aload_n 0, 1) := by decide +kernel
theorem d_R_execute_155 : decode b_R_execute 155 = .ok (.aload_n 0, 1) := by decide +kernel
theorem d_R_execute_156 : decode b_R_execute 156 = .ok (.getfield 21, 3) := by decide +kernel
theorem d_R_execute_159 : decode b_R_execute 159 = .ok (.aload_n 1, 1) := by decide +kernel
theorem d_R_execute_160 : decode b_R_execute 160 = .ok (.getfield 109, 3) := by decide +kernel
theorem d_R_execute_163 : decode b_R_execute 163 = .ok (.iaload, 1) := by decide +kernel
theorem d_R_execute_164 : decode b_R_execute 164 = .ok (.ldc2_w 123, 3) := by decide +kernel
theorem d_R_execute_167 : decode b_R_execute 167 = .ok (.invokevirtual 115, 3) := by decide +kernel
theorem d_R_execute_170 : decode b_R_execute 170 = .ok (.goto 4, 3) := by decide +kernel
theorem d_R_execute_173 : decode b_R_execute 173 = .ok (.iconst (-1), 1) := by decide +kernel
theorem d_R_execute_174 : decode b_R_execute 174 = .ok (.ireturn, 1) := by decide +kernel
theorem d_R_execute_175 : decode b_R_execute 175 = .ok (.aload_n 0, 1) := by decide +kernel
theorem d_R_execute_176 : decode b_R_execute 176 = .ok (.getfield 21, 3) := by decide +kernel
theorem d_R_execute_179 : decode b_R_execute 179 = .ok (.aload_n 1, 1) := by decide +kernel
theorem d_R_execute_180 : decode b_R_execute 180 = .ok (.getfield 109, 3) := by decide +kernel
theorem d_R_execute_183 : decode b_R_execute 183 = .ok (.aload_n 0, 1) := by decide +kernel
theorem d_R_execute_184 : decode b_R_execute 184 = .ok (.getfield 21, 3) := by decide +kernel
theorem d_R_execute_187 : decode b_R_execute 187 = .ok (.aload_n 1, 1) := by decide +kernel
theorem d_R_execute_188 : decode b_R_execute 188 = .ok (.getfield 112, 3) := by decide +kernel
theorem d_R_execute_191 : decode b_R_execute 191 = .ok (.iaload, 1) := by decide +kernel
theorem d_R_execute_192 : decode b_R_execute 192 = .ok (.aload_n 0, 1) := by decide +kernel
theorem d_R_execute_193 : decode b_R_execute 193 = .ok (.getfield 21, 3) := by decide +kernel
theorem d_R_execute_196 : decode b_R_execute 196 = .ok (.aload_n 1, 1) := by decide +kernel
theorem d_R_execute_197 : decode b_R_execute 197 = .ok (.getfield 125, 3) := by decide +kernel
theorem d_R_execute_200 : decode b_R_execute 200 = .ok (.iaload, 1) := by decide +kernel
theorem d_R_execute_201 : decode b_R_execute 201 = .ok (.iadd, 1) := by decide +kernel
theorem d_R_execute_202 : decode b_R_execute 202 = .ok (.iastore, 1) := by decide +kernel
theorem d_R_execute_203 : decode b_R_execute 203 = .ok (.iconst 0, 1) := by decide +kernel
theorem d_R_execute_204 : decode b_R_execute 204 = .ok (.ireturn, 1) := by decide +kernel
theorem d_R_execute_205 : decode b_R_execute 205 = .ok (.aload_n 0, 1) := by decide +kernel
theorem d_R_execute_206 : decode b_R_execute 206 = .ok (.getfield 21, 3) := by decide +kernel
theorem d_R_execute_209 : decode b_R_execute 209 = .ok (.aload_n 1, 1) := by decide +kernel
theorem d_R_execute_210 : decode b_R_execute 210 = .ok (.getfield 109, 3) := by decide +kernel
theorem d_R_execute_213 : decode b_R_execute 213 = .ok (.aload_n 1, 1) := by decide +kernel
theorem d_R_execute_214 : decode b_R_execute 214 = .ok (.getfield 112, 3) := by decide +kernel
theorem d_R_execute_217 : decode b_R_execute 217 = .ok (.iastore, 1) := by decide +kernel
theorem d_R_execute_218 : decode b_R_execute 218 = .ok (.iconst 0, 1) := by decide +kernel
theorem d_R_execute_219 : decode b_R_execute 219 = .ok (.ireturn, 1) := by decide +kernel
theorem d_R_execute_220 : decode b_R_execute 220 = .ok (.aload_n 0, 1) := by decide +kernel
theorem d_R_execute_221 : decode b_R_execute 221 = .ok (.getfield 21, 3) := by decide +kernel
theorem d_R_execute_224 : decode b_R_execute 224 = .ok (.aload_n 1, 1) := by decide +kernel
theorem d_R_execute_225 : decode b_R_execute 225 = .ok (.getfield 109, 3) := by decide +kernel
theorem d_R_execute_228 : decode b_R_execute 228 = .ok (.iaload, 1) := by decide +kernel
theorem d_R_execute_229 : decode b_R_execute 229 = .ok (.aload_n 0, 1) := by decide +kernel
theorem d_R_execute_230 : decode b_R_execute 230 = .ok (.getfield 21, 3) := by decide +kernel
theorem d_R_execute_233 : decode b_R_execute 233 = .ok (.aload_n 1, 1) := by decide +kernel
theorem d_R_execute_234 : decode b_R_execute 234 = .ok (.getfield 112, 3) := by decide +kernel
theorem d_R_execute_237 : decode b_R_execute 237 = .ok (.iaload, 1) := by decide +kernel
theorem d_R_execute_238 : decode b_R_execute 238 = .ok (.if_icmp .ge 7, 3) := by decide +kernel
theorem d_R_execute_241 : decode b_R_execute 241 = .ok (.iconst (-1), 1) := by decide +kernel
theorem d_R_execute_242 : decode b_R_execute 242 = .ok (.goto 4, 3) := by decide +kernel
theorem d_R_execute_245 : decode b_R_execute 245 = .ok (.iconst 0, 1) := by decide +kernel
theorem d_R_execute_246 : decode b_R_execute 246 = .ok (.ireturn, 1) := by decide +kernel
theorem d_R_execute_247 : decode b_R_execute 247 = .ok (.aload_n 0, 1) := by decide +kernel
theorem d_R_execute_248 : decode b_R_execute 248 = .ok (.getfield 21, 3) := by decide +kernel
theorem d_R_execute_251 : decode b_R_execute 251 = .ok (.aload_n 1, 1) := by decide +kernel
theorem d_R_execute_252 : decode b_R_execute 252 = .ok (.getfield 109, 3) := by decide +kernel
theorem d_R_execute_255 : decode b_R_execute 255 = .ok (.iaload, 1) := by decide +kernel
theorem d_R_execute_256 : decode b_R_execute 256 = .ok (.ifCond .ne 10, 3) := by decide +kernel
theorem d_R_execute_259 : decode b_R_execute 259 = .ok (.aload_n 1, 1) := by decide +kernel
theorem d_R_execute_260 : decode b_R_execute 260 = .ok (.getfield 112, 3) := by decide +kernel
theorem d_R_execute_263 : decode b_R_execute 263 = .ok (.goto 4, 3) := by decide +kernel
theorem d_R_execute_266 : decode b_R_execute 266 = .ok (.iconst 0, 1) := by decide +kernel
theorem d_R_execute_267 : decode b_R_execute 267 = .ok (.ireturn, 1) := by decide +kernel
theorem d_R_execute_268 : decode b_R_execute 268 = .ok (.aload_n 0, 1) := by decide +kernel
theorem d_R_execute_269 : decode b_R_execute 269 = .ok (.aload_n 1, 1) := by decide +kernel
theorem d_R_execute_270 : decode b_R_execute 270 = .ok (.invokevirtual 128, 3) := by decide +kernel
theorem d_R_execute_273 : decode b_R_execute 273 = .ok (.ireturn, 1) := by decide +kernel
theorem d_R_execute_274 : decode b_R_execute 274 = .ok (.aload_n 0, 1) := by decide +kernel
theorem d_R_execute_275 : decode b_R_execute 275 = .ok (.aload_n 1, 1) := by decide +kernel
theorem d_R_execute_276 : decode b_R_execute 276 = .ok (.invokevirtual 131, 3) := by decide +kernel
theorem d_R_execute_279 : decode b_R_execute 279 = .ok (.ireturn, 1) := by decide +kernel
theorem d_R_execute_280 : decode b_R_execute 280 = .ok (.aload_n 0, 1) := by decide +kernel
theorem d_R_execute_281 : decode b_R_execute 281 = .ok (.aload_n 0, 1) := by decide +kernel
theorem d_R_execute_282 : decode b_R_execute 282 = .ok (.getfield 21, 3) := by decide +kernel
theorem d_R_execute_285 : decode b_R_execute 285 = .ok (.aload_n 1, 1) := by decide +kernel
theorem d_R_execute_286 : decode b_R_execute 286 = .ok (.getfield 109, 3) := by decide +kernel
theorem d_R_execute_289 : decode b_R_execute 289 = .ok (.iaload, 1) := by decide +kernel
theorem d_R_execute_290 : decode b_R_execute 290 = .ok (.invokevirtual 134, 3) := by decide +kernel
theorem d_R_execute_293 : decode b_R_execute 293 = .ok (.ireturn, 1) := by decide +kernel
theorem d_R_execute_294 : decode b_R_execute 294 = .ok (.iconst (-1), 1) := by decide +kernel
theorem d_R_execute_295 : decode b_R_execute 295 = .ok (.ireturn, 1) := by decide +kernel
end
section
theorem d_R_abort_0 : decode b_R_abort 0 = .ok (.aload_n 0, 1) := by decide +kernel
theorem d_R_abort_1 : decode b_R_abort 1 = .ok (.getfield 12, 3) := by decide +kernel
theorem d_R_abort_4 : decode b_R_abort 4 = .ok (.aload_n 0, 1) := by decide +kernel
theorem d_R_abort_5 : decode b_R_abort 5 = .ok (.getfield 18, 3) := by decide +kernel
theorem d_R_abort_8 : decode b_R_abort 8 = .ok (.invokevirtual 77, 3) := by decide +kernel
theorem d_R_abort_11 : decode b_R_abort 11 = .ok (.aload_n 0, 1) := by decide +kernel
theorem d_R_abort_12 : decode b_R_abort 12 = .ok (.iconst 0, 1) := by decide +kernel
theorem d_R_abort_13 : decode b_R_abort 13 = .ok (.putfield 32, 3) := by decide +kernel
theorem d_R_abort_16 : decode b_R_abort 16 = .ok (.aload_n 0, 1) := by decide +kernel
theorem d_R_abort_17 : decode b_R_abort 17 = .ok (.iload_n 1, 1) := by decide +kernel
theorem d_R_abort_18 : decode b_R_abort 18 = .ok (.putfield 35, 3) := by decide +kernel
theorem d_R_abort_21 : decode b_R_abort 21 = .ok (.return_, 1) := by decide +kernel
theorem d_R_run_0 : decode b_R_run 0 = .ok (.aload_n 0, 1) := by decide +kernel
theorem d_R_run_1 : decode b_R_run 1 = .ok (.aload_n 1, 1) := by decide +kernel
theorem d_R_run_2 : decode b_R_run 2 = .ok (.invokevirtual 41, 3) := by decide +kernel
theorem d_R_run_5 : decode b_R_run 5 = .ok (.aload_n 1, 1) := by decide +kernel
theorem d_R_run_6 : decode b_R_run 6 = .ok (.getfield 45, 3) := by decide +kernel
theorem d_R_run_9 : decode b_R_run 9 = .ok (.getfield 51, 3) := by decide +kernel
theorem d_R_run_12 : decode b_R_run 12 = .ok (.astore_n 2, 1) := by decide +kernel
theorem d_R_run_13 : decode b_R_run 13 = .ok (.iconst 0, 1) := by decide +kernel
theorem d_R_run_14 : decode b_R_run 14 = .ok (.istore_n 3, 1) := by decide +kernel
theorem d_R_run_15 : decode b_R_run 15 = .ok (.iconst 0, 1) := by decide +kernel
theorem d_R_run_16 : decode b_R_run 16 = .ok (.istore 4, 2) := by decide +kernel
theorem d_R_run_18 : decode b_R_run 18 = .ok (.iload 4, 2) := by decide +kernel
theorem d_R_run_20 : decode b_R_run 20 = .ok (.aload_n 2, 1) := by decide +kernel
theorem d_R_run_21 : decode b_R_run 21 = .ok (.invokevirtual 57, 3) := by decide +kernel
theorem d_R_run_24 : decode b_R_run 24 = .ok (.if_icmp .ge 55, 3) := by decide +kernel
theorem d_R_run_27 : decode b_R_run 27 = .ok (.iload 4, 2) := by decide +kernel
theorem d_R_run_29 : decode b_R_run 29 = .ok (.iload_n 3, 1) := by decide +kernel
theorem d_R_run_30 : decode b_R_run 30 = .ok (.if_icmp .ge 6, 3) := by decide +kernel
theorem d_R_run_33 : decode b_R_run 33 = .ok (.goto 40, 3) := by decide +kernel
theorem d_R_run_36 : decode b_R_run 36 = .ok (.aload_n 0, 1) := by decide +kernel
theorem d_R_run_37 : decode b_R_run 37 = .ok (.aload_n 2, 1) := by decide +kernel
theorem d_R_run_38 : decode b_R_run 38 = .ok (.iload 4, 2) := by decide +kernel
theorem d_R_run_40 : decode b_R_run 40 = .ok (.invokevirtual 63, 3) := by decide +kernel
theorem d_R_run_43 : decode b_R_run 43 = .ok (.checkcast 67, 3) := by decide +kernel
theorem d_R_run_46 : decode b_R_run 46 = .ok (.invokevirtual 69, 3) := by decide +kernel
theorem d_R_run_49 : decode b_R_run 49 = .ok (.istore 5, 2) := by decide +kernel
theorem d_R_run_51 : decode b_R_run 51 = .ok (.iload 5, 2) := by decide +kernel
theorem d_R_run_53 : decode b_R_run 53 = .ok (.iconst (-1), 1) := by decide +kernel
theorem d_R_run_54 : decode b_R_run 54 = .ok (.if_icmp .ne 11, 3) := by decide +kernel
theorem d_R_run_57 : decode b_R_run 57 = .ok (.aload_n 0, 1) := by decide +kernel
theorem d_R_run_58 : decode b_R_run 58 = .ok (.iload 4, 2) := by decide +kernel
theorem d_R_run_60 : decode b_R_run 60 = .ok (.invokevirtual 73, 3) := by decide +kernel
theorem d_R_run_63 : decode b_R_run 63 = .ok (.iconst 0, 1) := by decide +kernel
theorem d_R_run_64 : decode b_R_run 64 = .ok (.ireturn, 1) := by decide +kernel
theorem d_R_run_65 : decode b_R_run 65 = .ok (.iload 4, 2) := by decide +kernel
theorem d_R_run_67 : decode b_R_run 67 = .ok (.iconst 1, 1) := by decide +kernel
theorem d_R_run_68 : decode b_R_run 68 = .ok (.iadd, 1) := by decide +kernel
theorem d_R_run_69 : decode b_R_run 69 = .ok (.iload 5, 2) := by decide +kernel
theorem d_R_run_71 : decode b_R_run 71 = .ok (.iadd, 1) := by decide +kernel
theorem d_R_run_72 : decode b_R_run 72 = .ok (.istore_n 3, 1) := by decide +kernel
theorem d_R_run_73 : decode b_R_run 73 = .ok (.iinc 4 1, 3) := by decide +kernel
theorem d_R_run_76 : decode b_R_run 76 = .ok (.goto (-58), 3) := by decide +kernel
theorem d_R_run_79 : decode b_R_run 79 = .ok (.iconst 1, 1) := by decide +kernel
theorem d_R_run_80 : decode b_R_run 80 = .ok (.ireturn, 1) := by decide +kernel
theorem d_C_finish_0 : decode b_C_finish 0 = .ok (.aload_n 0, 1) := by decide +kernel
theorem d_C_finish_1 : decode b_C_finish 1 = .ok (.iconst 1, 1) := by decide +kernel
theorem d_C_finish_2 : decode b_C_finish 2 = .ok (.putfield 18, 3) := by decide +kernel
theorem d_C_finish_5 : decode b_C_finish 5 = .ok (.aload_n 0, 1) := by decide +kernel
theorem d_C_finish_6 : decode b_C_finish 6 = .ok (.iload_n 1, 1) := by decide +kernel
theorem d_C_finish_7 : decode b_C_finish 7 = .ok (.putfield 22, 3) := by decide +kernel
theorem d_C_finish_10 : decode b_C_finish 10 = .ok (.aload_n 0, 1) := by decide +kernel
theorem d_C_finish_11 : decode b_C_finish 11 = .ok (.aload_n 2, 1) := by decide +kernel
theorem d_C_finish_12 : decode b_C_finish 12 = .ok (.getfield 35, 3) := by decide +kernel
theorem d_C_finish_15 : decode b_C_finish 15 = .ok (.putfield 25, 3) := by decide +kernel
theorem d_C_finish_18 : decode b_C_finish 18 = .ok (.aload_n 0, 1) := by decide +kernel
theorem d_C_finish_19 : decode b_C_finish 19 = .ok (.aload_n 2, 1) := by decide +kernel
theorem d_C_finish_20 : decode b_C_finish 20 = .ok (.getfield 38, 3) := by decide +kernel
theorem d_C_finish_23 : decode b_C_finish 23 = .ok (.putfield 28, 3) := by decide +kernel
theorem d_C_finish_26 : decode b_C_finish 26 = .ok (.aload_n 2, 1) := by decide +kernel
theorem d_C_finish_27 : decode b_C_finish 27 = .ok (.getfield 39, 3) := by decide +kernel
theorem d_C_finish_30 : decode b_C_finish 30 = .ok (.iconst 0, 1) := by decide +kernel
theorem d_C_finish_31 : decode b_C_finish 31 = .ok (.aload_n 0, 1) := by decide +kernel
theorem d_C_finish_32 : decode b_C_finish 32 = .ok (.getfield 31, 3) := by decide +kernel
theorem d_C_finish_35 : decode b_C_finish 35 = .ok (.iconst 0, 1) := by decide +kernel
theorem d_C_finish_36 : decode b_C_finish 36 = .ok (.iconst 4, 1) := by decide +kernel
theorem d_C_finish_37 : decode b_C_finish 37 = .ok (.invokestatic 40, 3) := by decide +kernel
theorem d_C_finish_40 : decode b_C_finish 40 = .ok (.return_, 1) := by decide +kernel
theorem d_S_finish_0 : decode b_S_finish 0 = .ok (.aload_n 0, 1) := by decide +kernel
theorem d_S_finish_1 : decode b_S_finish 1 = .ok (.getfield 21, 3) := by decide +kernel
theorem d_S_finish_4 : decode b_S_finish 4 = .ok (.aload_n 1, 1) := by decide +kernel
theorem d_S_finish_5 : decode b_S_finish 5 = .ok (.getfield 226, 3) := by decide +kernel
theorem d_S_finish_8 : decode b_S_finish 8 = .ok (.aaload, 1) := by decide +kernel
theorem d_S_finish_9 : decode b_S_finish 9 = .ok (.astore_n 2, 1) := by decide +kernel
theorem d_S_finish_10 : decode b_S_finish 10 = .ok (.aload_n 2, 1) := by decide +kernel
theorem d_S_finish_11 : decode b_S_finish 11 = .ok (.aload_n 0, 1) := by decide +kernel
theorem d_S_finish_12 : decode b_S_finish 12 = .ok (.getfield 72, 3) := by decide +kernel
theorem d_S_finish_15 : decode b_S_finish 15 = .ok (.aload_n 1, 1) := by decide +kernel
theorem d_S_finish_16 : decode b_S_finish 16 = .ok (.invokevirtual 202, 3) := by decide +kernel
theorem d_S_finish_19 : decode b_S_finish 19 = .ok (.aload_n 0, 1) := by decide +kernel
theorem d_S_finish_20 : decode b_S_finish 20 = .ok (.getfield 72, 3) := by decide +kernel
theorem d_S_finish_23 : decode b_S_finish 23 = .ok (.invokevirtual 229, 3) := by decide +kernel
theorem d_S_finish_26 : decode b_S_finish 26 = .ok (.aload_n 2, 1) := by decide +kernel
theorem d_S_finish_27 : decode b_S_finish 27 = .ok (.aload_n 0, 1) := by decide +kernel
theorem d_S_finish_28 : decode b_S_finish 28 = .ok (.getfield 52, 3) := by decide +kernel
theorem d_S_finish_31 : decode b_S_finish 31 = .ok (.invokevirtual 232, 3) := by decide +kernel
theorem d_S_finish_34 : decode b_S_finish 34 = .ok (.return_, 1) := by decide +kernel
theorem d_S_step_0 : decode b_S_step 0 = .ok (.iload_n 1, 1) := by decide +kernel
theorem d_S_step_1 : decode b_S_step 1 = .ok (.aload_n 0, 1) := by decide +kernel
theorem d_S_step_2 : decode b_S_step 2 = .ok (.getfield 64, 3) := by decide +kernel
theorem d_S_step_5 : decode b_S_step 5 = .ok (.invokestatic 85, 3) := by decide +kernel
theorem d_S_step_8 : decode b_S_step 8 = .ok (.ifCond .ne 5, 3) := by decide +kernel
theorem d_S_step_11 : decode b_S_step 11 = .ok (.iconst (-1), 1) := by decide +kernel
theorem d_S_step_12 : decode b_S_step 12 = .ok (.ireturn, 1) := by decide +kernel
theorem d_S_step_13 : decode b_S_step 13 = .ok (.aload_n 0, 1) := by decide +kernel
theorem d_S_step_14 : decode b_S_step 14 = .ok (.getfield 80, 3) := by decide +kernel
theorem d_S_step_17 : decode b_S_step 17 = .ok (.iload_n 1, 1) := by decide +kernel
theorem d_S_step_18 : decode b_S_step 18 = .ok (.aaload, 1) := by decide +kernel
theorem d_S_step_19 : decode b_S_step 19 = .ok (.invokevirtual 149, 3) := by decide +kernel
theorem d_S_step_22 : decode b_S_step 22 = .ok (.astore_n 2, 1) := by decide +kernel
theorem d_S_step_23 : decode b_S_step 23 = .ok (.aload_n 2, 1) := by decide +kernel
theorem d_S_step_24 : decode b_S_step 24 = .ok (.ifnonnull 5, 3) := by decide +kernel
theorem d_S_step_27 : decode b_S_step 27 = .ok (.iconst 0, 1) := by decide +kernel
theorem d_S_step_28 : decode b_S_step 28 = .ok (.ireturn, 1) := by decide +kernel
theorem d_S_step_29 : decode b_S_step 29 = .ok (.aload_n 2, 1) := by decide +kernel
theorem d_S_step_30 : decode b_S_step 30 = .ok (.getfield 132, 3) := by decide +kernel
theorem d_S_step_33 : decode b_S_step 33 = .ok (.ifnonnull 10, 3) := by decide +kernel
theorem d_S_step_36 : decode b_S_step 36 = .ok (.aload_n 0, 1) := by decide +kernel
theorem d_S_step_37 : decode b_S_step 37 = .ok (.iload_n 1, 1) := by decide +kernel
theorem d_S_step_38 : decode b_S_step 38 = .ok (.invokevirtual 153, 3) := by decide +kernel
theorem d_S_step_41 : decode b_S_step 41 = .ok (.iconst 3, 1) := by decide +kernel
theorem d_S_step_42 : decode b_S_step 42 = .ok (.ireturn, 1) := by decide +kernel
theorem d_S_step_43 : decode b_S_step 43 = .ok (.aload_n 2, 1) := by decide +kernel
theorem d_S_step_44 : decode b_S_step 44 = .ok (.getfield 132, 3) := by decide +kernel
theorem d_S_step_47 : decode b_S_step 47 = .ok (.getfield 135, 3) := by decide +kernel
theorem d_S_step_50 : decode b_S_step 50 = .ok (.ifCond .eq 29, 3) := by decide +kernel
theorem d_S_step_53 : decode b_S_step 53 = .ok (.aload_n 0, 1) := by decide +kernel
theorem d_S_step_54 : decode b_S_step 54 = .ok (.getfield 80, 3) := by decide +kernel
theorem d_S_step_57 : decode b_S_step 57 = .ok (.iload_n 1, 1) := by decide +kernel
theorem d_S_step_58 : decode b_S_step 58 = .ok (.aaload, 1) := by decide +kernel
theorem d_S_step_59 : decode b_S_step 59 = .ok (.iconst 1, 1) := by decide +kernel
theorem d_S_step_60 : decode b_S_step 60 = .ok (.putfield 156, 3) := by decide +kernel
theorem d_S_step_63 : decode b_S_step 63 = .ok (.aload_n 0, 1) := by decide +kernel
theorem d_S_step_64 : decode b_S_step 64 = .ok (.invokevirtual 159, 3) := by decide +kernel
theorem d_S_step_67 : decode b_S_step 67 = .ok (.ifCond .ne 5, 3) := by decide +kernel
theorem d_S_step_70 : decode b_S_step 70 = .ok (.iconst 2, 1) := by decide +kernel
theorem d_S_step_71 : decode b_S_step 71 = .ok (.ireturn, 1) := by decide +kernel
theorem d_S_step_72 : decode b_S_step 72 = .ok (.aload_n 0, 1) := by decide +kernel
theorem d_S_step_73 : decode b_S_step 73 = .ok (.invokevirtual 162, 3) := by decide +kernel
theorem d_S_step_76 : decode b_S_step 76 = .ok (.goto 12, 3) := by decide +kernel
theorem d_S_step_79 : decode b_S_step 79 = .ok (.aload_n 0, 1) := by decide +kernel
theorem d_S_step_80 : decode b_S_step 80 = .ok (.getfield 80, 3) := by decide +kernel
theorem d_S_step_83 : decode b_S_step 83 = .ok (.iload_n 1, 1) := by decide +kernel
theorem d_S_step_84 : decode b_S_step 84 = .ok (.aaload, 1) := by decide +kernel
theorem d_S_step_85 : decode b_S_step 85 = .ok (.invokevirtual 165, 3) := by decide +kernel
theorem d_S_step_88 : decode b_S_step 88 = .ok (.aload_n 0, 1) := by decide +kernel
theorem d_S_step_89 : decode b_S_step 89 = .ok (.aload_n 2, 1) := by decide +kernel
theorem d_S_step_90 : decode b_S_step 90 = .ok (.invokevirtual 168, 3) := by decide +kernel
theorem d_S_step_93 : decode b_S_step 93 = .ok (.iconst 1, 1) := by decide +kernel
theorem d_S_step_94 : decode b_S_step 94 = .ok (.ireturn, 1) := by decide +kernel
theorem d_S_flush_0 : decode b_S_flush 0 = .ok (.aload_n 0, 1) := by decide +kernel
theorem d_S_flush_1 : decode b_S_flush 1 = .ok (.aload_n 0, 1) := by decide +kernel
theorem d_S_flush_2 : decode b_S_flush 2 = .ok (.getfield 49, 3) := by decide +kernel
theorem d_S_flush_5 : decode b_S_flush 5 = .ok (.invokevirtual 171, 3) := by decide +kernel
theorem d_S_flush_8 : decode b_S_flush 8 = .ok (.aload_n 0, 1) := by decide +kernel
theorem d_S_flush_9 : decode b_S_flush 9 = .ok (.getfield 52, 3) := by decide +kernel
theorem d_S_flush_12 : decode b_S_flush 12 = .ok (.ireturn, 1) := by decide +kernel
theorem d_S_snapshot_0 : decode b_S_snapshot 0 = .ok (.aload_n 0, 1) := by decide +kernel
theorem d_S_snapshot_1 : decode b_S_snapshot 1 = .ok (.getfield 46, 3) := by decide +kernel
theorem d_S_snapshot_4 : decode b_S_snapshot 4 = .ok (.ifCond .eq 5, 3) := by decide +kernel
theorem d_S_snapshot_7 : decode b_S_snapshot 7 = .ok (.iconst (-1), 1) := by decide +kernel
theorem d_S_snapshot_8 : decode b_S_snapshot 8 = .ok (.ireturn, 1) := by decide +kernel
theorem d_S_snapshot_9 : decode b_S_snapshot 9 = .ok (.aload_n 0, 1) := by decide +kernel
theorem d_S_snapshot_10 : decode b_S_snapshot 10 = .ok (.dup, 1) := by decide +kernel
theorem d_S_snapshot_11 : decode b_S_snapshot 11 = .ok (.getfield 49, 3) := by decide +kernel
theorem d_S_snapshot_14 : decode b_S_snapshot 14 = .ok (.iconst 1, 1) := by decide +kernel
theorem d_S_snapshot_15 : decode b_S_snapshot 15 = .ok (.iadd, 1) := by decide +kernel
theorem d_S_snapshot_16 : decode b_S_snapshot 16 = .ok (.putfield 49, 3) := by decide +kernel
theorem d_S_snapshot_19 : decode b_S_snapshot 19 = .ok (.aload_n 0, 1) := by decide +kernel
theorem d_S_snapshot_20 : decode b_S_snapshot 20 = .ok (.aload_n 0, 1) := by decide +kernel
theorem d_S_snapshot_21 : decode b_S_snapshot 21 = .ok (.getfield 49, 3) := by decide +kernel
theorem d_S_snapshot_24 : decode b_S_snapshot 24 = .ok (.putfield 46, 3) := by decide +kernel
theorem d_S_snapshot_27 : decode b_S_snapshot 27 = .ok (.aload_n 0, 1) := by decide +kernel
theorem d_S_snapshot_28 : decode b_S_snapshot 28 = .ok (.getfield 80, 3) := by decide +kernel
theorem d_S_snapshot_31 : decode b_S_snapshot 31 = .ok (.astore_n 1, 1) := by decide +kernel
theorem d_S_snapshot_32 : decode b_S_snapshot 32 = .ok (.aload_n 1, 1) := by decide +kernel
theorem d_S_snapshot_33 : decode b_S_snapshot 33 = .ok (.arraylength, 1) := by decide +kernel
theorem d_S_snapshot_34 : decode b_S_snapshot 34 = .ok (.istore_n 2, 1) := by decide +kernel
theorem d_S_snapshot_35 : decode b_S_snapshot 35 = .ok (.iconst 0, 1) := by decide +kernel
theorem d_S_snapshot_36 : decode b_S_snapshot 36 = .ok (.istore_n 3, 1) := by decide +kernel
theorem d_S_snapshot_37 : decode b_S_snapshot 37 = .ok (.iload_n 3, 1) := by decide +kernel
theorem d_S_snapshot_38 : decode b_S_snapshot 38 = .ok (.iload_n 2, 1) := by decide +kernel
theorem d_S_snapshot_39 : decode b_S_snapshot 39 = .ok (.if_icmp .ge 20, 3) := by decide +kernel
theorem d_S_snapshot_42 : decode b_S_snapshot 42 = .ok (.aload_n 1, 1) := by decide +kernel
theorem d_S_snapshot_43 : decode b_S_snapshot 43 = .ok (.iload_n 3, 1) := by decide +kernel
theorem d_S_snapshot_44 : decode b_S_snapshot 44 = .ok (.aaload, 1) := by decide +kernel
theorem d_S_snapshot_45 : decode b_S_snapshot 45 = .ok (.astore 4, 2) := by decide +kernel
theorem d_S_snapshot_47 : decode b_S_snapshot 47 = .ok (.aload 4, 2) := by decide +kernel
theorem d_S_snapshot_49 : decode b_S_snapshot 49 = .ok (.iconst 0, 1) := by decide +kernel
theorem d_S_snapshot_50 : decode b_S_snapshot 50 = .ok (.putfield 174, 3) := by decide +kernel
theorem d_S_snapshot_53 : decode b_S_snapshot 53 = .ok (.iinc 3 1, 3) := by decide +kernel
theorem d_S_snapshot_56 : decode b_S_snapshot 56 = .ok (.goto (-19), 3) := by decide +kernel
theorem d_S_snapshot_59 : decode b_S_snapshot 59 = .ok (.aload_n 0, 1) := by decide +kernel
theorem d_S_snapshot_60 : decode b_S_snapshot 60 = .ok (.new 124, 3) := by decide +kernel
theorem d_S_snapshot_63 : decode b_S_snapshot 63 = .ok (.dup, 1) := by decide +kernel
theorem d_S_snapshot_64 : decode b_S_snapshot 64 = .ok (.aload_n 0, 1) := by decide +kernel
theorem d_S_snapshot_65 : decode b_S_snapshot 65 = .ok (.getfield 49, 3) := by decide +kernel
theorem d_S_snapshot_68 : decode b_S_snapshot 68 = .ok (.iconst (-1), 1) := by decide +kernel
theorem d_S_snapshot_69 : decode b_S_snapshot 69 = .ok (.aconst_null, 1) := by decide +kernel
theorem d_S_snapshot_70 : decode b_S_snapshot 70 = .ok (.iconst 0, 1) := by decide +kernel
theorem d_S_snapshot_71 : decode b_S_snapshot 71 = .ok (.iconst 0, 1) := by decide +kernel
theorem d_S_snapshot_72 : decode b_S_snapshot 72 = .ok (.iconst 0, 1) := by decide +kernel
theorem d_S_snapshot_73 : decode b_S_snapshot 73 = .ok (.invokespecial 126, 3) := by decide +kernel
theorem d_S_snapshot_76 : decode b_S_snapshot 76 = .ok (.invokevirtual 138, 3) := by decide +kernel
theorem d_S_snapshot_79 : decode b_S_snapshot 79 = .ok (.aload_n 0, 1) := by decide +kernel
theorem d_S_snapshot_80 : decode b_S_snapshot 80 = .ok (.getfield 49, 3) := by decide +kernel
theorem d_S_snapshot_83 : decode b_S_snapshot 83 = .ok (.ireturn, 1) := by decide +kernel
theorem d_S_scan_0 : decode b_S_scan 0 = .ok (.iload_n 1, 1) := by decide +kernel
theorem d_S_scan_1 : decode b_S_scan 1 = .ok (.aload_n 0, 1) := by decide +kernel
theorem d_S_scan_2 : decode b_S_scan 2 = .ok (.getfield 64, 3) := by decide +kernel
theorem d_S_scan_5 : decode b_S_scan 5 = .ok (.invokestatic 85, 3) := by decide +kernel
theorem d_S_scan_8 : decode b_S_scan 8 = .ok (.ifCond .eq 22, 3) := by decide +kernel
theorem d_S_scan_11 : decode b_S_scan 11 = .ok (.aload_n 0, 1) := by decide +kernel
theorem d_S_scan_12 : decode b_S_scan 12 = .ok (.getfield 46, 3) := by decide +kernel
theorem d_S_scan_15 : decode b_S_scan 15 = .ok (.ifCond .eq 15, 3) := by decide +kernel
theorem d_S_scan_18 : decode b_S_scan 18 = .ok (.aload_n 0, 1) := by decide +kernel
theorem d_S_scan_19 : decode b_S_scan 19 = .ok (.getfield 80, 3) := by decide +kernel
theorem d_S_scan_22 : decode b_S_scan 22 = .ok (.iload_n 1, 1) := by decide +kernel
theorem d_S_scan_23 : decode b_S_scan 23 = .ok (.aaload, 1) := by decide +kernel
theorem d_S_scan_24 : decode b_S_scan 24 = .ok (.getfield 174, 3) := by decide +kernel
theorem d_S_scan_27 : decode b_S_scan 27 = .ok (.ifCond .ne 5, 3) := by decide +kernel
theorem d_S_scan_30 : decode b_S_scan 30 = .ok (.iconst (-1), 1) := by decide +kernel
theorem d_S_scan_31 : decode b_S_scan 31 = .ok (.ireturn, 1) := by decide +kernel
theorem d_S_scan_32 : decode b_S_scan 32 = .ok (.aload_n 0, 1) := by decide +kernel
theorem d_S_scan_33 : decode b_S_scan 33 = .ok (.getfield 80, 3) := by decide +kernel
theorem d_S_scan_36 : decode b_S_scan 36 = .ok (.iload_n 1, 1) := by decide +kernel
theorem d_S_scan_37 : decode b_S_scan 37 = .ok (.aaload, 1) := by decide +kernel
theorem d_S_scan_38 : decode b_S_scan 38 = .ok (.astore_n 3, 1) := by decide +kernel
theorem d_S_scan_39 : decode b_S_scan 39 = .ok (.aload_n 3, 1) := by decide +kernel
theorem d_S_scan_40 : decode b_S_scan 40 = .ok (.dup, 1) := by decide +kernel
theorem d_S_scan_41 : decode b_S_scan 41 = .ok (.getfield 177, 3) := by decide +kernel
theorem d_S_scan_44 : decode b_S_scan 44 = .ok (.iload_n 2, 1) := by decide +kernel
theorem d_S_scan_45 : decode b_S_scan 45 = .ok (.iconst 0, 1) := by decide +kernel
theorem d_S_scan_46 : decode b_S_scan 46 = .ok (.invokestatic 61, 3) := by decide +kernel
theorem d_S_scan_49 : decode b_S_scan 49 = .ok (.aload_n 3, 1) := by decide +kernel
theorem d_S_scan_50 : decode b_S_scan 50 = .ok (.getfield 177, 3) := by decide +kernel
theorem d_S_scan_53 : decode b_S_scan 53 = .ok (.invokestatic 55, 3) := by decide +kernel
theorem d_S_scan_56 : decode b_S_scan 56 = .ok (.isub, 1) := by decide +kernel
theorem d_S_scan_57 : decode b_S_scan 57 = .ok (.putfield 177, 3) := by decide +kernel
theorem d_S_scan_60 : decode b_S_scan 60 = .ok (.aload_n 0, 1) := by decide +kernel
theorem d_S_scan_61 : decode b_S_scan 61 = .ok (.invokevirtual 180, 3) := by decide +kernel
theorem d_S_scan_64 : decode b_S_scan 64 = .ok (.aload_n 3, 1) := by decide +kernel
theorem d_S_scan_65 : decode b_S_scan 65 = .ok (.getfield 177, 3) := by decide +kernel
theorem d_S_scan_68 : decode b_S_scan 68 = .ok (.ireturn, 1) := by decide +kernel
theorem d_Q_restart_0 : decode b_Q_restart 0 = .ok (.aload_n 0, 1) := by decide +kernel
theorem d_Q_restart_1 : decode b_Q_restart 1 = .ok (.getfield 10, 3) := by decide +kernel
theorem d_Q_restart_4 : decode b_Q_restart 4 = .ok (.invokevirtual 40, 3) := by decide +kernel
theorem d_Q_restart_7 : decode b_Q_restart 7 = .ok (.aload_n 0, 1) := by decide +kernel
theorem d_Q_restart_8 : decode b_Q_restart 8 = .ok (.iconst 0, 1) := by decide +kernel
theorem d_Q_restart_9 : decode b_Q_restart 9 = .ok (.putfield 16, 3) := by decide +kernel
theorem d_Q_restart_12 : decode b_Q_restart 12 = .ok (.return_, 1) := by decide +kernel
theorem d_C_lose_0 : decode b_C_lose 0 = .ok (.aload_n 0, 1) := by decide +kernel
theorem d_C_lose_1 : decode b_C_lose 1 = .ok (.getfield 9, 3) := by decide +kernel
theorem d_C_lose_4 : decode b_C_lose 4 = .ok (.iconst 1, 1) := by decide +kernel
theorem d_C_lose_5 : decode b_C_lose 5 = .ok (.if_icmp .ne 8, 3) := by decide +kernel
theorem d_C_lose_8 : decode b_C_lose 8 = .ok (.aload_n 0, 1) := by decide +kernel
theorem d_C_lose_9 : decode b_C_lose 9 = .ok (.iconst 4, 1) := by decide +kernel
theorem d_C_lose_10 : decode b_C_lose 10 = .ok (.putfield 9, 3) := by decide +kernel
theorem d_C_lose_13 : decode b_C_lose 13 = .ok (.return_, 1) := by decide +kernel
theorem d_S_dropLogAbove_0 : decode b_S_dropLogAbove 0 = .ok (.aload_n 0, 1) := by decide +kernel
theorem d_S_dropLogAbove_1 : decode b_S_dropLogAbove 1 = .ok (.getfield 28, 3) := by decide +kernel
theorem d_S_dropLogAbove_4 : decode b_S_dropLogAbove 4 = .ok (.invokevirtual 104, 3) := by decide +kernel
theorem d_S_dropLogAbove_7 : decode b_S_dropLogAbove 7 = .ok (.iconst 1, 1) := by decide +kernel
theorem d_S_dropLogAbove_8 : decode b_S_dropLogAbove 8 = .ok (.isub, 1) := by decide +kernel
theorem d_S_dropLogAbove_9 : decode b_S_dropLogAbove 9 = .ok (.istore_n 2, 1) := by decide +kernel
theorem d_S_dropLogAbove_10 : decode b_S_dropLogAbove 10 = .ok (.iload_n 2, 1) := by decide +kernel
theorem d_S_dropLogAbove_11 : decode b_S_dropLogAbove 11 = .ok (.ifCond .lt 36, 3) := by decide +kernel
theorem d_S_dropLogAbove_14 : decode b_S_dropLogAbove 14 = .ok (.aload_n 0, 1) := by decide +kernel
theorem d_S_dropLogAbove_15 : decode b_S_dropLogAbove 15 = .ok (.getfield 28, 3) := by decide +kernel
theorem d_S_dropLogAbove_18 : decode b_S_dropLogAbove 18 = .ok (.iload_n 2, 1) := by decide +kernel
theorem d_S_dropLogAbove_19 : decode b_S_dropLogAbove 19 = .ok (.invokevirtual 198, 3) := by decide +kernel
theorem d_S_dropLogAbove_22 : decode b_S_dropLogAbove 22 = .ok (.checkcast 124, 3) := by decide +kernel
theorem d_S_dropLogAbove_25 : decode b_S_dropLogAbove 25 = .ok (.getfield 248, 3) := by decide +kernel
theorem d_S_dropLogAbove_28 : decode b_S_dropLogAbove 28 = .ok (.iload_n 1, 1) := by decide +kernel
theorem d_S_dropLogAbove_29 : decode b_S_dropLogAbove 29 = .ok (.if_icmp .le 18, 3) := by decide +kernel
theorem d_S_dropLogAbove_32 : decode b_S_dropLogAbove 32 = .ok (.aload_n 0, 1) := by decide +kernel
theorem d_S_dropLogAbove_33 : decode b_S_dropLogAbove 33 = .ok (.getfield 28, 3) := by decide +kernel
theorem d_S_dropLogAbove_36 : decode b_S_dropLogAbove 36 = .ok (.iload_n 2, 1) := by decide +kernel
theorem d_S_dropLogAbove_37 : decode b_S_dropLogAbove 37 = .ok (.invokevirtual 251, 3) := by decide +kernel
theorem d_S_dropLogAbove_40 : decode b_S_dropLogAbove 40 = .ok (.pop, 1) := by decide +kernel
theorem d_S_dropLogAbove_41 : decode b_S_dropLogAbove 41 = .ok (.iinc 2 (-1), 3) := by decide +kernel
theorem d_S_dropLogAbove_44 : decode b_S_dropLogAbove 44 = .ok (.goto (-34), 3) := by decide +kernel
theorem d_S_dropLogAbove_47 : decode b_S_dropLogAbove 47 = .ok (.return_, 1) := by decide +kernel
theorem d_S_crash_0 : decode b_S_crash 0 = .ok (.aload_n 0, 1) := by decide +kernel
theorem d_S_crash_1 : decode b_S_crash 1 = .ok (.getfield 80, 3) := by decide +kernel
theorem d_S_crash_4 : decode b_S_crash 4 = .ok (.astore_n 1, 1) := by decide +kernel
theorem d_S_crash_5 : decode b_S_crash 5 = .ok (.aload_n 1, 1) := by decide +kernel
theorem d_S_crash_6 : decode b_S_crash 6 = .ok (.arraylength, 1) := by decide +kernel
theorem d_S_crash_7 : decode b_S_crash 7 = .ok (.istore_n 2, 1) := by decide +kernel
theorem d_S_crash_8 : decode b_S_crash 8 = .ok (.iconst 0, 1) := by decide +kernel
theorem d_S_crash_9 : decode b_S_crash 9 = .ok (.istore_n 3, 1) := by decide +kernel
theorem d_S_crash_10 : decode b_S_crash 10 = .ok (.iload_n 3, 1) := by decide +kernel
theorem d_S_crash_11 : decode b_S_crash 11 = .ok (.iload_n 2, 1) := by decide +kernel
theorem d_S_crash_12 : decode b_S_crash 12 = .ok (.if_icmp .ge 19, 3) := by decide +kernel
theorem d_S_crash_15 : decode b_S_crash 15 = .ok (.aload_n 1, 1) := by decide +kernel
theorem d_S_crash_16 : decode b_S_crash 16 = .ok (.iload_n 3, 1) := by decide +kernel
theorem d_S_crash_17 : decode b_S_crash 17 = .ok (.aaload, 1) := by decide +kernel
theorem d_S_crash_18 : decode b_S_crash 18 = .ok (.astore 4, 2) := by decide +kernel
theorem d_S_crash_20 : decode b_S_crash 20 = .ok (.aload 4, 2) := by decide +kernel
theorem d_S_crash_22 : decode b_S_crash 22 = .ok (.invokevirtual 183, 3) := by decide +kernel
theorem d_S_crash_25 : decode b_S_crash 25 = .ok (.iinc 3 1, 3) := by decide +kernel
theorem d_S_crash_28 : decode b_S_crash 28 = .ok (.goto (-18), 3) := by decide +kernel
theorem d_S_crash_31 : decode b_S_crash 31 = .ok (.aload_n 0, 1) := by decide +kernel
theorem d_S_crash_32 : decode b_S_crash 32 = .ok (.iconst 0, 1) := by decide +kernel
theorem d_S_crash_33 : decode b_S_crash 33 = .ok (.putfield 46, 3) := by decide +kernel
theorem d_S_crash_36 : decode b_S_crash 36 = .ok (.aload_n 0, 1) := by decide +kernel
theorem d_S_crash_37 : decode b_S_crash 37 = .ok (.getfield 21, 3) := by decide +kernel
theorem d_S_crash_40 : decode b_S_crash 40 = .ok (.astore_n 1, 1) := by decide +kernel
theorem d_S_crash_41 : decode b_S_crash 41 = .ok (.aload_n 1, 1) := by decide +kernel
theorem d_S_crash_42 : decode b_S_crash 42 = .ok (.arraylength, 1) := by decide +kernel
theorem d_S_crash_43 : decode b_S_crash 43 = .ok (.istore_n 2, 1) := by decide +kernel
theorem d_S_crash_44 : decode b_S_crash 44 = .ok (.iconst 0, 1) := by decide +kernel
theorem d_S_crash_45 : decode b_S_crash 45 = .ok (.istore_n 3, 1) := by decide +kernel
theorem d_S_crash_46 : decode b_S_crash 46 = .ok (.iload_n 3, 1) := by decide +kernel
theorem d_S_crash_47 : decode b_S_crash 47 = .ok (.iload_n 2, 1) := by decide +kernel
theorem d_S_crash_48 : decode b_S_crash 48 = .ok (.if_icmp .ge 19, 3) := by decide +kernel
theorem d_S_crash_51 : decode b_S_crash 51 = .ok (.aload_n 1, 1) := by decide +kernel
theorem d_S_crash_52 : decode b_S_crash 52 = .ok (.iload_n 3, 1) := by decide +kernel
theorem d_S_crash_53 : decode b_S_crash 53 = .ok (.aaload, 1) := by decide +kernel
theorem d_S_crash_54 : decode b_S_crash 54 = .ok (.astore 4, 2) := by decide +kernel
theorem d_S_crash_56 : decode b_S_crash 56 = .ok (.aload 4, 2) := by decide +kernel
theorem d_S_crash_58 : decode b_S_crash 58 = .ok (.invokevirtual 185, 3) := by decide +kernel
theorem d_S_crash_61 : decode b_S_crash 61 = .ok (.iinc 3 1, 3) := by decide +kernel
theorem d_S_crash_64 : decode b_S_crash 64 = .ok (.goto (-18), 3) := by decide +kernel
theorem d_S_crash_67 : decode b_S_crash 67 = .ok (.aload_n 0, 1) := by decide +kernel
theorem d_S_crash_68 : decode b_S_crash 68 = .ok (.aload_n 0, 1) := by decide +kernel
theorem d_S_crash_69 : decode b_S_crash 69 = .ok (.getfield 52, 3) := by decide +kernel
theorem d_S_crash_72 : decode b_S_crash 72 = .ok (.invokevirtual 188, 3) := by decide +kernel
theorem d_S_crash_75 : decode b_S_crash 75 = .ok (.aload_n 0, 1) := by decide +kernel
theorem d_S_crash_76 : decode b_S_crash 76 = .ok (.aload_n 0, 1) := by decide +kernel
theorem d_S_crash_77 : decode b_S_crash 77 = .ok (.getfield 52, 3) := by decide +kernel
theorem d_S_crash_80 : decode b_S_crash 80 = .ok (.putfield 49, 3) := by decide +kernel
theorem d_S_crash_83 : decode b_S_crash 83 = .ok (.aload_n 0, 1) := by decide +kernel
theorem d_S_crash_84 : decode b_S_crash 84 = .ok (.getfield 72, 3) := by decide +kernel
theorem d_S_crash_87 : decode b_S_crash 87 = .ok (.getfield 191, 3) := by decide +kernel
theorem d_S_crash_90 : decode b_S_crash 90 = .ok (.aload_n 0, 1) := by decide +kernel
theorem d_S_crash_91 : decode b_S_crash 91 = .ok (.getfield 35, 3) := by decide +kernel
theorem d_S_crash_94 : decode b_S_crash 94 = .ok (.invokevirtual 194, 3) := by decide +kernel
theorem d_S_crash_97 : decode b_S_crash 97 = .ok (.iconst 0, 1) := by decide +kernel
theorem d_S_crash_98 : decode b_S_crash 98 = .ok (.istore_n 1, 1) := by decide +kernel
theorem d_S_crash_99 : decode b_S_crash 99 = .ok (.iload_n 1, 1) := by decide +kernel
theorem d_S_crash_100 : decode b_S_crash 100 = .ok (.aload_n 0, 1) := by decide +kernel
theorem d_S_crash_101 : decode b_S_crash 101 = .ok (.getfield 28, 3) := by decide +kernel
theorem d_S_crash_104 : decode b_S_crash 104 = .ok (.invokevirtual 104, 3) := by decide +kernel
theorem d_S_crash_107 : decode b_S_crash 107 = .ok (.if_icmp .ge 28, 3) := by decide +kernel
theorem d_S_crash_110 : decode b_S_crash 110 = .ok (.aload_n 0, 1) := by decide +kernel
theorem d_S_crash_111 : decode b_S_crash 111 = .ok (.getfield 72, 3) := by decide +kernel
theorem d_S_crash_114 : decode b_S_crash 114 = .ok (.aload_n 0, 1) := by decide +kernel
theorem d_S_crash_115 : decode b_S_crash 115 = .ok (.getfield 28, 3) := by decide +kernel
theorem d_S_crash_118 : decode b_S_crash 118 = .ok (.iload_n 1, 1) := by decide +kernel
theorem d_S_crash_119 : decode b_S_crash 119 = .ok (.invokevirtual 198, 3) := by decide +kernel
theorem d_S_crash_122 : decode b_S_crash 122 = .ok (.checkcast 124, 3) := by decide +kernel
theorem d_S_crash_125 : decode b_S_crash 125 = .ok (.invokevirtual 202, 3) := by decide +kernel
theorem d_S_crash_128 : decode b_S_crash 128 = .ok (.pop, 1) := by decide +kernel
theorem d_S_crash_129 : decode b_S_crash 129 = .ok (.iinc 1 1, 3) := by decide +kernel
theorem d_S_crash_132 : decode b_S_crash 132 = .ok (.goto (-33), 3) := by decide +kernel
theorem d_S_crash_135 : decode b_S_crash 135 = .ok (.aload_n 0, 1) := by decide +kernel
theorem d_S_crash_136 : decode b_S_crash 136 = .ok (.getfield 52, 3) := by decide +kernel
theorem d_S_crash_139 : decode b_S_crash 139 = .ok (.ireturn, 1) := by decide +kernel
theorem d_S_answer_0 : decode b_S_answer 0 = .ok (.iload_n 1, 1) := by decide +kernel
theorem d_S_answer_1 : decode b_S_answer 1 = .ok (.iconst 4, 1) := by decide +kernel
theorem d_S_answer_2 : decode b_S_answer 2 = .ok (.invokestatic 85, 3) := by decide +kernel
theorem d_S_answer_5 : decode b_S_answer 5 = .ok (.ifCond .eq 15, 3) := by decide +kernel
theorem d_S_answer_8 : decode b_S_answer 8 = .ok (.aload_n 0, 1) := by decide +kernel
theorem d_S_answer_9 : decode b_S_answer 9 = .ok (.getfield 21, 3) := by decide +kernel
theorem d_S_answer_12 : decode b_S_answer 12 = .ok (.iload_n 1, 1) := by decide +kernel
theorem d_S_answer_13 : decode b_S_answer 13 = .ok (.aaload, 1) := by decide +kernel
theorem d_S_answer_14 : decode b_S_answer 14 = .ok (.getfield 121, 3) := by decide +kernel
theorem d_S_answer_17 : decode b_S_answer 17 = .ok (.goto 4, 3) := by decide +kernel
theorem d_S_answer_20 : decode b_S_answer 20 = .ok (.iconst (-1), 1) := by decide +kernel
theorem d_S_answer_21 : decode b_S_answer 21 = .ok (.ireturn, 1) := by decide +kernel
theorem d_C_tell_0 : decode b_C_tell 0 = .ok (.aload_n 0, 1) := by decide +kernel
theorem d_C_tell_1 : decode b_C_tell 1 = .ok (.getfield 9, 3) := by decide +kernel
theorem d_C_tell_4 : decode b_C_tell 4 = .ok (.iconst 2, 1) := by decide +kernel
theorem d_C_tell_5 : decode b_C_tell 5 = .ok (.if_icmp .ne 14, 3) := by decide +kernel
theorem d_C_tell_8 : decode b_C_tell 8 = .ok (.iload_n 1, 1) := by decide +kernel
theorem d_C_tell_9 : decode b_C_tell 9 = .ok (.iconst (-1), 1) := by decide +kernel
theorem d_C_tell_10 : decode b_C_tell 10 = .ok (.if_icmp .ne 9, 3) := by decide +kernel
theorem d_C_tell_13 : decode b_C_tell 13 = .ok (.aload_n 0, 1) := by decide +kernel
theorem d_C_tell_14 : decode b_C_tell 14 = .ok (.getfield 28, 3) := by decide +kernel
theorem d_C_tell_17 : decode b_C_tell 17 = .ok (.i2l, 1) := by decide +kernel
theorem d_C_tell_18 : decode b_C_tell 18 = .ok (.lreturn, 1) := by decide +kernel
theorem d_C_tell_19 : decode b_C_tell 19 = .ok (.aload_n 0, 1) := by decide +kernel
theorem d_C_tell_20 : decode b_C_tell 20 = .ok (.getfield 9, 3) := by decide +kernel
theorem d_C_tell_23 : decode b_C_tell 23 = .ok (.iconst 2, 1) := by decide +kernel
theorem d_C_tell_24 : decode b_C_tell 24 = .ok (.if_icmp .ne 22, 3) := by decide +kernel
theorem d_C_tell_27 : decode b_C_tell 27 = .ok (.iload_n 1, 1) := by decide +kernel
theorem d_C_tell_28 : decode b_C_tell 28 = .ok (.aload_n 0, 1) := by decide +kernel
theorem d_C_tell_29 : decode b_C_tell 29 = .ok (.getfield 28, 3) := by decide +kernel
theorem d_C_tell_32 : decode b_C_tell 32 = .ok (.invokestatic 46, 3) := by decide +kernel
theorem d_C_tell_35 : decode b_C_tell 35 = .ok (.ifCond .eq 11, 3) := by decide +kernel
theorem d_C_tell_38 : decode b_C_tell 38 = .ok (.aload_n 0, 1) := by decide +kernel
theorem d_C_tell_39 : decode b_C_tell 39 = .ok (.getfield 31, 3) := by decide +kernel
theorem d_C_tell_42 : decode b_C_tell 42 = .ok (.iload_n 1, 1) := by decide +kernel
theorem d_C_tell_43 : decode b_C_tell 43 = .ok (.iaload, 1) := by decide +kernel
theorem d_C_tell_44 : decode b_C_tell 44 = .ok (.i2l, 1) := by decide +kernel
theorem d_C_tell_45 : decode b_C_tell 45 = .ok (.lreturn, 1) := by decide +kernel
theorem d_C_tell_46 : decode b_C_tell 46 = .ok (.aload_n 0, 1) := by decide +kernel
theorem d_C_tell_47 : decode b_C_tell 47 = .ok (.getfield 9, 3) := by decide +kernel
theorem d_C_tell_50 : decode b_C_tell 50 = .ok (.iconst 3, 1) := by decide +kernel
theorem d_C_tell_51 : decode b_C_tell 51 = .ok (.if_icmp .ne 14, 3) := by decide +kernel
theorem d_C_tell_54 : decode b_C_tell 54 = .ok (.iload_n 1, 1) := by decide +kernel
theorem d_C_tell_55 : decode b_C_tell 55 = .ok (.iconst (-1), 1) := by decide +kernel
theorem d_C_tell_56 : decode b_C_tell 56 = .ok (.if_icmp .ne 9, 3) := by decide +kernel
theorem d_C_tell_59 : decode b_C_tell 59 = .ok (.aload_n 0, 1) := by decide +kernel
theorem d_C_tell_60 : decode b_C_tell 60 = .ok (.getfield 25, 3) := by decide +kernel
theorem d_C_tell_63 : decode b_C_tell 63 = .ok (.i2l, 1) := by decide +kernel
theorem d_C_tell_64 : decode b_C_tell 64 = .ok (.lreturn, 1) := by decide +kernel
theorem d_C_tell_65 : decode b_C_tell 65 = .ok (.ldc2_w 50, 3) := by decide +kernel
theorem d_C_tell_68 : decode b_C_tell 68 = .ok (.lreturn, 1) := by decide +kernel
theorem d_S_output_0 : decode b_S_output 0 = .ok (.iload_n 1, 1) := by decide +kernel
theorem d_S_output_1 : decode b_S_output 1 = .ok (.iconst 4, 1) := by decide +kernel
theorem d_S_output_2 : decode b_S_output 2 = .ok (.invokestatic 85, 3) := by decide +kernel
theorem d_S_output_5 : decode b_S_output 5 = .ok (.ifCond .eq 16, 3) := by decide +kernel
theorem d_S_output_8 : decode b_S_output 8 = .ok (.aload_n 0, 1) := by decide +kernel
theorem d_S_output_9 : decode b_S_output 9 = .ok (.getfield 21, 3) := by decide +kernel
theorem d_S_output_12 : decode b_S_output 12 = .ok (.iload_n 1, 1) := by decide +kernel
theorem d_S_output_13 : decode b_S_output 13 = .ok (.aaload, 1) := by decide +kernel
theorem d_S_output_14 : decode b_S_output 14 = .ok (.iload_n 2, 1) := by decide +kernel
theorem d_S_output_15 : decode b_S_output 15 = .ok (.invokevirtual 206, 3) := by decide +kernel
theorem d_S_output_18 : decode b_S_output 18 = .ok (.goto 6, 3) := by decide +kernel
theorem d_S_output_21 : decode b_S_output 21 = .ok (.ldc2_w 210, 3) := by decide +kernel
theorem d_S_output_24 : decode b_S_output 24 = .ok (.lreturn, 1) := by decide +kernel
theorem d_S_row_0 : decode b_S_row 0 = .ok (.iload_n 1, 1) := by decide +kernel
theorem d_S_row_1 : decode b_S_row 1 = .ok (.bipush 32, 2) := by decide +kernel
theorem d_S_row_3 : decode b_S_row 3 = .ok (.invokestatic 85, 3) := by decide +kernel
theorem d_S_row_6 : decode b_S_row 6 = .ok (.ifCond .eq 18, 3) := by decide +kernel
theorem d_S_row_9 : decode b_S_row 9 = .ok (.aload_n 0, 1) := by decide +kernel
theorem d_S_row_10 : decode b_S_row 10 = .ok (.getfield 72, 3) := by decide +kernel
theorem d_S_row_13 : decode b_S_row 13 = .ok (.getfield 191, 3) := by decide +kernel
theorem d_S_row_16 : decode b_S_row 16 = .ok (.getfield 212, 3) := by decide +kernel
theorem d_S_row_19 : decode b_S_row 19 = .ok (.iload_n 1, 1) := by decide +kernel
theorem d_S_row_20 : decode b_S_row 20 = .ok (.laload, 1) := by decide +kernel
theorem d_S_row_21 : decode b_S_row 21 = .ok (.goto 6, 3) := by decide +kernel
theorem d_S_row_24 : decode b_S_row 24 = .ok (.ldc2_w 210, 3) := by decide +kernel
theorem d_S_row_27 : decode b_S_row 27 = .ok (.lreturn, 1) := by decide +kernel
theorem d_S_replicated_0 : decode b_S_replicated 0 = .ok (.iload_n 1, 1) := by decide +kernel
theorem d_S_replicated_1 : decode b_S_replicated 1 = .ok (.bipush 8, 2) := by decide +kernel
theorem d_S_replicated_3 : decode b_S_replicated 3 = .ok (.invokestatic 85, 3) := by decide +kernel
theorem d_S_replicated_6 : decode b_S_replicated 6 = .ok (.ifCond .eq 19, 3) := by decide +kernel
theorem d_S_replicated_9 : decode b_S_replicated 9 = .ok (.aload_n 0, 1) := by decide +kernel
theorem d_S_replicated_10 : decode b_S_replicated 10 = .ok (.getfield 72, 3) := by decide +kernel
theorem d_S_replicated_13 : decode b_S_replicated 13 = .ok (.getfield 191, 3) := by decide +kernel
theorem d_S_replicated_16 : decode b_S_replicated 16 = .ok (.getfield 216, 3) := by decide +kernel
theorem d_S_replicated_19 : decode b_S_replicated 19 = .ok (.iload_n 1, 1) := by decide +kernel
theorem d_S_replicated_20 : decode b_S_replicated 20 = .ok (.iaload, 1) := by decide +kernel
theorem d_S_replicated_21 : decode b_S_replicated 21 = .ok (.i2l, 1) := by decide +kernel
theorem d_S_replicated_22 : decode b_S_replicated 22 = .ok (.goto 6, 3) := by decide +kernel
theorem d_S_replicated_25 : decode b_S_replicated 25 = .ok (.ldc2_w 210, 3) := by decide +kernel
theorem d_S_replicated_28 : decode b_S_replicated 28 = .ok (.lreturn, 1) := by decide +kernel
theorem d_S_waiting_0 : decode b_S_waiting 0 = .ok (.iload_n 1, 1) := by decide +kernel
theorem d_S_waiting_1 : decode b_S_waiting 1 = .ok (.aload_n 0, 1) := by decide +kernel
theorem d_S_waiting_2 : decode b_S_waiting 2 = .ok (.getfield 64, 3) := by decide +kernel
theorem d_S_waiting_5 : decode b_S_waiting 5 = .ok (.invokestatic 85, 3) := by decide +kernel
theorem d_S_waiting_8 : decode b_S_waiting 8 = .ok (.ifCond .eq 18, 3) := by decide +kernel
theorem d_S_waiting_11 : decode b_S_waiting 11 = .ok (.aload_n 0, 1) := by decide +kernel
theorem d_S_waiting_12 : decode b_S_waiting 12 = .ok (.getfield 80, 3) := by decide +kernel
theorem d_S_waiting_15 : decode b_S_waiting 15 = .ok (.iload_n 1, 1) := by decide +kernel
theorem d_S_waiting_16 : decode b_S_waiting 16 = .ok (.aaload, 1) := by decide +kernel
theorem d_S_waiting_17 : decode b_S_waiting 17 = .ok (.getfield 146, 3) := by decide +kernel
theorem d_S_waiting_20 : decode b_S_waiting 20 = .ok (.invokevirtual 104, 3) := by decide +kernel
theorem d_S_waiting_23 : decode b_S_waiting 23 = .ok (.goto 4, 3) := by decide +kernel
theorem d_S_waiting_26 : decode b_S_waiting 26 = .ok (.iconst (-1), 1) := by decide +kernel
theorem d_S_waiting_27 : decode b_S_waiting 27 = .ok (.ireturn, 1) := by decide +kernel
theorem d_S_rows_0 : decode b_S_rows 0 = .ok (.iload_n 1, 1) := by decide +kernel
theorem d_S_rows_1 : decode b_S_rows 1 = .ok (.aload_n 0, 1) := by decide +kernel
theorem d_S_rows_2 : decode b_S_rows 2 = .ok (.getfield 64, 3) := by decide +kernel
theorem d_S_rows_5 : decode b_S_rows 5 = .ok (.invokestatic 85, 3) := by decide +kernel
theorem d_S_rows_8 : decode b_S_rows 8 = .ok (.ifCond .eq 21, 3) := by decide +kernel
theorem d_S_rows_11 : decode b_S_rows 11 = .ok (.aload_n 0, 1) := by decide +kernel
theorem d_S_rows_12 : decode b_S_rows 12 = .ok (.getfield 72, 3) := by decide +kernel
theorem d_S_rows_15 : decode b_S_rows 15 = .ok (.getfield 191, 3) := by decide +kernel
theorem d_S_rows_18 : decode b_S_rows 18 = .ok (.iload_n 1, 1) := by decide +kernel
theorem d_S_rows_19 : decode b_S_rows 19 = .ok (.aload_n 0, 1) := by decide +kernel
theorem d_S_rows_20 : decode b_S_rows 20 = .ok (.getfield 64, 3) := by decide +kernel
theorem d_S_rows_23 : decode b_S_rows 23 = .ok (.invokevirtual 220, 3) := by decide +kernel
theorem d_S_rows_26 : decode b_S_rows 26 = .ok (.goto 4, 3) := by decide +kernel
theorem d_S_rows_29 : decode b_S_rows 29 = .ok (.iconst (-1), 1) := by decide +kernel
theorem d_S_rows_30 : decode b_S_rows 30 = .ok (.ireturn, 1) := by decide +kernel
theorem d_S_stalledNumber_0 : decode b_S_stalledNumber 0 = .ok (.aload_n 0, 1) := by decide +kernel
theorem d_S_stalledNumber_1 : decode b_S_stalledNumber 1 = .ok (.getfield 80, 3) := by decide +kernel
theorem d_S_stalledNumber_4 : decode b_S_stalledNumber 4 = .ok (.astore_n 1, 1) := by decide +kernel
theorem d_S_stalledNumber_5 : decode b_S_stalledNumber 5 = .ok (.aload_n 1, 1) := by decide +kernel
theorem d_S_stalledNumber_6 : decode b_S_stalledNumber 6 = .ok (.arraylength, 1) := by decide +kernel
theorem d_S_stalledNumber_7 : decode b_S_stalledNumber 7 = .ok (.istore_n 2, 1) := by decide +kernel
theorem d_S_stalledNumber_8 : decode b_S_stalledNumber 8 = .ok (.iconst 0, 1) := by decide +kernel
theorem d_S_stalledNumber_9 : decode b_S_stalledNumber 9 = .ok (.istore_n 3, 1) := by decide +kernel
theorem d_S_stalledNumber_10 : decode b_S_stalledNumber 10 = .ok (.iload_n 3, 1) := by decide +kernel
theorem d_S_stalledNumber_11 : decode b_S_stalledNumber 11 = .ok (.iload_n 2, 1) := by decide +kernel
theorem d_S_stalledNumber_12 : decode b_S_stalledNumber 12 = .ok (.if_icmp .ge 40, 3) := by decide +kernel
theorem d_S_stalledNumber_15 : decode b_S_stalledNumber 15 = .ok (.aload_n 1, 1) := by decide +kernel
theorem d_S_stalledNumber_16 : decode b_S_stalledNumber 16 = .ok (.iload_n 3, 1) := by decide +kernel
theorem d_S_stalledNumber_17 : decode b_S_stalledNumber 17 = .ok (.aaload, 1) := by decide +kernel
theorem d_S_stalledNumber_18 : decode b_S_stalledNumber 18 = .ok (.astore 4, 2) := by decide +kernel
theorem d_S_stalledNumber_20 : decode b_S_stalledNumber 20 = .ok (.aload 4, 2) := by decide +kernel
theorem d_S_stalledNumber_22 : decode b_S_stalledNumber 22 = .ok (.invokevirtual 149, 3) := by decide +kernel
theorem d_S_stalledNumber_25 : decode b_S_stalledNumber 25 = .ok (.astore 5, 2) := by decide +kernel
theorem d_S_stalledNumber_27 : decode b_S_stalledNumber 27 = .ok (.aload 4, 2) := by decide +kernel
theorem d_S_stalledNumber_29 : decode b_S_stalledNumber 29 = .ok (.getfield 156, 3) := by decide +kernel
theorem d_S_stalledNumber_32 : decode b_S_stalledNumber 32 = .ok (.ifCond .eq 14, 3) := by decide +kernel
theorem d_S_stalledNumber_35 : decode b_S_stalledNumber 35 = .ok (.aload 5, 2) := by decide +kernel
theorem d_S_stalledNumber_37 : decode b_S_stalledNumber 37 = .ok (.ifnull 9, 3) := by decide +kernel
theorem d_S_stalledNumber_40 : decode b_S_stalledNumber 40 = .ok (.aload 5, 2) := by decide +kernel
theorem d_S_stalledNumber_42 : decode b_S_stalledNumber 42 = .ok (.getfield 248, 3) := by decide +kernel
theorem d_S_stalledNumber_45 : decode b_S_stalledNumber 45 = .ok (.ireturn, 1) := by decide +kernel
theorem d_S_stalledNumber_46 : decode b_S_stalledNumber 46 = .ok (.iinc 3 1, 3) := by decide +kernel
theorem d_S_stalledNumber_49 : decode b_S_stalledNumber 49 = .ok (.goto (-39), 3) := by decide +kernel
theorem d_S_stalledNumber_52 : decode b_S_stalledNumber 52 = .ok (.iconst 0, 1) := by decide +kernel
theorem d_S_stalledNumber_53 : decode b_S_stalledNumber 53 = .ok (.ireturn, 1) := by decide +kernel
theorem d_S_count_0 : decode b_S_count 0 = .ok (.iload_n 1, 1) := by decide +kernel
theorem d_S_count_1 : decode b_S_count 1 = .ok (.tableswitch 72 0 5 #[39, 44, 49, 57, 62, 67], 39) := by decide +kernel
theorem d_S_count_40 : decode b_S_count 40 = .ok (.aload_n 0, 1) := by decide +kernel
theorem d_S_count_41 : decode b_S_count 41 = .ok (.getfield 49, 3) := by decide +kernel
theorem d_S_count_44 : decode b_S_count 44 = .ok (.ireturn, 1) := by decide +kernel
theorem d_S_count_45 : decode b_S_count 45 = .ok (.aload_n 0, 1) := by decide +kernel
theorem d_S_count_46 : decode b_S_count 46 = .ok (.getfield 52, 3) := by decide +kernel
theorem d_S_count_49 : decode b_S_count 49 = .ok (.ireturn, 1) := by decide +kernel
theorem d_S_count_50 : decode b_S_count 50 = .ok (.aload_n 0, 1) := by decide +kernel
theorem d_S_count_51 : decode b_S_count 51 = .ok (.getfield 28, 3) := by decide +kernel
theorem d_S_count_54 : decode b_S_count 54 = .ok (.invokevirtual 104, 3) := by decide +kernel
theorem d_S_count_57 : decode b_S_count 57 = .ok (.ireturn, 1) := by decide +kernel
theorem d_S_count_58 : decode b_S_count 58 = .ok (.aload_n 0, 1) := by decide +kernel
theorem d_S_count_59 : decode b_S_count 59 = .ok (.getfield 39, 3) := by decide +kernel
theorem d_S_count_62 : decode b_S_count 62 = .ok (.ireturn, 1) := by decide +kernel
theorem d_S_count_63 : decode b_S_count 63 = .ok (.aload_n 0, 1) := by decide +kernel
theorem d_S_count_64 : decode b_S_count 64 = .ok (.getfield 46, 3) := by decide +kernel
theorem d_S_count_67 : decode b_S_count 67 = .ok (.ireturn, 1) := by decide +kernel
theorem d_S_count_68 : decode b_S_count 68 = .ok (.aload_n 0, 1) := by decide +kernel
theorem d_S_count_69 : decode b_S_count 69 = .ok (.invokevirtual 223, 3) := by decide +kernel
theorem d_S_count_72 : decode b_S_count 72 = .ok (.ireturn, 1) := by decide +kernel
theorem d_S_count_73 : decode b_S_count 73 = .ok (.iconst (-1), 1) := by decide +kernel
theorem d_S_count_74 : decode b_S_count 74 = .ok (.ireturn, 1) := by decide +kernel
theorem d_L_cell_0 : decode b_L_cell 0 = .ok (.iload_n 1, 1) := by decide +kernel
theorem d_L_cell_1 : decode b_L_cell 1 = .ok (.aload_n 0, 1) := by decide +kernel
theorem d_L_cell_2 : decode b_L_cell 2 = .ok (.arraylength, 1) := by decide +kernel
theorem d_L_cell_3 : decode b_L_cell 3 = .ok (.if_icmp .ge 9, 3) := by decide +kernel
theorem d_L_cell_6 : decode b_L_cell 6 = .ok (.aload_n 0, 1) := by decide +kernel
theorem d_L_cell_7 : decode b_L_cell 7 = .ok (.iload_n 1, 1) := by decide +kernel
theorem d_L_cell_8 : decode b_L_cell 8 = .ok (.iaload, 1) := by decide +kernel
theorem d_L_cell_9 : decode b_L_cell 9 = .ok (.goto 4, 3) := by decide +kernel
theorem d_L_cell_12 : decode b_L_cell 12 = .ok (.iconst 0, 1) := by decide +kernel
theorem d_L_cell_13 : decode b_L_cell 13 = .ok (.ireturn, 1) := by decide +kernel
theorem d_M_init_0 : decode b_M_init 0 = .ok (.aload_n 0, 1) := by decide +kernel
theorem d_M_init_1 : decode b_M_init 1 = .ok (.invokespecial 1, 3) := by decide +kernel
theorem d_M_init_4 : decode b_M_init 4 = .ok (.aload_n 0, 1) := by decide +kernel
theorem d_M_init_5 : decode b_M_init 5 = .ok (.bipush 40, 2) := by decide +kernel
theorem d_M_init_7 : decode b_M_init 7 = .ok (.newarray .boolean, 2) := by decide +kernel
theorem d_M_init_9 : decode b_M_init 9 = .ok (.putfield 7, 3) := by decide +kernel
theorem d_M_init_12 : decode b_M_init 12 = .ok (.aload_n 0, 1) := by decide +kernel
theorem d_M_init_13 : decode b_M_init 13 = .ok (.bipush 40, 2) := by decide +kernel
theorem d_M_init_15 : decode b_M_init 15 = .ok (.newarray .int, 2) := by decide +kernel
theorem d_M_init_17 : decode b_M_init 17 = .ok (.putfield 13, 3) := by decide +kernel
theorem d_M_init_20 : decode b_M_init 20 = .ok (.aload_n 0, 1) := by decide +kernel
theorem d_M_init_21 : decode b_M_init 21 = .ok (.bipush 40, 2) := by decide +kernel
theorem d_M_init_23 : decode b_M_init 23 = .ok (.newarray .boolean, 2) := by decide +kernel
theorem d_M_init_25 : decode b_M_init 25 = .ok (.putfield 17, 3) := by decide +kernel
theorem d_M_init_28 : decode b_M_init 28 = .ok (.aload_n 0, 1) := by decide +kernel
theorem d_M_init_29 : decode b_M_init 29 = .ok (.bipush 40, 2) := by decide +kernel
theorem d_M_init_31 : decode b_M_init 31 = .ok (.newarray .int, 2) := by decide +kernel
theorem d_M_init_33 : decode b_M_init 33 = .ok (.putfield 20, 3) := by decide +kernel
theorem d_M_init_36 : decode b_M_init 36 = .ok (.aload_n 0, 1) := by decide +kernel
theorem d_M_init_37 : decode b_M_init 37 = .ok (.bipush 40, 2) := by decide +kernel
theorem d_M_init_39 : decode b_M_init 39 = .ok (.newarray .boolean, 2) := by decide +kernel
theorem d_M_init_41 : decode b_M_init 41 = .ok (.putfield 23, 3) := by decide +kernel
theorem d_M_init_44 : decode b_M_init 44 = .ok (.aload_n 0, 1) := by decide +kernel
theorem d_M_init_45 : decode b_M_init 45 = .ok (.bipush 40, 2) := by decide +kernel
theorem d_M_init_47 : decode b_M_init 47 = .ok (.newarray .int, 2) := by decide +kernel
theorem d_M_init_49 : decode b_M_init 49 = .ok (.putfield 26, 3) := by decide +kernel
theorem d_M_init_52 : decode b_M_init 52 = .ok (.aload_n 0, 1) := by decide +kernel
theorem d_M_init_53 : decode b_M_init 53 = .ok (.bipush 6, 2) := by decide +kernel
theorem d_M_init_55 : decode b_M_init 55 = .ok (.newarray .boolean, 2) := by decide +kernel
theorem d_M_init_57 : decode b_M_init 57 = .ok (.putfield 29, 3) := by decide +kernel
theorem d_M_init_60 : decode b_M_init 60 = .ok (.aload_n 0, 1) := by decide +kernel
theorem d_M_init_61 : decode b_M_init 61 = .ok (.bipush 7, 2) := by decide +kernel
theorem d_M_init_63 : decode b_M_init 63 = .ok (.newarray .boolean, 2) := by decide +kernel
theorem d_M_init_65 : decode b_M_init 65 = .ok (.putfield 32, 3) := by decide +kernel
theorem d_M_init_68 : decode b_M_init 68 = .ok (.aload_n 0, 1) := by decide +kernel
theorem d_M_init_69 : decode b_M_init 69 = .ok (.bipush 7, 2) := by decide +kernel
theorem d_M_init_71 : decode b_M_init 71 = .ok (.newarray .int, 2) := by decide +kernel
theorem d_M_init_73 : decode b_M_init 73 = .ok (.putfield 35, 3) := by decide +kernel
theorem d_M_init_76 : decode b_M_init 76 = .ok (.aload_n 0, 1) := by decide +kernel
theorem d_M_init_77 : decode b_M_init 77 = .ok (.bipush 56, 2) := by decide +kernel
theorem d_M_init_79 : decode b_M_init 79 = .ok (.newarray .int, 2) := by decide +kernel
theorem d_M_init_81 : decode b_M_init 81 = .ok (.putfield 38, 3) := by decide +kernel
theorem d_M_init_84 : decode b_M_init 84 = .ok (.aload_n 0, 1) := by decide +kernel
theorem d_M_init_85 : decode b_M_init 85 = .ok (.bipush 56, 2) := by decide +kernel
theorem d_M_init_87 : decode b_M_init 87 = .ok (.newarray .int, 2) := by decide +kernel
theorem d_M_init_89 : decode b_M_init 89 = .ok (.putfield 41, 3) := by decide +kernel
theorem d_M_init_92 : decode b_M_init 92 = .ok (.aload_n 0, 1) := by decide +kernel
theorem d_M_init_93 : decode b_M_init 93 = .ok (.bipush 56, 2) := by decide +kernel
theorem d_M_init_95 : decode b_M_init 95 = .ok (.newarray .int, 2) := by decide +kernel
theorem d_M_init_97 : decode b_M_init 97 = .ok (.putfield 44, 3) := by decide +kernel
theorem d_M_init_100 : decode b_M_init 100 = .ok (.aload_n 0, 1) := by decide +kernel
theorem d_M_init_101 : decode b_M_init 101 = .ok (.bipush 56, 2) := by decide +kernel
theorem d_M_init_103 : decode b_M_init 103 = .ok (.newarray .int, 2) := by decide +kernel
theorem d_M_init_105 : decode b_M_init 105 = .ok (.putfield 47, 3) := by decide +kernel
theorem d_M_init_108 : decode b_M_init 108 = .ok (.aload_n 0, 1) := by decide +kernel
theorem d_M_init_109 : decode b_M_init 109 = .ok (.iconst (-1), 1) := by decide +kernel
theorem d_M_init_110 : decode b_M_init 110 = .ok (.putfield 50, 3) := by decide +kernel
theorem d_M_init_113 : decode b_M_init 113 = .ok (.aload_n 0, 1) := by decide +kernel
theorem d_M_init_114 : decode b_M_init 114 = .ok (.sipush 514, 3) := by decide +kernel
theorem d_M_init_117 : decode b_M_init 117 = .ok (.newarray .int, 2) := by decide +kernel
theorem d_M_init_119 : decode b_M_init 119 = .ok (.putfield 54, 3) := by decide +kernel
theorem d_M_init_122 : decode b_M_init 122 = .ok (.aload_n 0, 1) := by decide +kernel
theorem d_M_init_123 : decode b_M_init 123 = .ok (.sipush 1542, 3) := by decide +kernel
theorem d_M_init_126 : decode b_M_init 126 = .ok (.newarray .int, 2) := by decide +kernel
theorem d_M_init_128 : decode b_M_init 128 = .ok (.putfield 57, 3) := by decide +kernel
theorem d_M_init_131 : decode b_M_init 131 = .ok (.aload_n 0, 1) := by decide +kernel
theorem d_M_init_132 : decode b_M_init 132 = .ok (.sipush 514, 3) := by decide +kernel
theorem d_M_init_135 : decode b_M_init 135 = .ok (.newarray .boolean, 2) := by decide +kernel
theorem d_M_init_137 : decode b_M_init 137 = .ok (.putfield 60, 3) := by decide +kernel
theorem d_M_init_140 : decode b_M_init 140 = .ok (.aload_n 0, 1) := by decide +kernel
theorem d_M_init_141 : decode b_M_init 141 = .ok (.sipush 514, 3) := by decide +kernel
theorem d_M_init_144 : decode b_M_init 144 = .ok (.newarray .int, 2) := by decide +kernel
theorem d_M_init_146 : decode b_M_init 146 = .ok (.putfield 63, 3) := by decide +kernel
theorem d_M_init_149 : decode b_M_init 149 = .ok (.aload_n 0, 1) := by decide +kernel
theorem d_M_init_150 : decode b_M_init 150 = .ok (.sipush 514, 3) := by decide +kernel
theorem d_M_init_153 : decode b_M_init 153 = .ok (.newarray .int, 2) := by decide +kernel
theorem d_M_init_155 : decode b_M_init 155 = .ok (.putfield 66, 3) := by decide +kernel
theorem d_M_init_158 : decode b_M_init 158 = .ok (.aload_n 0, 1) := by decide +kernel
theorem d_M_init_159 : decode b_M_init 159 = .ok (.sipush 514, 3) := by decide +kernel
theorem d_M_init_162 : decode b_M_init 162 = .ok (.newarray .int, 2) := by decide +kernel
theorem d_M_init_164 : decode b_M_init 164 = .ok (.putfield 69, 3) := by decide +kernel
theorem d_M_init_167 : decode b_M_init 167 = .ok (.aload_n 0, 1) := by decide +kernel
theorem d_M_init_168 : decode b_M_init 168 = .ok (.sipush 2056, 3) := by decide +kernel
theorem d_M_init_171 : decode b_M_init 171 = .ok (.newarray .int, 2) := by decide +kernel
theorem d_M_init_173 : decode b_M_init 173 = .ok (.putfield 72, 3) := by decide +kernel
theorem d_M_init_176 : decode b_M_init 176 = .ok (.aload_n 0, 1) := by decide +kernel
theorem d_M_init_177 : decode b_M_init 177 = .ok (.iconst 4, 1) := by decide +kernel
theorem d_M_init_178 : decode b_M_init 178 = .ok (.newarray .int, 2) := by decide +kernel
theorem d_M_init_180 : decode b_M_init 180 = .ok (.putfield 75, 3) := by decide +kernel
theorem d_M_init_183 : decode b_M_init 183 = .ok (.aload_n 0, 1) := by decide +kernel
theorem d_M_init_184 : decode b_M_init 184 = .ok (.iconst 4, 1) := by decide +kernel
theorem d_M_init_185 : decode b_M_init 185 = .ok (.newarray .int, 2) := by decide +kernel
theorem d_M_init_187 : decode b_M_init 187 = .ok (.putfield 78, 3) := by decide +kernel
theorem d_M_init_190 : decode b_M_init 190 = .ok (.aload_n 0, 1) := by decide +kernel
theorem d_M_init_191 : decode b_M_init 191 = .ok (.iconst 4, 1) := by decide +kernel
theorem d_M_init_192 : decode b_M_init 192 = .ok (.newarray .int, 2) := by decide +kernel
theorem d_M_init_194 : decode b_M_init 194 = .ok (.putfield 81, 3) := by decide +kernel
theorem d_M_init_197 : decode b_M_init 197 = .ok (.aload_n 0, 1) := by decide +kernel
theorem d_M_init_198 : decode b_M_init 198 = .ok (.iconst 4, 1) := by decide +kernel
theorem d_M_init_199 : decode b_M_init 199 = .ok (.newarray .int, 2) := by decide +kernel
theorem d_M_init_201 : decode b_M_init 201 = .ok (.putfield 84, 3) := by decide +kernel
theorem d_M_init_204 : decode b_M_init 204 = .ok (.aload_n 0, 1) := by decide +kernel
theorem d_M_init_205 : decode b_M_init 205 = .ok (.bipush 16, 2) := by decide +kernel
theorem d_M_init_207 : decode b_M_init 207 = .ok (.newarray .int, 2) := by decide +kernel
theorem d_M_init_209 : decode b_M_init 209 = .ok (.putfield 87, 3) := by decide +kernel
theorem d_M_init_212 : decode b_M_init 212 = .ok (.aload_n 0, 1) := by decide +kernel
theorem d_M_init_213 : decode b_M_init 213 = .ok (.iconst 4, 1) := by decide +kernel
theorem d_M_init_214 : decode b_M_init 214 = .ok (.newarray .int, 2) := by decide +kernel
theorem d_M_init_216 : decode b_M_init 216 = .ok (.putfield 90, 3) := by decide +kernel
theorem d_M_init_219 : decode b_M_init 219 = .ok (.aload_n 0, 1) := by decide +kernel
theorem d_M_init_220 : decode b_M_init 220 = .ok (.bipush 6, 2) := by decide +kernel
theorem d_M_init_222 : decode b_M_init 222 = .ok (.newarray .int, 2) := by decide +kernel
theorem d_M_init_224 : decode b_M_init 224 = .ok (.putfield 93, 3) := by decide +kernel
theorem d_M_init_227 : decode b_M_init 227 = .ok (.aload_n 0, 1) := by decide +kernel
theorem d_M_init_228 : decode b_M_init 228 = .ok (.iload_n 1, 1) := by decide +kernel
theorem d_M_init_229 : decode b_M_init 229 = .ok (.iconst 1, 1) := by decide +kernel
theorem d_M_init_230 : decode b_M_init 230 = .ok (.if_icmp .ge 7, 3) := by decide +kernel
theorem d_M_init_233 : decode b_M_init 233 = .ok (.iconst 1, 1) := by decide +kernel
theorem d_M_init_234 : decode b_M_init 234 = .ok (.goto 13, 3) := by decide +kernel
theorem d_M_init_237 : decode b_M_init 237 = .ok (.iload_n 1, 1) := by decide +kernel
theorem d_M_init_238 : decode b_M_init 238 = .ok (.iconst 4, 1) := by decide +kernel
theorem d_M_init_239 : decode b_M_init 239 = .ok (.if_icmp .le 7, 3) := by decide +kernel
theorem d_M_init_242 : decode b_M_init 242 = .ok (.iconst 4, 1) := by decide +kernel
theorem d_M_init_243 : decode b_M_init 243 = .ok (.goto 4, 3) := by decide +kernel
theorem d_M_init_246 : decode b_M_init 246 = .ok (.iload_n 1, 1) := by decide +kernel
theorem d_M_init_247 : decode b_M_init 247 = .ok (.putfield 96, 3) := by decide +kernel
theorem d_M_init_250 : decode b_M_init 250 = .ok (.return_, 1) := by decide +kernel
theorem d_M_outside_0 : decode b_M_outside 0 = .ok (.iload_n 0, 1) := by decide +kernel
theorem d_M_outside_1 : decode b_M_outside 1 = .ok (.ifCond .lt 8, 3) := by decide +kernel
theorem d_M_outside_4 : decode b_M_outside 4 = .ok (.iload_n 0, 1) := by decide +kernel
theorem d_M_outside_5 : decode b_M_outside 5 = .ok (.iload_n 1, 1) := by decide +kernel
theorem d_M_outside_6 : decode b_M_outside 6 = .ok (.if_icmp .lt 7, 3) := by decide +kernel
theorem d_M_outside_9 : decode b_M_outside 9 = .ok (.iconst 1, 1) := by decide +kernel
theorem d_M_outside_10 : decode b_M_outside 10 = .ok (.goto 4, 3) := by decide +kernel
theorem d_M_outside_13 : decode b_M_outside 13 = .ok (.iconst 0, 1) := by decide +kernel
theorem d_M_outside_14 : decode b_M_outside 14 = .ok (.ireturn, 1) := by decide +kernel
theorem d_M_open_0 : decode b_M_open 0 = .ok (.iload_n 1, 1) := by decide +kernel
theorem d_M_open_1 : decode b_M_open 1 = .ok (.bipush 6, 2) := by decide +kernel
theorem d_M_open_3 : decode b_M_open 3 = .ok (.invokestatic 99, 3) := by decide +kernel
theorem d_M_open_6 : decode b_M_open 6 = .ok (.ifCond .ne 12, 3) := by decide +kernel
theorem d_M_open_9 : decode b_M_open 9 = .ok (.aload_n 0, 1) := by decide +kernel
theorem d_M_open_10 : decode b_M_open 10 = .ok (.getfield 29, 3) := by decide +kernel
theorem d_M_open_13 : decode b_M_open 13 = .ok (.iload_n 1, 1) := by decide +kernel
theorem d_M_open_14 : decode b_M_open 14 = .ok (.baload, 1) := by decide +kernel
theorem d_M_open_15 : decode b_M_open 15 = .ok (.ifCond .eq 5, 3) := by decide +kernel
theorem d_M_open_18 : decode b_M_open 18 = .ok (.iconst (-1), 1) := by decide +kernel
theorem d_M_open_19 : decode b_M_open 19 = .ok (.ireturn, 1) := by decide +kernel
theorem d_M_open_20 : decode b_M_open 20 = .ok (.aload_n 0, 1) := by decide +kernel
theorem d_M_open_21 : decode b_M_open 21 = .ok (.iload_n 1, 1) := by decide +kernel
theorem d_M_open_22 : decode b_M_open 22 = .ok (.putfield 50, 3) := by decide +kernel
theorem d_M_open_25 : decode b_M_open 25 = .ok (.aload_n 0, 1) := by decide +kernel
theorem d_M_open_26 : decode b_M_open 26 = .ok (.getfield 32, 3) := by decide +kernel
theorem d_M_open_29 : decode b_M_open 29 = .ok (.bipush 6, 2) := by decide +kernel
theorem d_M_open_31 : decode b_M_open 31 = .ok (.iload_n 2, 1) := by decide +kernel
theorem d_M_open_32 : decode b_M_open 32 = .ok (.bastore, 1) := by decide +kernel
theorem d_M_open_33 : decode b_M_open 33 = .ok (.aload_n 0, 1) := by decide +kernel
theorem d_M_open_34 : decode b_M_open 34 = .ok (.getfield 35, 3) := by decide +kernel
theorem d_M_open_37 : decode b_M_open 37 = .ok (.bipush 6, 2) := by decide +kernel
theorem d_M_open_39 : decode b_M_open 39 = .ok (.iconst 0, 1) := by decide +kernel
theorem d_M_open_40 : decode b_M_open 40 = .ok (.iastore, 1) := by decide +kernel
theorem d_M_open_41 : decode b_M_open 41 = .ok (.iconst 0, 1) := by decide +kernel
theorem d_M_open_42 : decode b_M_open 42 = .ok (.ireturn, 1) := by decide +kernel
end
section
theorem d_M_add_0 : decode b_M_add 0 = .ok (.aload_n 0, 1) := by decide +kernel
theorem d_M_add_1 : decode b_M_add 1 = .ok (.getfield 50, 3) := by decide +kernel
theorem d_M_add_4 : decode b_M_add 4 = .ok (.ifCond .lt 21, 3) := by decide +kernel
theorem d_M_add_7 : decode b_M_add 7 = .ok (.iload_n 1, 1) := by decide +kernel
theorem d_M_add_8 : decode b_M_add 8 = .ok (.bipush 11, 2) := by decide +kernel
theorem d_M_add_10 : decode b_M_add 10 = .ok (.invokestatic 99, 3) := by decide +kernel
theorem d_M_add_13 : decode b_M_add 13 = .ok (.ifCond .ne 12, 3) := by decide +kernel
theorem d_M_add_16 : decode b_M_add 16 = .ok (.iload_n 2, 1) := by decide +kernel
theorem d_M_add_17 : decode b_M_add 17 = .ok (.bipush 6, 2) := by decide +kernel
theorem d_M_add_19 : decode b_M_add 19 = .ok (.invokestatic 99, 3) := by decide +kernel
theorem d_M_add_22 : decode b_M_add 22 = .ok (.ifCond .eq 5, 3) := by decide +kernel
theorem d_M_add_25 : decode b_M_add 25 = .ok (.iconst (-1), 1) := by decide +kernel
theorem d_M_add_26 : decode b_M_add 26 = .ok (.ireturn, 1) := by decide +kernel
theorem d_M_add_27 : decode b_M_add 27 = .ok (.iload_n 1, 1) := by decide +kernel
theorem d_M_add_28 : decode b_M_add 28 = .ok (.iconst 3, 1) := by decide +kernel
theorem d_M_add_29 : decode b_M_add 29 = .ok (.if_icmp .eq 24, 3) := by decide +kernel
theorem d_M_add_32 : decode b_M_add 32 = .ok (.iload_n 1, 1) := by decide +kernel
theorem d_M_add_33 : decode b_M_add 33 = .ok (.iconst 5, 1) := by decide +kernel
theorem d_M_add_34 : decode b_M_add 34 = .ok (.if_icmp .eq 19, 3) := by decide +kernel
theorem d_M_add_37 : decode b_M_add 37 = .ok (.iload_n 1, 1) := by decide +kernel
theorem d_M_add_38 : decode b_M_add 38 = .ok (.bipush 7, 2) := by decide +kernel
theorem d_M_add_40 : decode b_M_add 40 = .ok (.if_icmp .eq 13, 3) := by decide +kernel
theorem d_M_add_43 : decode b_M_add 43 = .ok (.iload_n 1, 1) := by decide +kernel
theorem d_M_add_44 : decode b_M_add 44 = .ok (.bipush 10, 2) := by decide +kernel
theorem d_M_add_46 : decode b_M_add 46 = .ok (.if_icmp .eq 7, 3) := by decide +kernel
theorem d_M_add_49 : decode b_M_add 49 = .ok (.iconst 1, 1) := by decide +kernel
theorem d_M_add_50 : decode b_M_add 50 = .ok (.goto 4, 3) := by decide +kernel
theorem d_M_add_53 : decode b_M_add 53 = .ok (.iconst 0, 1) := by decide +kernel
theorem d_M_add_54 : decode b_M_add 54 = .ok (.istore 5, 2) := by decide +kernel
theorem d_M_add_56 : decode b_M_add 56 = .ok (.iload 5, 2) := by decide +kernel
theorem d_M_add_58 : decode b_M_add 58 = .ok (.ifCond .eq 12, 3) := by decide +kernel
theorem d_M_add_61 : decode b_M_add 61 = .ok (.iload_n 3, 1) := by decide +kernel
theorem d_M_add_62 : decode b_M_add 62 = .ok (.bipush 6, 2) := by decide +kernel
theorem d_M_add_64 : decode b_M_add 64 = .ok (.invokestatic 99, 3) := by decide +kernel
theorem d_M_add_67 : decode b_M_add 67 = .ok (.ifCond .ne 35, 3) := by decide +kernel
theorem d_M_add_70 : decode b_M_add 70 = .ok (.iload_n 1, 1) := by decide +kernel
theorem d_M_add_71 : decode b_M_add 71 = .ok (.iconst 4, 1) := by decide +kernel
theorem d_M_add_72 : decode b_M_add 72 = .ok (.if_icmp .ne 13, 3) := by decide +kernel
theorem d_M_add_75 : decode b_M_add 75 = .ok (.iload 4, 2) := by decide +kernel
theorem d_M_add_77 : decode b_M_add 77 = .ok (.bipush 6, 2) := by decide +kernel
theorem d_M_add_79 : decode b_M_add 79 = .ok (.invokestatic 99, 3) := by decide +kernel
theorem d_M_add_82 : decode b_M_add 82 = .ok (.ifCond .ne 20, 3) := by decide +kernel
theorem d_M_add_85 : decode b_M_add 85 = .ok (.iload_n 1, 1) := by decide +kernel
theorem d_M_add_86 : decode b_M_add 86 = .ok (.bipush 7, 2) := by decide +kernel
theorem d_M_add_88 : decode b_M_add 88 = .ok (.if_icmp .ne 16, 3) := by decide +kernel
theorem d_M_add_91 : decode b_M_add 91 = .ok (.iload_n 3, 1) := by decide +kernel
theorem d_M_add_92 : decode b_M_add 92 = .ok (.iconst 1, 1) := by decide +kernel
theorem d_M_add_93 : decode b_M_add 93 = .ok (.if_icmp .lt 9, 3) := by decide +kernel
theorem d_M_add_96 : decode b_M_add 96 = .ok (.iload_n 3, 1) := by decide +kernel
theorem d_M_add_97 : decode b_M_add 97 = .ok (.bipush 7, 2) := by decide +kernel
theorem d_M_add_99 : decode b_M_add 99 = .ok (.if_icmp .le 5, 3) := by decide +kernel
theorem d_M_add_102 : decode b_M_add 102 = .ok (.iconst (-1), 1) := by decide +kernel
theorem d_M_add_103 : decode b_M_add 103 = .ok (.ireturn, 1) := by decide +kernel
theorem d_M_add_104 : decode b_M_add 104 = .ok (.aload_n 0, 1) := by decide +kernel
theorem d_M_add_105 : decode b_M_add 105 = .ok (.getfield 35, 3) := by decide +kernel
theorem d_M_add_108 : decode b_M_add 108 = .ok (.bipush 6, 2) := by decide +kernel
theorem d_M_add_110 : decode b_M_add 110 = .ok (.iaload, 1) := by decide +kernel
theorem d_M_add_111 : decode b_M_add 111 = .ok (.istore 6, 2) := by decide +kernel
theorem d_M_add_113 : decode b_M_add 113 = .ok (.iload 6, 2) := by decide +kernel
theorem d_M_add_115 : decode b_M_add 115 = .ok (.bipush 8, 2) := by decide +kernel
theorem d_M_add_117 : decode b_M_add 117 = .ok (.if_icmp .ne 6, 3) := by decide +kernel
theorem d_M_add_120 : decode b_M_add 120 = .ok (.bipush (-2), 2) := by decide +kernel
theorem d_M_add_122 : decode b_M_add 122 = .ok (.ireturn, 1) := by decide +kernel
theorem d_M_add_123 : decode b_M_add 123 = .ok (.aload_n 0, 1) := by decide +kernel
theorem d_M_add_124 : decode b_M_add 124 = .ok (.getfield 38, 3) := by decide +kernel
theorem d_M_add_127 : decode b_M_add 127 = .ok (.bipush 48, 2) := by decide +kernel
theorem d_M_add_129 : decode b_M_add 129 = .ok (.iload 6, 2) := by decide +kernel
theorem d_M_add_131 : decode b_M_add 131 = .ok (.iadd, 1) := by decide +kernel
theorem d_M_add_132 : decode b_M_add 132 = .ok (.iload_n 1, 1) := by decide +kernel
theorem d_M_add_133 : decode b_M_add 133 = .ok (.iastore, 1) := by decide +kernel
theorem d_M_add_134 : decode b_M_add 134 = .ok (.aload_n 0, 1) := by decide +kernel
theorem d_M_add_135 : decode b_M_add 135 = .ok (.getfield 41, 3) := by decide +kernel
theorem d_M_add_138 : decode b_M_add 138 = .ok (.bipush 48, 2) := by decide +kernel
theorem d_M_add_140 : decode b_M_add 140 = .ok (.iload 6, 2) := by decide +kernel
theorem d_M_add_142 : decode b_M_add 142 = .ok (.iadd, 1) := by decide +kernel
theorem d_M_add_143 : decode b_M_add 143 = .ok (.iload_n 2, 1) := by decide +kernel
theorem d_M_add_144 : decode b_M_add 144 = .ok (.iastore, 1) := by decide +kernel
theorem d_M_add_145 : decode b_M_add 145 = .ok (.aload_n 0, 1) := by decide +kernel
theorem d_M_add_146 : decode b_M_add 146 = .ok (.getfield 44, 3) := by decide +kernel
theorem d_M_add_149 : decode b_M_add 149 = .ok (.bipush 48, 2) := by decide +kernel
theorem d_M_add_151 : decode b_M_add 151 = .ok (.iload 6, 2) := by decide +kernel
theorem d_M_add_153 : decode b_M_add 153 = .ok (.iadd, 1) := by decide +kernel
theorem d_M_add_154 : decode b_M_add 154 = .ok (.iload_n 3, 1) := by decide +kernel
theorem d_M_add_155 : decode b_M_add 155 = .ok (.iastore, 1) := by decide +kernel
theorem d_M_add_156 : decode b_M_add 156 = .ok (.aload_n 0, 1) := by decide +kernel
theorem d_M_add_157 : decode b_M_add 157 = .ok (.getfield 47, 3) := by decide +kernel
theorem d_M_add_160 : decode b_M_add 160 = .ok (.bipush 48, 2) := by decide +kernel
theorem d_M_add_162 : decode b_M_add 162 = .ok (.iload 6, 2) := by decide +kernel
theorem d_M_add_164 : decode b_M_add 164 = .ok (.iadd, 1) := by decide +kernel
theorem d_M_add_165 : decode b_M_add 165 = .ok (.iload 4, 2) := by decide +kernel
theorem d_M_add_167 : decode b_M_add 167 = .ok (.iastore, 1) := by decide +kernel
theorem d_M_add_168 : decode b_M_add 168 = .ok (.aload_n 0, 1) := by decide +kernel
theorem d_M_add_169 : decode b_M_add 169 = .ok (.getfield 35, 3) := by decide +kernel
theorem d_M_add_172 : decode b_M_add 172 = .ok (.bipush 6, 2) := by decide +kernel
theorem d_M_add_174 : decode b_M_add 174 = .ok (.iload 6, 2) := by decide +kernel
theorem d_M_add_176 : decode b_M_add 176 = .ok (.iconst 1, 1) := by decide +kernel
theorem d_M_add_177 : decode b_M_add 177 = .ok (.iadd, 1) := by decide +kernel
theorem d_M_add_178 : decode b_M_add 178 = .ok (.iastore, 1) := by decide +kernel
theorem d_M_add_179 : decode b_M_add 179 = .ok (.iload 6, 2) := by decide +kernel
theorem d_M_add_181 : decode b_M_add 181 = .ok (.ireturn, 1) := by decide +kernel
theorem d_M_deploy_0 : decode b_M_deploy 0 = .ok (.aload_n 0, 1) := by decide +kernel
theorem d_M_deploy_1 : decode b_M_deploy 1 = .ok (.getfield 50, 3) := by decide +kernel
theorem d_M_deploy_4 : decode b_M_deploy 4 = .ok (.ifCond .ge 5, 3) := by decide +kernel
theorem d_M_deploy_7 : decode b_M_deploy 7 = .ok (.iconst (-1), 1) := by decide +kernel
theorem d_M_deploy_8 : decode b_M_deploy 8 = .ok (.ireturn, 1) := by decide +kernel
theorem d_M_deploy_9 : decode b_M_deploy 9 = .ok (.aload_n 0, 1) := by decide +kernel
theorem d_M_deploy_10 : decode b_M_deploy 10 = .ok (.getfield 50, 3) := by decide +kernel
theorem d_M_deploy_13 : decode b_M_deploy 13 = .ok (.istore_n 1, 1) := by decide +kernel
theorem d_M_deploy_14 : decode b_M_deploy 14 = .ok (.aload_n 0, 1) := by decide +kernel
theorem d_M_deploy_15 : decode b_M_deploy 15 = .ok (.iconst (-1), 1) := by decide +kernel
theorem d_M_deploy_16 : decode b_M_deploy 16 = .ok (.putfield 50, 3) := by decide +kernel
theorem d_M_deploy_19 : decode b_M_deploy 19 = .ok (.aload_n 0, 1) := by decide +kernel
theorem d_M_deploy_20 : decode b_M_deploy 20 = .ok (.getfield 35, 3) := by decide +kernel
theorem d_M_deploy_23 : decode b_M_deploy 23 = .ok (.bipush 6, 2) := by decide +kernel
theorem d_M_deploy_25 : decode b_M_deploy 25 = .ok (.iaload, 1) := by decide +kernel
theorem d_M_deploy_26 : decode b_M_deploy 26 = .ok (.istore_n 2, 1) := by decide +kernel
theorem d_M_deploy_27 : decode b_M_deploy 27 = .ok (.iload_n 2, 1) := by decide +kernel
theorem d_M_deploy_28 : decode b_M_deploy 28 = .ok (.ifCond .ne 7, 3) := by decide +kernel
theorem d_M_deploy_31 : decode b_M_deploy 31 = .ok (.iconst 1, 1) := by decide +kernel
theorem d_M_deploy_32 : decode b_M_deploy 32 = .ok (.goto 4, 3) := by decide +kernel
theorem d_M_deploy_35 : decode b_M_deploy 35 = .ok (.iconst 0, 1) := by decide +kernel
theorem d_M_deploy_36 : decode b_M_deploy 36 = .ok (.istore_n 3, 1) := by decide +kernel
theorem d_M_deploy_37 : decode b_M_deploy 37 = .ok (.iconst 0, 1) := by decide +kernel
theorem d_M_deploy_38 : decode b_M_deploy 38 = .ok (.istore 4, 2) := by decide +kernel
theorem d_M_deploy_40 : decode b_M_deploy 40 = .ok (.iload 4, 2) := by decide +kernel
theorem d_M_deploy_42 : decode b_M_deploy 42 = .ok (.iload_n 2, 1) := by decide +kernel
theorem d_M_deploy_43 : decode b_M_deploy 43 = .ok (.if_icmp .ge 72, 3) := by decide +kernel
theorem d_M_deploy_46 : decode b_M_deploy 46 = .ok (.aload_n 0, 1) := by decide +kernel
theorem d_M_deploy_47 : decode b_M_deploy 47 = .ok (.getfield 38, 3) := by decide +kernel
theorem d_M_deploy_50 : decode b_M_deploy 50 = .ok (.bipush 48, 2) := by decide +kernel
theorem d_M_deploy_52 : decode b_M_deploy 52 = .ok (.iload 4, 2) := by decide +kernel
theorem d_M_deploy_54 : decode b_M_deploy 54 = .ok (.iadd, 1) := by decide +kernel
theorem d_M_deploy_55 : decode b_M_deploy 55 = .ok (.iaload, 1) := by decide +kernel
theorem d_M_deploy_56 : decode b_M_deploy 56 = .ok (.bipush 7, 2) := by decide +kernel
theorem d_M_deploy_58 : decode b_M_deploy 58 = .ok (.if_icmp .ne 24, 3) := by decide +kernel
theorem d_M_deploy_61 : decode b_M_deploy 61 = .ok (.aload_n 0, 1) := by decide +kernel
theorem d_M_deploy_62 : decode b_M_deploy 62 = .ok (.getfield 44, 3) := by decide +kernel
theorem d_M_deploy_65 : decode b_M_deploy 65 = .ok (.bipush 48, 2) := by decide +kernel
theorem d_M_deploy_67 : decode b_M_deploy 67 = .ok (.iload 4, 2) := by decide +kernel
theorem d_M_deploy_69 : decode b_M_deploy 69 = .ok (.iadd, 1) := by decide +kernel
theorem d_M_deploy_70 : decode b_M_deploy 70 = .ok (.iaload, 1) := by decide +kernel
theorem d_M_deploy_71 : decode b_M_deploy 71 = .ok (.iload_n 2, 1) := by decide +kernel
theorem d_M_deploy_72 : decode b_M_deploy 72 = .ok (.iconst 1, 1) := by decide +kernel
theorem d_M_deploy_73 : decode b_M_deploy 73 = .ok (.isub, 1) := by decide +kernel
theorem d_M_deploy_74 : decode b_M_deploy 74 = .ok (.iload 4, 2) := by decide +kernel
theorem d_M_deploy_76 : decode b_M_deploy 76 = .ok (.isub, 1) := by decide +kernel
theorem d_M_deploy_77 : decode b_M_deploy 77 = .ok (.if_icmp .le 5, 3) := by decide +kernel
theorem d_M_deploy_80 : decode b_M_deploy 80 = .ok (.iconst 1, 1) := by decide +kernel
theorem d_M_deploy_81 : decode b_M_deploy 81 = .ok (.istore_n 3, 1) := by decide +kernel
theorem d_M_deploy_82 : decode b_M_deploy 82 = .ok (.aload_n 0, 1) := by decide +kernel
theorem d_M_deploy_83 : decode b_M_deploy 83 = .ok (.getfield 38, 3) := by decide +kernel
theorem d_M_deploy_86 : decode b_M_deploy 86 = .ok (.bipush 48, 2) := by decide +kernel
theorem d_M_deploy_88 : decode b_M_deploy 88 = .ok (.iload 4, 2) := by decide +kernel
theorem d_M_deploy_90 : decode b_M_deploy 90 = .ok (.iadd, 1) := by decide +kernel
theorem d_M_deploy_91 : decode b_M_deploy 91 = .ok (.iaload, 1) := by decide +kernel
theorem d_M_deploy_92 : decode b_M_deploy 92 = .ok (.bipush 9, 2) := by decide +kernel
theorem d_M_deploy_94 : decode b_M_deploy 94 = .ok (.if_icmp .ne 15, 3) := by decide +kernel
theorem d_M_deploy_97 : decode b_M_deploy 97 = .ok (.aload_n 0, 1) := by decide +kernel
theorem d_M_deploy_98 : decode b_M_deploy 98 = .ok (.getfield 32, 3) := by decide +kernel
theorem d_M_deploy_101 : decode b_M_deploy 101 = .ok (.bipush 6, 2) := by decide +kernel
theorem d_M_deploy_103 : decode b_M_deploy 103 = .ok (.baload, 1) := by decide +kernel
theorem d_M_deploy_104 : decode b_M_deploy 104 = .ok (.ifCond .ne 5, 3) := by decide +kernel
theorem d_M_deploy_107 : decode b_M_deploy 107 = .ok (.iconst 1, 1) := by decide +kernel
theorem d_M_deploy_108 : decode b_M_deploy 108 = .ok (.istore_n 3, 1) := by decide +kernel
theorem d_M_deploy_109 : decode b_M_deploy 109 = .ok (.iinc 4 1, 3) := by decide +kernel
theorem d_M_deploy_112 : decode b_M_deploy 112 = .ok (.goto (-72), 3) := by decide +kernel
theorem d_M_deploy_115 : decode b_M_deploy 115 = .ok (.iload_n 3, 1) := by decide +kernel
theorem d_M_deploy_116 : decode b_M_deploy 116 = .ok (.ifCond .eq 6, 3) := by decide +kernel
theorem d_M_deploy_119 : decode b_M_deploy 119 = .ok (.bipush (-3), 2) := by decide +kernel
theorem d_M_deploy_121 : decode b_M_deploy 121 = .ok (.ireturn, 1) := by decide +kernel
theorem d_M_deploy_122 : decode b_M_deploy 122 = .ok (.iconst 0, 1) := by decide +kernel
theorem d_M_deploy_123 : decode b_M_deploy 123 = .ok (.istore 4, 2) := by decide +kernel
theorem d_M_deploy_125 : decode b_M_deploy 125 = .ok (.iload 4, 2) := by decide +kernel
theorem d_M_deploy_127 : decode b_M_deploy 127 = .ok (.iload_n 2, 1) := by decide +kernel
theorem d_M_deploy_128 : decode b_M_deploy 128 = .ok (.if_icmp .ge 97, 3) := by decide +kernel
theorem d_M_deploy_131 : decode b_M_deploy 131 = .ok (.aload_n 0, 1) := by decide +kernel
theorem d_M_deploy_132 : decode b_M_deploy 132 = .ok (.getfield 38, 3) := by decide +kernel
theorem d_M_deploy_135 : decode b_M_deploy 135 = .ok (.bipush 8, 2) := by decide +kernel
theorem d_M_deploy_137 : decode b_M_deploy 137 = .ok (.iload_n 1, 1) := by decide +kernel
theorem d_M_deploy_138 : decode b_M_deploy 138 = .ok (.imul, 1) := by decide +kernel
theorem d_M_deploy_139 : decode b_M_deploy 139 = .ok (.iload 4, 2) := by decide +kernel
theorem d_M_deploy_141 : decode b_M_deploy 141 = .ok (.iadd, 1) := by decide +kernel
theorem d_M_deploy_142 : decode b_M_deploy 142 = .ok (.aload_n 0, 1) := by decide +kernel
theorem d_M_deploy_143 : decode b_M_deploy 143 = .ok (.getfield 38, 3) := by decide +kernel
theorem d_M_deploy_146 : decode b_M_deploy 146 = .ok (.bipush 48, 2) := by decide +kernel
theorem d_M_deploy_148 : decode b_M_deploy 148 = .ok (.iload 4, 2) := by decide +kernel
theorem d_M_deploy_150 : decode b_M_deploy 150 = .ok (.iadd, 1) := by decide +kernel
theorem d_M_deploy_151 : decode b_M_deploy 151 = .ok (.iaload, 1) := by decide +kernel
theorem d_M_deploy_152 : decode b_M_deploy 152 = .ok (.iastore, 1) := by decide +kernel
theorem d_M_deploy_153 : decode b_M_deploy 153 = .ok (.aload_n 0, 1) := by decide +kernel
theorem d_M_deploy_154 : decode b_M_deploy 154 = .ok (.getfield 41, 3) := by decide +kernel
theorem d_M_deploy_157 : decode b_M_deploy 157 = .ok (.bipush 8, 2) := by decide +kernel
theorem d_M_deploy_159 : decode b_M_deploy 159 = .ok (.iload_n 1, 1) := by decide +kernel
theorem d_M_deploy_160 : decode b_M_deploy 160 = .ok (.imul, 1) := by decide +kernel
theorem d_M_deploy_161 : decode b_M_deploy 161 = .ok (.iload 4, 2) := by decide +kernel
theorem d_M_deploy_163 : decode b_M_deploy 163 = .ok (.iadd, 1) := by decide +kernel
theorem d_M_deploy_164 : decode b_M_deploy 164 = .ok (.aload_n 0, 1) := by decide +kernel
theorem d_M_deploy_165 : decode b_M_deploy 165 = .ok (.getfield 41, 3) := by decide +kernel
theorem d_M_deploy_168 : decode b_M_deploy 168 = .ok (.bipush 48, 2) := by decide +kernel
theorem d_M_deploy_170 : decode b_M_deploy 170 = .ok (.iload 4, 2) := by decide +kernel
theorem d_M_deploy_172 : decode b_M_deploy 172 = .ok (.iadd, 1) := by decide +kernel
theorem d_M_deploy_173 : decode b_M_deploy 173 = .ok (.iaload, 1) := by decide +kernel
theorem d_M_deploy_174 : decode b_M_deploy 174 = .ok (.iastore, 1) := by decide +kernel
theorem d_M_deploy_175 : decode b_M_deploy 175 = .ok (.aload_n 0, 1) := by decide +kernel
theorem d_M_deploy_176 : decode b_M_deploy 176 = .ok (.getfield 44, 3) := by decide +kernel
theorem d_M_deploy_179 : decode b_M_deploy 179 = .ok (.bipush 8, 2) := by decide +kernel
theorem d_M_deploy_181 : decode b_M_deploy 181 = .ok (.iload_n 1, 1) := by decide +kernel
theorem d_M_deploy_182 : decode b_M_deploy 182 = .ok (.imul, 1) := by decide +kernel
theorem d_M_deploy_183 : decode b_M_deploy 183 = .ok (.iload 4, 2) := by decide +kernel
theorem d_M_deploy_185 : decode b_M_deploy 185 = .ok (.iadd, 1) := by decide +kernel
theorem d_M_deploy_186 : decode b_M_deploy 186 = .ok (.aload_n 0, 1) := by decide +kernel
theorem d_M_deploy_187 : decode b_M_deploy 187 = .ok (.getfield 44, 3) := by decide +kernel
theorem d_M_deploy_190 : decode b_M_deploy 190 = .ok (.bipush 48, 2) := by decide +kernel
theorem d_M_deploy_192 : decode b_M_deploy 192 = .ok (.iload 4, 2) := by decide +kernel
theorem d_M_deploy_194 : decode b_M_deploy 194 = .ok (.iadd, 1) := by decide +kernel
theorem d_M_deploy_195 : decode b_M_deploy 195 = .ok (.iaload, 1) := by decide +kernel
theorem d_M_deploy_196 : decode b_M_deploy 196 = .ok (.iastore, 1) := by decide +kernel
theorem d_M_deploy_197 : decode b_M_deploy 197 = .ok (.aload_n 0, 1) := by decide +kernel
theorem d_M_deploy_198 : decode b_M_deploy 198 = .ok (.getfield 47, 3) := by decide +kernel
theorem d_M_deploy_201 : decode b_M_deploy 201 = .ok (.bipush 8, 2) := by decide +kernel
theorem d_M_deploy_203 : decode b_M_deploy 203 = .ok (.iload_n 1, 1) := by decide +kernel
theorem d_M_deploy_204 : decode b_M_deploy 204 = .ok (.imul, 1) := by decide +kernel
theorem d_M_deploy_205 : decode b_M_deploy 205 = .ok (.iload 4, 2) := by decide +kernel
theorem d_M_deploy_207 : decode b_M_deploy 207 = .ok (.iadd, 1) := by decide +kernel
theorem d_M_deploy_208 : decode b_M_deploy 208 = .ok (.aload_n 0, 1) := by decide +kernel
theorem d_M_deploy_209 : decode b_M_deploy 209 = .ok (.getfield 47, 3) := by decide +kernel
theorem d_M_deploy_212 : decode b_M_deploy 212 = .ok (.bipush 48, 2) := by decide +kernel
theorem d_M_deploy_214 : decode b_M_deploy 214 = .ok (.iload 4, 2) := by decide +kernel
theorem d_M_deploy_216 : decode b_M_deploy 216 = .ok (.iadd, 1) := by decide +kernel
theorem d_M_deploy_217 : decode b_M_deploy 217 = .ok (.iaload, 1) := by decide +kernel
theorem d_M_deploy_218 : decode b_M_deploy 218 = .ok (.iastore, 1) := by decide +kernel
theorem d_M_deploy_219 : decode b_M_deploy 219 = .ok (.iinc 4 1, 3) := by decide +kernel
theorem d_M_deploy_222 : decode b_M_deploy 222 = .ok (.goto (-97), 3) := by decide +kernel
theorem d_M_deploy_225 : decode b_M_deploy 225 = .ok (.aload_n 0, 1) := by decide +kernel
theorem d_M_deploy_226 : decode b_M_deploy 226 = .ok (.getfield 35, 3) := by decide +kernel
theorem d_M_deploy_229 : decode b_M_deploy 229 = .ok (.iload_n 1, 1) := by decide +kernel
theorem d_M_deploy_230 : decode b_M_deploy 230 = .ok (.iload_n 2, 1) := by decide +kernel
theorem d_M_deploy_231 : decode b_M_deploy 231 = .ok (.iastore, 1) := by decide +kernel
theorem d_M_deploy_232 : decode b_M_deploy 232 = .ok (.aload_n 0, 1) := by decide +kernel
theorem d_M_deploy_233 : decode b_M_deploy 233 = .ok (.getfield 32, 3) := by decide +kernel
theorem d_M_deploy_236 : decode b_M_deploy 236 = .ok (.iload_n 1, 1) := by decide +kernel
theorem d_M_deploy_237 : decode b_M_deploy 237 = .ok (.aload_n 0, 1) := by decide +kernel
theorem d_M_deploy_238 : decode b_M_deploy 238 = .ok (.getfield 32, 3) := by decide +kernel
theorem d_M_deploy_241 : decode b_M_deploy 241 = .ok (.bipush 6, 2) := by decide +kernel
theorem d_M_deploy_243 : decode b_M_deploy 243 = .ok (.baload, 1) := by decide +kernel
theorem d_M_deploy_244 : decode b_M_deploy 244 = .ok (.bastore, 1) := by decide +kernel
theorem d_M_deploy_245 : decode b_M_deploy 245 = .ok (.aload_n 0, 1) := by decide +kernel
theorem d_M_deploy_246 : decode b_M_deploy 246 = .ok (.getfield 29, 3) := by decide +kernel
theorem d_M_deploy_249 : decode b_M_deploy 249 = .ok (.iload_n 1, 1) := by decide +kernel
theorem d_M_deploy_250 : decode b_M_deploy 250 = .ok (.iconst 1, 1) := by decide +kernel
theorem d_M_deploy_251 : decode b_M_deploy 251 = .ok (.bastore, 1) := by decide +kernel
theorem d_M_deploy_252 : decode b_M_deploy 252 = .ok (.iconst 0, 1) := by decide +kernel
theorem d_M_deploy_253 : decode b_M_deploy 253 = .ok (.ireturn, 1) := by decide +kernel
theorem d_M_logged_0 : decode b_M_logged 0 = .ok (.iconst 0, 1) := by decide +kernel
theorem d_M_logged_1 : decode b_M_logged 1 = .ok (.istore_n 1, 1) := by decide +kernel
theorem d_M_logged_2 : decode b_M_logged 2 = .ok (.aload_n 0, 1) := by decide +kernel
theorem d_M_logged_3 : decode b_M_logged 3 = .ok (.getfield 120, 3) := by decide +kernel
theorem d_M_logged_6 : decode b_M_logged 6 = .ok (.iconst 1, 1) := by decide +kernel
theorem d_M_logged_7 : decode b_M_logged 7 = .ok (.iadd, 1) := by decide +kernel
theorem d_M_logged_8 : decode b_M_logged 8 = .ok (.istore_n 2, 1) := by decide +kernel
theorem d_M_logged_9 : decode b_M_logged 9 = .ok (.iload_n 2, 1) := by decide +kernel
theorem d_M_logged_10 : decode b_M_logged 10 = .ok (.aload_n 0, 1) := by decide +kernel
theorem d_M_logged_11 : decode b_M_logged 11 = .ok (.getfield 133, 3) := by decide +kernel
theorem d_M_logged_14 : decode b_M_logged 14 = .ok (.if_icmp .gt 21, 3) := by decide +kernel
theorem d_M_logged_17 : decode b_M_logged 17 = .ok (.aload_n 0, 1) := by decide +kernel
theorem d_M_logged_18 : decode b_M_logged 18 = .ok (.getfield 54, 3) := by decide +kernel
theorem d_M_logged_21 : decode b_M_logged 21 = .ok (.iload_n 2, 1) := by decide +kernel
theorem d_M_logged_22 : decode b_M_logged 22 = .ok (.iaload, 1) := by decide +kernel
theorem d_M_logged_23 : decode b_M_logged 23 = .ok (.ifCond .lt 6, 3) := by decide +kernel
theorem d_M_logged_26 : decode b_M_logged 26 = .ok (.iinc 1 1, 3) := by decide +kernel
theorem d_M_logged_29 : decode b_M_logged 29 = .ok (.iinc 2 1, 3) := by decide +kernel
theorem d_M_logged_32 : decode b_M_logged 32 = .ok (.goto (-23), 3) := by decide +kernel
theorem d_M_logged_35 : decode b_M_logged 35 = .ok (.iload_n 1, 1) := by decide +kernel
theorem d_M_logged_36 : decode b_M_logged 36 = .ok (.ireturn, 1) := by decide +kernel
theorem d_M_next_0 : decode b_M_next 0 = .ok (.aload_n 0, 1) := by decide +kernel
theorem d_M_next_1 : decode b_M_next 1 = .ok (.dup, 1) := by decide +kernel
theorem d_M_next_2 : decode b_M_next 2 = .ok (.getfield 133, 3) := by decide +kernel
theorem d_M_next_5 : decode b_M_next 5 = .ok (.iconst 1, 1) := by decide +kernel
theorem d_M_next_6 : decode b_M_next 6 = .ok (.iadd, 1) := by decide +kernel
theorem d_M_next_7 : decode b_M_next 7 = .ok (.putfield 133, 3) := by decide +kernel
theorem d_M_next_10 : decode b_M_next 10 = .ok (.aload_n 0, 1) := by decide +kernel
theorem d_M_next_11 : decode b_M_next 11 = .ok (.getfield 54, 3) := by decide +kernel
theorem d_M_next_14 : decode b_M_next 14 = .ok (.aload_n 0, 1) := by decide +kernel
theorem d_M_next_15 : decode b_M_next 15 = .ok (.getfield 133, 3) := by decide +kernel
theorem d_M_next_18 : decode b_M_next 18 = .ok (.iload_n 1, 1) := by decide +kernel
theorem d_M_next_19 : decode b_M_next 19 = .ok (.iastore, 1) := by decide +kernel
theorem d_M_next_20 : decode b_M_next 20 = .ok (.aload_n 0, 1) := by decide +kernel
theorem d_M_next_21 : decode b_M_next 21 = .ok (.getfield 60, 3) := by decide +kernel
theorem d_M_next_24 : decode b_M_next 24 = .ok (.aload_n 0, 1) := by decide +kernel
theorem d_M_next_25 : decode b_M_next 25 = .ok (.getfield 133, 3) := by decide +kernel
theorem d_M_next_28 : decode b_M_next 28 = .ok (.iconst 0, 1) := by decide +kernel
theorem d_M_next_29 : decode b_M_next 29 = .ok (.bastore, 1) := by decide +kernel
theorem d_M_next_30 : decode b_M_next 30 = .ok (.aload_n 0, 1) := by decide +kernel
theorem d_M_next_31 : decode b_M_next 31 = .ok (.getfield 63, 3) := by decide +kernel
theorem d_M_next_34 : decode b_M_next 34 = .ok (.aload_n 0, 1) := by decide +kernel
theorem d_M_next_35 : decode b_M_next 35 = .ok (.getfield 133, 3) := by decide +kernel
theorem d_M_next_38 : decode b_M_next 38 = .ok (.iconst 0, 1) := by decide +kernel
theorem d_M_next_39 : decode b_M_next 39 = .ok (.iastore, 1) := by decide +kernel
theorem d_M_next_40 : decode b_M_next 40 = .ok (.aload_n 0, 1) := by decide +kernel
theorem d_M_next_41 : decode b_M_next 41 = .ok (.getfield 133, 3) := by decide +kernel
theorem d_M_next_44 : decode b_M_next 44 = .ok (.ireturn, 1) := by decide +kernel
theorem d_M_invoke_0 : decode b_M_invoke 0 = .ok (.iload_n 1, 1) := by decide +kernel
theorem d_M_invoke_1 : decode b_M_invoke 1 = .ok (.iconst 4, 1) := by decide +kernel
theorem d_M_invoke_2 : decode b_M_invoke 2 = .ok (.invokestatic 99, 3) := by decide +kernel
theorem d_M_invoke_5 : decode b_M_invoke 5 = .ok (.ifCond .ne 31, 3) := by decide +kernel
theorem d_M_invoke_8 : decode b_M_invoke 8 = .ok (.aload_n 0, 1) := by decide +kernel
theorem d_M_invoke_9 : decode b_M_invoke 9 = .ok (.getfield 78, 3) := by decide +kernel
theorem d_M_invoke_12 : decode b_M_invoke 12 = .ok (.iload_n 1, 1) := by decide +kernel
theorem d_M_invoke_13 : decode b_M_invoke 13 = .ok (.iaload, 1) := by decide +kernel
theorem d_M_invoke_14 : decode b_M_invoke 14 = .ok (.iconst 1, 1) := by decide +kernel
theorem d_M_invoke_15 : decode b_M_invoke 15 = .ok (.if_icmp .eq 21, 3) := by decide +kernel
theorem d_M_invoke_18 : decode b_M_invoke 18 = .ok (.iload_n 2, 1) := by decide +kernel
theorem d_M_invoke_19 : decode b_M_invoke 19 = .ok (.bipush 6, 2) := by decide +kernel
theorem d_M_invoke_21 : decode b_M_invoke 21 = .ok (.invokestatic 99, 3) := by decide +kernel
theorem d_M_invoke_24 : decode b_M_invoke 24 = .ok (.ifCond .ne 12, 3) := by decide +kernel
theorem d_M_invoke_27 : decode b_M_invoke 27 = .ok (.aload_n 0, 1) := by decide +kernel
theorem d_M_invoke_28 : decode b_M_invoke 28 = .ok (.getfield 29, 3) := by decide +kernel
theorem d_M_invoke_31 : decode b_M_invoke 31 = .ok (.iload_n 2, 1) := by decide +kernel
theorem d_M_invoke_32 : decode b_M_invoke 32 = .ok (.baload, 1) := by decide +kernel
theorem d_M_invoke_33 : decode b_M_invoke 33 = .ok (.ifCond .ne 5, 3) := by decide +kernel
theorem d_M_invoke_36 : decode b_M_invoke 36 = .ok (.iconst (-1), 1) := by decide +kernel
theorem d_M_invoke_37 : decode b_M_invoke 37 = .ok (.ireturn, 1) := by decide +kernel
theorem d_M_invoke_38 : decode b_M_invoke 38 = .ok (.aload_n 0, 1) := by decide +kernel
theorem d_M_invoke_39 : decode b_M_invoke 39 = .ok (.invokevirtual 139, 3) := by decide +kernel
theorem d_M_invoke_42 : decode b_M_invoke 42 = .ok (.bipush 48, 2) := by decide +kernel
theorem d_M_invoke_44 : decode b_M_invoke 44 = .ok (.if_icmp .lt 6, 3) := by decide +kernel
theorem d_M_invoke_47 : decode b_M_invoke 47 = .ok (.bipush (-2), 2) := by decide +kernel
theorem d_M_invoke_49 : decode b_M_invoke 49 = .ok (.ireturn, 1) := by decide +kernel
theorem d_M_invoke_50 : decode b_M_invoke 50 = .ok (.aload_n 0, 1) := by decide +kernel
theorem d_M_invoke_51 : decode b_M_invoke 51 = .ok (.iload_n 2, 1) := by decide +kernel
theorem d_M_invoke_52 : decode b_M_invoke 52 = .ok (.invokevirtual 143, 3) := by decide +kernel
theorem d_M_invoke_55 : decode b_M_invoke 55 = .ok (.istore 6, 2) := by decide +kernel
theorem d_M_invoke_57 : decode b_M_invoke 57 = .ok (.aload_n 0, 1) := by decide +kernel
theorem d_M_invoke_58 : decode b_M_invoke 58 = .ok (.getfield 57, 3) := by decide +kernel
theorem d_M_invoke_61 : decode b_M_invoke 61 = .ok (.iconst 3, 1) := by decide +kernel
theorem d_M_invoke_62 : decode b_M_invoke 62 = .ok (.iload 6, 2) := by decide +kernel
theorem d_M_invoke_64 : decode b_M_invoke 64 = .ok (.imul, 1) := by decide +kernel
theorem d_M_invoke_65 : decode b_M_invoke 65 = .ok (.iload_n 3, 1) := by decide +kernel
theorem d_M_invoke_66 : decode b_M_invoke 66 = .ok (.iastore, 1) := by decide +kernel
theorem d_M_invoke_67 : decode b_M_invoke 67 = .ok (.aload_n 0, 1) := by decide +kernel
theorem d_M_invoke_68 : decode b_M_invoke 68 = .ok (.getfield 57, 3) := by decide +kernel
theorem d_M_invoke_71 : decode b_M_invoke 71 = .ok (.iconst 3, 1) := by decide +kernel
theorem d_M_invoke_72 : decode b_M_invoke 72 = .ok (.iload 6, 2) := by decide +kernel
theorem d_M_invoke_74 : decode b_M_invoke 74 = .ok (.imul, 1) := by decide +kernel
theorem d_M_invoke_75 : decode b_M_invoke 75 = .ok (.iconst 1, 1) := by decide +kernel
theorem d_M_invoke_76 : decode b_M_invoke 76 = .ok (.iadd, 1) := by decide +kernel
theorem d_M_invoke_77 : decode b_M_invoke 77 = .ok (.iload 4, 2) := by decide +kernel
theorem d_M_invoke_79 : decode b_M_invoke 79 = .ok (.iastore, 1) := by decide +kernel
theorem d_M_invoke_80 : decode b_M_invoke 80 = .ok (.aload_n 0, 1) := by decide +kernel
theorem d_M_invoke_81 : decode b_M_invoke 81 = .ok (.getfield 57, 3) := by decide +kernel
theorem d_M_invoke_84 : decode b_M_invoke 84 = .ok (.iconst 3, 1) := by decide +kernel
theorem d_M_invoke_85 : decode b_M_invoke 85 = .ok (.iload 6, 2) := by decide +kernel
theorem d_M_invoke_87 : decode b_M_invoke 87 = .ok (.imul, 1) := by decide +kernel
theorem d_M_invoke_88 : decode b_M_invoke 88 = .ok (.iconst 2, 1) := by decide +kernel
theorem d_M_invoke_89 : decode b_M_invoke 89 = .ok (.iadd, 1) := by decide +kernel
theorem d_M_invoke_90 : decode b_M_invoke 90 = .ok (.iload 5, 2) := by decide +kernel
theorem d_M_invoke_92 : decode b_M_invoke 92 = .ok (.iastore, 1) := by decide +kernel
theorem d_M_invoke_93 : decode b_M_invoke 93 = .ok (.aload_n 0, 1) := by decide +kernel
theorem d_M_invoke_94 : decode b_M_invoke 94 = .ok (.getfield 78, 3) := by decide +kernel
theorem d_M_invoke_97 : decode b_M_invoke 97 = .ok (.iload_n 1, 1) := by decide +kernel
theorem d_M_invoke_98 : decode b_M_invoke 98 = .ok (.iconst 1, 1) := by decide +kernel
theorem d_M_invoke_99 : decode b_M_invoke 99 = .ok (.iastore, 1) := by decide +kernel
theorem d_M_invoke_100 : decode b_M_invoke 100 = .ok (.aload_n 0, 1) := by decide +kernel
theorem d_M_invoke_101 : decode b_M_invoke 101 = .ok (.getfield 81, 3) := by decide +kernel
theorem d_M_invoke_104 : decode b_M_invoke 104 = .ok (.iload_n 1, 1) := by decide +kernel
theorem d_M_invoke_105 : decode b_M_invoke 105 = .ok (.iload 6, 2) := by decide +kernel
theorem d_M_invoke_107 : decode b_M_invoke 107 = .ok (.iastore, 1) := by decide +kernel
theorem d_M_invoke_108 : decode b_M_invoke 108 = .ok (.iload 6, 2) := by decide +kernel
theorem d_M_invoke_110 : decode b_M_invoke 110 = .ok (.ireturn, 1) := by decide +kernel
theorem d_M_partitionOf_0 : decode b_M_partitionOf 0 = .ok (.aload_n 0, 1) := by decide +kernel
theorem d_M_partitionOf_1 : decode b_M_partitionOf 1 = .ok (.getfield 57, 3) := by decide +kernel
theorem d_M_partitionOf_4 : decode b_M_partitionOf 4 = .ok (.iconst 3, 1) := by decide +kernel
theorem d_M_partitionOf_5 : decode b_M_partitionOf 5 = .ok (.iload_n 1, 1) := by decide +kernel
theorem d_M_partitionOf_6 : decode b_M_partitionOf 6 = .ok (.imul, 1) := by decide +kernel
theorem d_M_partitionOf_7 : decode b_M_partitionOf 7 = .ok (.iaload, 1) := by decide +kernel
theorem d_M_partitionOf_8 : decode b_M_partitionOf 8 = .ok (.aload_n 0, 1) := by decide +kernel
theorem d_M_partitionOf_9 : decode b_M_partitionOf 9 = .ok (.getfield 96, 3) := by decide +kernel
theorem d_M_partitionOf_12 : decode b_M_partitionOf 12 = .ok (.irem, 1) := by decide +kernel
theorem d_M_partitionOf_13 : decode b_M_partitionOf 13 = .ok (.istore_n 2, 1) := by decide +kernel
theorem d_M_partitionOf_14 : decode b_M_partitionOf 14 = .ok (.iload_n 2, 1) := by decide +kernel
theorem d_M_partitionOf_15 : decode b_M_partitionOf 15 = .ok (.ifCond .ge 12, 3) := by decide +kernel
theorem d_M_partitionOf_18 : decode b_M_partitionOf 18 = .ok (.iload_n 2, 1) := by decide +kernel
theorem d_M_partitionOf_19 : decode b_M_partitionOf 19 = .ok (.aload_n 0, 1) := by decide +kernel
theorem d_M_partitionOf_20 : decode b_M_partitionOf 20 = .ok (.getfield 96, 3) := by decide +kernel
theorem d_M_partitionOf_23 : decode b_M_partitionOf 23 = .ok (.iadd, 1) := by decide +kernel
theorem d_M_partitionOf_24 : decode b_M_partitionOf 24 = .ok (.goto 4, 3) := by decide +kernel
theorem d_M_partitionOf_27 : decode b_M_partitionOf 27 = .ok (.iload_n 2, 1) := by decide +kernel
theorem d_M_partitionOf_28 : decode b_M_partitionOf 28 = .ok (.ireturn, 1) := by decide +kernel
theorem d_M_waits_0 : decode b_M_waits 0 = .ok (.aload_n 0, 1) := by decide +kernel
theorem d_M_waits_1 : decode b_M_waits 1 = .ok (.getfield 54, 3) := by decide +kernel
theorem d_M_waits_4 : decode b_M_waits 4 = .ok (.iload_n 2, 1) := by decide +kernel
theorem d_M_waits_5 : decode b_M_waits 5 = .ok (.iaload, 1) := by decide +kernel
theorem d_M_waits_6 : decode b_M_waits 6 = .ok (.ifCond .ge 31, 3) := by decide +kernel
theorem d_M_waits_9 : decode b_M_waits 9 = .ok (.aload_n 0, 1) := by decide +kernel
theorem d_M_waits_10 : decode b_M_waits 10 = .ok (.getfield 60, 3) := by decide +kernel
theorem d_M_waits_13 : decode b_M_waits 13 = .ok (.iload_n 2, 1) := by decide +kernel
theorem d_M_waits_14 : decode b_M_waits 14 = .ok (.baload, 1) := by decide +kernel
theorem d_M_waits_15 : decode b_M_waits 15 = .ok (.ifCond .ne 20, 3) := by decide +kernel
theorem d_M_waits_18 : decode b_M_waits 18 = .ok (.aload_n 0, 1) := by decide +kernel
theorem d_M_waits_19 : decode b_M_waits 19 = .ok (.getfield 63, 3) := by decide +kernel
theorem d_M_waits_22 : decode b_M_waits 22 = .ok (.iload_n 2, 1) := by decide +kernel
theorem d_M_waits_23 : decode b_M_waits 23 = .ok (.iaload, 1) := by decide +kernel
theorem d_M_waits_24 : decode b_M_waits 24 = .ok (.iload_n 1, 1) := by decide +kernel
theorem d_M_waits_25 : decode b_M_waits 25 = .ok (.ishr, 1) := by decide +kernel
theorem d_M_waits_26 : decode b_M_waits 26 = .ok (.iconst 1, 1) := by decide +kernel
theorem d_M_waits_27 : decode b_M_waits 27 = .ok (.iand, 1) := by decide +kernel
theorem d_M_waits_28 : decode b_M_waits 28 = .ok (.ifCond .ne 7, 3) := by decide +kernel
theorem d_M_waits_31 : decode b_M_waits 31 = .ok (.iconst 1, 1) := by decide +kernel
theorem d_M_waits_32 : decode b_M_waits 32 = .ok (.goto 4, 3) := by decide +kernel
theorem d_M_waits_35 : decode b_M_waits 35 = .ok (.iconst 0, 1) := by decide +kernel
theorem d_M_waits_36 : decode b_M_waits 36 = .ok (.ireturn, 1) := by decide +kernel
theorem d_M_waits_37 : decode b_M_waits 37 = .ok (.aload_n 0, 1) := by decide +kernel
theorem d_M_waits_38 : decode b_M_waits 38 = .ok (.getfield 60, 3) := by decide +kernel
theorem d_M_waits_41 : decode b_M_waits 41 = .ok (.iload_n 2, 1) := by decide +kernel
theorem d_M_waits_42 : decode b_M_waits 42 = .ok (.baload, 1) := by decide +kernel
theorem d_M_waits_43 : decode b_M_waits 43 = .ok (.ifCond .ne 30, 3) := by decide +kernel
theorem d_M_waits_46 : decode b_M_waits 46 = .ok (.aload_n 0, 1) := by decide +kernel
theorem d_M_waits_47 : decode b_M_waits 47 = .ok (.getfield 32, 3) := by decide +kernel
theorem d_M_waits_50 : decode b_M_waits 50 = .ok (.aload_n 0, 1) := by decide +kernel
theorem d_M_waits_51 : decode b_M_waits 51 = .ok (.getfield 54, 3) := by decide +kernel
theorem d_M_waits_54 : decode b_M_waits 54 = .ok (.iload_n 2, 1) := by decide +kernel
theorem d_M_waits_55 : decode b_M_waits 55 = .ok (.iaload, 1) := by decide +kernel
theorem d_M_waits_56 : decode b_M_waits 56 = .ok (.baload, 1) := by decide +kernel
theorem d_M_waits_57 : decode b_M_waits 57 = .ok (.ifCond .ne 12, 3) := by decide +kernel
theorem d_M_waits_60 : decode b_M_waits 60 = .ok (.aload_n 0, 1) := by decide +kernel
theorem d_M_waits_61 : decode b_M_waits 61 = .ok (.iload_n 2, 1) := by decide +kernel
theorem d_M_waits_62 : decode b_M_waits 62 = .ok (.invokevirtual 103, 3) := by decide +kernel
theorem d_M_waits_65 : decode b_M_waits 65 = .ok (.iload_n 1, 1) := by decide +kernel
theorem d_M_waits_66 : decode b_M_waits 66 = .ok (.if_icmp .ne 7, 3) := by decide +kernel
theorem d_M_waits_69 : decode b_M_waits 69 = .ok (.iconst 1, 1) := by decide +kernel
theorem d_M_waits_70 : decode b_M_waits 70 = .ok (.goto 4, 3) := by decide +kernel
theorem d_M_waits_73 : decode b_M_waits 73 = .ok (.iconst 0, 1) := by decide +kernel
theorem d_M_waits_74 : decode b_M_waits 74 = .ok (.ireturn, 1) := by decide +kernel
theorem d_M_rowsOf_0 : decode b_M_rowsOf 0 = .ok (.iconst 0, 1) := by decide +kernel
theorem d_M_rowsOf_1 : decode b_M_rowsOf 1 = .ok (.istore_n 2, 1) := by decide +kernel
theorem d_M_rowsOf_2 : decode b_M_rowsOf 2 = .ok (.iload_n 1, 1) := by decide +kernel
theorem d_M_rowsOf_3 : decode b_M_rowsOf 3 = .ok (.istore_n 3, 1) := by decide +kernel
theorem d_M_rowsOf_4 : decode b_M_rowsOf 4 = .ok (.iload_n 3, 1) := by decide +kernel
theorem d_M_rowsOf_5 : decode b_M_rowsOf 5 = .ok (.bipush 32, 2) := by decide +kernel
theorem d_M_rowsOf_7 : decode b_M_rowsOf 7 = .ok (.if_icmp .ge 25, 3) := by decide +kernel
theorem d_M_rowsOf_10 : decode b_M_rowsOf 10 = .ok (.aload_n 0, 1) := by decide +kernel
theorem d_M_rowsOf_11 : decode b_M_rowsOf 11 = .ok (.getfield 7, 3) := by decide +kernel
theorem d_M_rowsOf_14 : decode b_M_rowsOf 14 = .ok (.iload_n 3, 1) := by decide +kernel
theorem d_M_rowsOf_15 : decode b_M_rowsOf 15 = .ok (.baload, 1) := by decide +kernel
theorem d_M_rowsOf_16 : decode b_M_rowsOf 16 = .ok (.ifCond .eq 6, 3) := by decide +kernel
theorem d_M_rowsOf_19 : decode b_M_rowsOf 19 = .ok (.iinc 2 1, 3) := by decide +kernel
theorem d_M_rowsOf_22 : decode b_M_rowsOf 22 = .ok (.iload_n 3, 1) := by decide +kernel
theorem d_M_rowsOf_23 : decode b_M_rowsOf 23 = .ok (.aload_n 0, 1) := by decide +kernel
theorem d_M_rowsOf_24 : decode b_M_rowsOf 24 = .ok (.getfield 96, 3) := by decide +kernel
theorem d_M_rowsOf_27 : decode b_M_rowsOf 27 = .ok (.iadd, 1) := by decide +kernel
theorem d_M_rowsOf_28 : decode b_M_rowsOf 28 = .ok (.istore_n 3, 1) := by decide +kernel
theorem d_M_rowsOf_29 : decode b_M_rowsOf 29 = .ok (.goto (-25), 3) := by decide +kernel
theorem d_M_rowsOf_32 : decode b_M_rowsOf 32 = .ok (.iload_n 2, 1) := by decide +kernel
theorem d_M_rowsOf_33 : decode b_M_rowsOf 33 = .ok (.ireturn, 1) := by decide +kernel
theorem d_M_foreign_0 : decode b_M_foreign 0 = .ok (.iload_n 2, 1) := by decide +kernel
theorem d_M_foreign_1 : decode b_M_foreign 1 = .ok (.bipush 32, 2) := by decide +kernel
theorem d_M_foreign_3 : decode b_M_foreign 3 = .ok (.invokestatic 99, 3) := by decide +kernel
theorem d_M_foreign_6 : decode b_M_foreign 6 = .ok (.ifCond .ne 31, 3) := by decide +kernel
theorem d_M_foreign_9 : decode b_M_foreign 9 = .ok (.aload_n 0, 1) := by decide +kernel
theorem d_M_foreign_10 : decode b_M_foreign 10 = .ok (.getfield 32, 3) := by decide +kernel
theorem d_M_foreign_13 : decode b_M_foreign 13 = .ok (.aload_n 0, 1) := by decide +kernel
theorem d_M_foreign_14 : decode b_M_foreign 14 = .ok (.getfield 54, 3) := by decide +kernel
theorem d_M_foreign_17 : decode b_M_foreign 17 = .ok (.iload_n 1, 1) := by decide +kernel
theorem d_M_foreign_18 : decode b_M_foreign 18 = .ok (.iaload, 1) := by decide +kernel
theorem d_M_foreign_19 : decode b_M_foreign 19 = .ok (.baload, 1) := by decide +kernel
theorem d_M_foreign_20 : decode b_M_foreign 20 = .ok (.ifCond .ne 21, 3) := by decide +kernel
theorem d_M_foreign_23 : decode b_M_foreign 23 = .ok (.iload_n 2, 1) := by decide +kernel
theorem d_M_foreign_24 : decode b_M_foreign 24 = .ok (.aload_n 0, 1) := by decide +kernel
theorem d_M_foreign_25 : decode b_M_foreign 25 = .ok (.getfield 96, 3) := by decide +kernel
theorem d_M_foreign_28 : decode b_M_foreign 28 = .ok (.irem, 1) := by decide +kernel
theorem d_M_foreign_29 : decode b_M_foreign 29 = .ok (.aload_n 0, 1) := by decide +kernel
theorem d_M_foreign_30 : decode b_M_foreign 30 = .ok (.iload_n 1, 1) := by decide +kernel
theorem d_M_foreign_31 : decode b_M_foreign 31 = .ok (.invokevirtual 103, 3) := by decide +kernel
theorem d_M_foreign_34 : decode b_M_foreign 34 = .ok (.if_icmp .eq 7, 3) := by decide +kernel
theorem d_M_foreign_37 : decode b_M_foreign 37 = .ok (.iconst 1, 1) := by decide +kernel
theorem d_M_foreign_38 : decode b_M_foreign 38 = .ok (.goto 4, 3) := by decide +kernel
theorem d_M_foreign_41 : decode b_M_foreign 41 = .ok (.iconst 0, 1) := by decide +kernel
theorem d_M_foreign_42 : decode b_M_foreign 42 = .ok (.ireturn, 1) := by decide +kernel
theorem d_M_put_0 : decode b_M_put 0 = .ok (.aload_n 0, 1) := by decide +kernel
theorem d_M_put_1 : decode b_M_put 1 = .ok (.getfield 7, 3) := by decide +kernel
theorem d_M_put_4 : decode b_M_put 4 = .ok (.iload_n 1, 1) := by decide +kernel
theorem d_M_put_5 : decode b_M_put 5 = .ok (.iload_n 2, 1) := by decide +kernel
theorem d_M_put_6 : decode b_M_put 6 = .ok (.bastore, 1) := by decide +kernel
theorem d_M_put_7 : decode b_M_put 7 = .ok (.aload_n 0, 1) := by decide +kernel
theorem d_M_put_8 : decode b_M_put 8 = .ok (.getfield 13, 3) := by decide +kernel
theorem d_M_put_11 : decode b_M_put 11 = .ok (.iload_n 1, 1) := by decide +kernel
theorem d_M_put_12 : decode b_M_put 12 = .ok (.iload_n 3, 1) := by decide +kernel
theorem d_M_put_13 : decode b_M_put 13 = .ok (.iastore, 1) := by decide +kernel
theorem d_M_put_14 : decode b_M_put 14 = .ok (.iconst 1, 1) := by decide +kernel
theorem d_M_put_15 : decode b_M_put 15 = .ok (.ireturn, 1) := by decide +kernel
theorem d_M_statement_0 : decode b_M_statement 0 = .ok (.aload_n 0, 1) := by decide +kernel
theorem d_M_statement_1 : decode b_M_statement 1 = .ok (.getfield 93, 3) := by decide +kernel
theorem d_M_statement_4 : decode b_M_statement 4 = .ok (.aload_n 0, 1) := by decide +kernel
theorem d_M_statement_5 : decode b_M_statement 5 = .ok (.getfield 41, 3) := by decide +kernel
theorem d_M_statement_8 : decode b_M_statement 8 = .ok (.iload_n 2, 1) := by decide +kernel
theorem d_M_statement_9 : decode b_M_statement 9 = .ok (.iaload, 1) := by decide +kernel
theorem d_M_statement_10 : decode b_M_statement 10 = .ok (.iaload, 1) := by decide +kernel
theorem d_M_statement_11 : decode b_M_statement 11 = .ok (.istore_n 3, 1) := by decide +kernel
theorem d_M_statement_12 : decode b_M_statement 12 = .ok (.aload_n 0, 1) := by decide +kernel
theorem d_M_statement_13 : decode b_M_statement 13 = .ok (.getfield 38, 3) := by decide +kernel
theorem d_M_statement_16 : decode b_M_statement 16 = .ok (.iload_n 2, 1) := by decide +kernel
theorem d_M_statement_17 : decode b_M_statement 17 = .ok (.iaload, 1) := by decide +kernel
theorem d_M_statement_18 : decode b_M_statement 18 = .ok (.iconst 3, 1) := by decide +kernel
theorem d_M_statement_19 : decode b_M_statement 19 = .ok (.if_icmp .eq 35, 3) := by decide +kernel
theorem d_M_statement_22 : decode b_M_statement 22 = .ok (.aload_n 0, 1) := by decide +kernel
theorem d_M_statement_23 : decode b_M_statement 23 = .ok (.getfield 38, 3) := by decide +kernel
theorem d_M_statement_26 : decode b_M_statement 26 = .ok (.iload_n 2, 1) := by decide +kernel
theorem d_M_statement_27 : decode b_M_statement 27 = .ok (.iaload, 1) := by decide +kernel
theorem d_M_statement_28 : decode b_M_statement 28 = .ok (.iconst 5, 1) := by decide +kernel
theorem d_M_statement_29 : decode b_M_statement 29 = .ok (.if_icmp .eq 25, 3) := by decide +kernel
theorem d_M_statement_32 : decode b_M_statement 32 = .ok (.aload_n 0, 1) := by decide +kernel
theorem d_M_statement_33 : decode b_M_statement 33 = .ok (.getfield 38, 3) := by decide +kernel
theorem d_M_statement_36 : decode b_M_statement 36 = .ok (.iload_n 2, 1) := by decide +kernel
theorem d_M_statement_37 : decode b_M_statement 37 = .ok (.iaload, 1) := by decide +kernel
theorem d_M_statement_38 : decode b_M_statement 38 = .ok (.bipush 7, 2) := by decide +kernel
theorem d_M_statement_40 : decode b_M_statement 40 = .ok (.if_icmp .eq 14, 3) := by decide +kernel
theorem d_M_statement_43 : decode b_M_statement 43 = .ok (.aload_n 0, 1) := by decide +kernel
theorem d_M_statement_44 : decode b_M_statement 44 = .ok (.getfield 38, 3) := by decide +kernel
theorem d_M_statement_47 : decode b_M_statement 47 = .ok (.iload_n 2, 1) := by decide +kernel
theorem d_M_statement_48 : decode b_M_statement 48 = .ok (.iaload, 1) := by decide +kernel
theorem d_M_statement_49 : decode b_M_statement 49 = .ok (.bipush 10, 2) := by decide +kernel
theorem d_M_statement_51 : decode b_M_statement 51 = .ok (.if_icmp .ne 7, 3) := by decide +kernel
theorem d_M_statement_54 : decode b_M_statement 54 = .ok (.iconst 0, 1) := by decide +kernel
theorem d_M_statement_55 : decode b_M_statement 55 = .ok (.goto 14, 3) := by decide +kernel
theorem d_M_statement_58 : decode b_M_statement 58 = .ok (.aload_n 0, 1) := by decide +kernel
theorem d_M_statement_59 : decode b_M_statement 59 = .ok (.getfield 93, 3) := by decide +kernel
theorem d_M_statement_62 : decode b_M_statement 62 = .ok (.aload_n 0, 1) := by decide +kernel
theorem d_M_statement_63 : decode b_M_statement 63 = .ok (.getfield 44, 3) := by decide +kernel
theorem d_M_statement_66 : decode b_M_statement 66 = .ok (.iload_n 2, 1) := by decide +kernel
theorem d_M_statement_67 : decode b_M_statement 67 = .ok (.iaload, 1) := by decide +kernel
theorem d_M_statement_68 : decode b_M_statement 68 = .ok (.iaload, 1) := by decide +kernel
theorem d_M_statement_69 : decode b_M_statement 69 = .ok (.istore 4, 2) := by decide +kernel
theorem d_M_statement_71 : decode b_M_statement 71 = .ok (.aload_n 0, 1) := by decide +kernel
theorem d_M_statement_72 : decode b_M_statement 72 = .ok (.getfield 38, 3) := by decide +kernel
theorem d_M_statement_75 : decode b_M_statement 75 = .ok (.iload_n 2, 1) := by decide +kernel
theorem d_M_statement_76 : decode b_M_statement 76 = .ok (.iaload, 1) := by decide +kernel
theorem d_M_statement_77 : decode b_M_statement 77 = .ok (.tableswitch 358 0 10 #[59, 101, 127, 162, 196, 223, 242, 358, 254, 289, 318], 59) := by decide +kernel
theorem d_M_statement_136 : decode b_M_statement 136 = .ok (.aload_n 0, 1) := by decide +kernel
theorem d_M_statement_137 : decode b_M_statement 137 = .ok (.iload_n 1, 1) := by decide +kernel
theorem d_M_statement_138 : decode b_M_statement 138 = .ok (.iload 4, 2) := by decide +kernel
theorem d_M_statement_140 : decode b_M_statement 140 = .ok (.invokevirtual 107, 3) := by decide +kernel
theorem d_M_statement_143 : decode b_M_statement 143 = .ok (.ifCond .ne 13, 3) := by decide +kernel
theorem d_M_statement_146 : decode b_M_statement 146 = .ok (.aload_n 0, 1) := by decide +kernel
theorem d_M_statement_147 : decode b_M_statement 147 = .ok (.getfield 7, 3) := by decide +kernel
theorem d_M_statement_150 : decode b_M_statement 150 = .ok (.iload 4, 2) := by decide +kernel
theorem d_M_statement_152 : decode b_M_statement 152 = .ok (.baload, 1) := by decide +kernel
theorem d_M_statement_153 : decode b_M_statement 153 = .ok (.ifCond .ne 5, 3) := by decide +kernel
theorem d_M_statement_156 : decode b_M_statement 156 = .ok (.iconst 0, 1) := by decide +kernel
theorem d_M_statement_157 : decode b_M_statement 157 = .ok (.ireturn, 1) := by decide +kernel
theorem d_M_statement_158 : decode b_M_statement 158 = .ok (.aload_n 0, 1) := by decide +kernel
theorem d_M_statement_159 : decode b_M_statement 159 = .ok (.getfield 93, 3) := by decide +kernel
theorem d_M_statement_162 : decode b_M_statement 162 = .ok (.aload_n 0, 1) := by decide +kernel
theorem d_M_statement_163 : decode b_M_statement 163 = .ok (.getfield 41, 3) := by decide +kernel
theorem d_M_statement_166 : decode b_M_statement 166 = .ok (.iload_n 2, 1) := by decide +kernel
theorem d_M_statement_167 : decode b_M_statement 167 = .ok (.iaload, 1) := by decide +kernel
theorem d_M_statement_168 : decode b_M_statement 168 = .ok (.aload_n 0, 1) := by decide +kernel
theorem d_M_statement_169 : decode b_M_statement 169 = .ok (.getfield 13, 3) := by decide +kernel
theorem d_M_statement_172 : decode b_M_statement 172 = .ok (.iload 4, 2) := by decide +kernel
theorem d_M_statement_174 : decode b_M_statement 174 = .ok (.iaload, 1) := by decide +kernel
theorem d_M_statement_175 : decode b_M_statement 175 = .ok (.iastore, 1) := by decide +kernel
theorem d_M_statement_176 : decode b_M_statement 176 = .ok (.iconst 1, 1) := by decide +kernel
theorem d_M_statement_177 : decode b_M_statement 177 = .ok (.ireturn, 1) := by decide +kernel
theorem d_M_statement_178 : decode b_M_statement 178 = .ok (.aload_n 0, 1) := by decide +kernel
theorem d_M_statement_179 : decode b_M_statement 179 = .ok (.iload_n 1, 1) := by decide +kernel
theorem d_M_statement_180 : decode b_M_statement 180 = .ok (.iload_n 3, 1) := by decide +kernel
theorem d_M_statement_181 : decode b_M_statement 181 = .ok (.invokevirtual 107, 3) := by decide +kernel
theorem d_M_statement_184 : decode b_M_statement 184 = .ok (.ifCond .ne 18, 3) := by decide +kernel
theorem d_M_statement_187 : decode b_M_statement 187 = .ok (.aload_n 0, 1) := by decide +kernel
theorem d_M_statement_188 : decode b_M_statement 188 = .ok (.iload_n 3, 1) := by decide +kernel
theorem d_M_statement_189 : decode b_M_statement 189 = .ok (.iconst 1, 1) := by decide +kernel
theorem d_M_statement_190 : decode b_M_statement 190 = .ok (.iload 4, 2) := by decide +kernel
theorem d_M_statement_192 : decode b_M_statement 192 = .ok (.invokevirtual 110, 3) := by decide +kernel
theorem d_M_statement_195 : decode b_M_statement 195 = .ok (.ifCond .eq 7, 3) := by decide +kernel
theorem d_M_statement_198 : decode b_M_statement 198 = .ok (.iconst 1, 1) := by decide +kernel
theorem d_M_statement_199 : decode b_M_statement 199 = .ok (.goto 4, 3) := by decide +kernel
theorem d_M_statement_202 : decode b_M_statement 202 = .ok (.iconst 0, 1) := by decide +kernel
theorem d_M_statement_203 : decode b_M_statement 203 = .ok (.ireturn, 1) := by decide +kernel
theorem d_M_statement_204 : decode b_M_statement 204 = .ok (.aload_n 0, 1) := by decide +kernel
theorem d_M_statement_205 : decode b_M_statement 205 = .ok (.iload_n 1, 1) := by decide +kernel
theorem d_M_statement_206 : decode b_M_statement 206 = .ok (.iload_n 3, 1) := by decide +kernel
theorem d_M_statement_207 : decode b_M_statement 207 = .ok (.invokevirtual 107, 3) := by decide +kernel
theorem d_M_statement_210 : decode b_M_statement 210 = .ok (.ifCond .ne 27, 3) := by decide +kernel
theorem d_M_statement_213 : decode b_M_statement 213 = .ok (.aload_n 0, 1) := by decide +kernel
theorem d_M_statement_214 : decode b_M_statement 214 = .ok (.getfield 7, 3) := by decide +kernel
theorem d_M_statement_217 : decode b_M_statement 217 = .ok (.iload_n 3, 1) := by decide +kernel
theorem d_M_statement_218 : decode b_M_statement 218 = .ok (.baload, 1) := by decide +kernel
theorem d_M_statement_219 : decode b_M_statement 219 = .ok (.ifCond .ne 18, 3) := by decide +kernel
theorem d_M_statement_222 : decode b_M_statement 222 = .ok (.aload_n 0, 1) := by decide +kernel
theorem d_M_statement_223 : decode b_M_statement 223 = .ok (.iload_n 3, 1) := by decide +kernel
theorem d_M_statement_224 : decode b_M_statement 224 = .ok (.iconst 1, 1) := by decide +kernel
theorem d_M_statement_225 : decode b_M_statement 225 = .ok (.iload 4, 2) := by decide +kernel
theorem d_M_statement_227 : decode b_M_statement 227 = .ok (.invokevirtual 110, 3) := by decide +kernel
theorem d_M_statement_230 : decode b_M_statement 230 = .ok (.ifCond .eq 7, 3) := by decide +kernel
theorem d_M_statement_233 : decode b_M_statement 233 = .ok (.iconst 1, 1) := by decide +kernel
theorem d_M_statement_234 : decode b_M_statement 234 = .ok (.goto 4, 3) := by decide +kernel
theorem d_M_statement_237 : decode b_M_statement 237 = .ok (.iconst 0, 1) := by decide +kernel
theorem d_M_statement_238 : decode b_M_statement 238 = .ok (.ireturn, 1) := by decide +kernel
theorem d_M_statement_239 : decode b_M_statement 239 = .ok (.aload_n 0, 1) := by decide +kernel
theorem d_M_statement_240 : decode b_M_statement 240 = .ok (.iload_n 1, 1) := by decide +kernel
theorem d_M_statement_241 : decode b_M_statement 241 = .ok (.iload_n 3, 1) := by decide +kernel
theorem d_M_statement_242 : decode b_M_statement 242 = .ok (.invokevirtual 107, 3) := by decide +kernel
theorem d_M_statement_245 : decode b_M_statement 245 = .ok (.ifCond .ne 26, 3) := by decide +kernel
theorem d_M_statement_248 : decode b_M_statement 248 = .ok (.aload_n 0, 1) := by decide +kernel
theorem d_M_statement_249 : decode b_M_statement 249 = .ok (.getfield 7, 3) := by decide +kernel
theorem d_M_statement_252 : decode b_M_statement 252 = .ok (.iload_n 3, 1) := by decide +kernel
theorem d_M_statement_253 : decode b_M_statement 253 = .ok (.baload, 1) := by decide +kernel
theorem d_M_statement_254 : decode b_M_statement 254 = .ok (.ifCond .eq 17, 3) := by decide +kernel
theorem d_M_statement_257 : decode b_M_statement 257 = .ok (.aload_n 0, 1) := by decide +kernel
theorem d_M_statement_258 : decode b_M_statement 258 = .ok (.iload_n 3, 1) := by decide +kernel
theorem d_M_statement_259 : decode b_M_statement 259 = .ok (.iconst 0, 1) := by decide +kernel
theorem d_M_statement_260 : decode b_M_statement 260 = .ok (.iconst 0, 1) := by decide +kernel
theorem d_M_statement_261 : decode b_M_statement 261 = .ok (.invokevirtual 110, 3) := by decide +kernel
theorem d_M_statement_264 : decode b_M_statement 264 = .ok (.ifCond .eq 7, 3) := by decide +kernel
theorem d_M_statement_267 : decode b_M_statement 267 = .ok (.iconst 1, 1) := by decide +kernel
theorem d_M_statement_268 : decode b_M_statement 268 = .ok (.goto 4, 3) := by decide +kernel
theorem d_M_statement_271 : decode b_M_statement 271 = .ok (.iconst 0, 1) := by decide +kernel
theorem d_M_statement_272 : decode b_M_statement 272 = .ok (.ireturn, 1) := by decide +kernel
theorem d_M_statement_273 : decode b_M_statement 273 = .ok (.aload_n 0, 1) := by decide +kernel
theorem d_M_statement_274 : decode b_M_statement 274 = .ok (.getfield 93, 3) := by decide +kernel
theorem d_M_statement_277 : decode b_M_statement 277 = .ok (.aload_n 0, 1) := by decide +kernel
theorem d_M_statement_278 : decode b_M_statement 278 = .ok (.getfield 41, 3) := by decide +kernel
theorem d_M_statement_281 : decode b_M_statement 281 = .ok (.iload_n 2, 1) := by decide +kernel
theorem d_M_statement_282 : decode b_M_statement 282 = .ok (.iaload, 1) := by decide +kernel
theorem d_M_statement_283 : decode b_M_statement 283 = .ok (.iload 4, 2) := by decide +kernel
theorem d_M_statement_285 : decode b_M_statement 285 = .ok (.aload_n 0, 1) := by decide +kernel
theorem d_M_statement_286 : decode b_M_statement 286 = .ok (.getfield 93, 3) := by decide +kernel
theorem d_M_statement_289 : decode b_M_statement 289 = .ok (.aload_n 0, 1) := by decide +kernel
theorem d_M_statement_290 : decode b_M_statement 290 = .ok (.getfield 47, 3) := by decide +kernel
theorem d_M_statement_293 : decode b_M_statement 293 = .ok (.iload_n 2, 1) := by decide +kernel
theorem d_M_statement_294 : decode b_M_statement 294 = .ok (.iaload, 1) := by decide +kernel
theorem d_M_statement_295 : decode b_M_statement 295 = .ok (.iaload, 1) := by decide +kernel
theorem d_M_statement_296 : decode b_M_statement 296 = .ok (.iadd, 1) := by decide +kernel
theorem d_M_statement_297 : decode b_M_statement 297 = .ok (.iastore, 1) := by decide +kernel
theorem d_M_statement_298 : decode b_M_statement 298 = .ok (.iconst 1, 1) := by decide +kernel
theorem d_M_statement_299 : decode b_M_statement 299 = .ok (.ireturn, 1) := by decide +kernel
theorem d_M_statement_300 : decode b_M_statement 300 = .ok (.aload_n 0, 1) := by decide +kernel
theorem d_M_statement_301 : decode b_M_statement 301 = .ok (.getfield 93, 3) := by decide +kernel
theorem d_M_statement_304 : decode b_M_statement 304 = .ok (.aload_n 0, 1) := by decide +kernel
theorem d_M_statement_305 : decode b_M_statement 305 = .ok (.getfield 41, 3) := by decide +kernel
theorem d_M_statement_308 : decode b_M_statement 308 = .ok (.iload_n 2, 1) := by decide +kernel
theorem d_M_statement_309 : decode b_M_statement 309 = .ok (.iaload, 1) := by decide +kernel
theorem d_M_statement_310 : decode b_M_statement 310 = .ok (.aload_n 0, 1) := by decide +kernel
theorem d_M_statement_311 : decode b_M_statement 311 = .ok (.getfield 44, 3) := by decide +kernel
theorem d_M_statement_314 : decode b_M_statement 314 = .ok (.iload_n 2, 1) := by decide +kernel
theorem d_M_statement_315 : decode b_M_statement 315 = .ok (.iaload, 1) := by decide +kernel
theorem d_M_statement_316 : decode b_M_statement 316 = .ok (.iastore, 1) := by decide +kernel
theorem d_M_statement_317 : decode b_M_statement 317 = .ok (.iconst 1, 1) := by decide +kernel
theorem d_M_statement_318 : decode b_M_statement 318 = .ok (.ireturn, 1) := by decide +kernel
theorem d_M_statement_319 : decode b_M_statement 319 = .ok (.iload_n 3, 1) := by decide +kernel
theorem d_M_statement_320 : decode b_M_statement 320 = .ok (.iload 4, 2) := by decide +kernel
theorem d_M_statement_322 : decode b_M_statement 322 = .ok (.if_icmp .lt 7, 3) := by decide +kernel
theorem d_M_statement_325 : decode b_M_statement 325 = .ok (.iconst 1, 1) := by decide +kernel
theorem d_M_statement_326 : decode b_M_statement 326 = .ok (.goto 4, 3) := by decide +kernel
theorem d_M_statement_329 : decode b_M_statement 329 = .ok (.iconst 0, 1) := by decide +kernel
theorem d_M_statement_330 : decode b_M_statement 330 = .ok (.ireturn, 1) := by decide +kernel
theorem d_M_statement_331 : decode b_M_statement 331 = .ok (.iload 4, 2) := by decide +kernel
theorem d_M_statement_333 : decode b_M_statement 333 = .ok (.bipush 8, 2) := by decide +kernel
theorem d_M_statement_335 : decode b_M_statement 335 = .ok (.invokestatic 99, 3) := by decide +kernel
theorem d_M_statement_338 : decode b_M_statement 338 = .ok (.ifCond .eq 5, 3) := by decide +kernel
theorem d_M_statement_341 : decode b_M_statement 341 = .ok (.iconst 0, 1) := by decide +kernel
theorem d_M_statement_342 : decode b_M_statement 342 = .ok (.ireturn, 1) := by decide +kernel
theorem d_M_statement_343 : decode b_M_statement 343 = .ok (.aload_n 0, 1) := by decide +kernel
theorem d_M_statement_344 : decode b_M_statement 344 = .ok (.getfield 93, 3) := by decide +kernel
theorem d_M_statement_347 : decode b_M_statement 347 = .ok (.aload_n 0, 1) := by decide +kernel
theorem d_M_statement_348 : decode b_M_statement 348 = .ok (.getfield 41, 3) := by decide +kernel
theorem d_M_statement_351 : decode b_M_statement 351 = .ok (.iload_n 2, 1) := by decide +kernel
theorem d_M_statement_352 : decode b_M_statement 352 = .ok (.iaload, 1) := by decide +kernel
theorem d_M_statement_353 : decode b_M_statement 353 = .ok (.aload_n 0, 1) := by decide +kernel
theorem d_M_statement_354 : decode b_M_statement 354 = .ok (.getfield 13, 3) := by decide +kernel
theorem d_M_statement_357 : decode b_M_statement 357 = .ok (.bipush 32, 2) := by decide +kernel
theorem d_M_statement_359 : decode b_M_statement 359 = .ok (.iload 4, 2) := by decide +kernel
theorem d_M_statement_361 : decode b_M_statement 361 = .ok (.iadd, 1) := by decide +kernel
theorem d_M_statement_362 : decode b_M_statement 362 = .ok (.iaload, 1) := by decide +kernel
theorem d_M_statement_363 : decode b_M_statement 363 = .ok (.iastore, 1) := by decide +kernel
theorem d_M_statement_364 : decode b_M_statement 364 = .ok (.iconst 1, 1) := by decide +kernel
theorem d_M_statement_365 : decode b_M_statement 365 = .ok (.ireturn, 1) := by decide +kernel
theorem d_M_statement_366 : decode b_M_statement 366 = .ok (.iload_n 3, 1) := by decide +kernel
theorem d_M_statement_367 : decode b_M_statement 367 = .ok (.bipush 8, 2) := by decide +kernel
theorem d_M_statement_369 : decode b_M_statement 369 = .ok (.invokestatic 99, 3) := by decide +kernel
theorem d_M_statement_372 : decode b_M_statement 372 = .ok (.ifCond .ne 21, 3) := by decide +kernel
theorem d_M_statement_375 : decode b_M_statement 375 = .ok (.aload_n 0, 1) := by decide +kernel
theorem d_M_statement_376 : decode b_M_statement 376 = .ok (.bipush 32, 2) := by decide +kernel
theorem d_M_statement_378 : decode b_M_statement 378 = .ok (.iload_n 3, 1) := by decide +kernel
theorem d_M_statement_379 : decode b_M_statement 379 = .ok (.iadd, 1) := by decide +kernel
theorem d_M_statement_380 : decode b_M_statement 380 = .ok (.iconst 1, 1) := by decide +kernel
theorem d_M_statement_381 : decode b_M_statement 381 = .ok (.iload 4, 2) := by decide +kernel
theorem d_M_statement_383 : decode b_M_statement 383 = .ok (.invokevirtual 110, 3) := by decide +kernel
theorem d_M_statement_386 : decode b_M_statement 386 = .ok (.ifCond .eq 7, 3) := by decide +kernel
theorem d_M_statement_389 : decode b_M_statement 389 = .ok (.iconst 1, 1) := by decide +kernel
theorem d_M_statement_390 : decode b_M_statement 390 = .ok (.goto 4, 3) := by decide +kernel
theorem d_M_statement_393 : decode b_M_statement 393 = .ok (.iconst 0, 1) := by decide +kernel
theorem d_M_statement_394 : decode b_M_statement 394 = .ok (.ireturn, 1) := by decide +kernel
theorem d_M_statement_395 : decode b_M_statement 395 = .ok (.aload_n 0, 1) := by decide +kernel
theorem d_M_statement_396 : decode b_M_statement 396 = .ok (.getfield 69, 3) := by decide +kernel
theorem d_M_statement_399 : decode b_M_statement 399 = .ok (.iload_n 1, 1) := by decide +kernel
theorem d_M_statement_400 : decode b_M_statement 400 = .ok (.iaload, 1) := by decide +kernel
theorem d_M_statement_401 : decode b_M_statement 401 = .ok (.iconst 4, 1) := by decide +kernel
theorem d_M_statement_402 : decode b_M_statement 402 = .ok (.if_icmp .ne 5, 3) := by decide +kernel
theorem d_M_statement_405 : decode b_M_statement 405 = .ok (.iconst 0, 1) := by decide +kernel
theorem d_M_statement_406 : decode b_M_statement 406 = .ok (.ireturn, 1) := by decide +kernel
theorem d_M_statement_407 : decode b_M_statement 407 = .ok (.aload_n 0, 1) := by decide +kernel
theorem d_M_statement_408 : decode b_M_statement 408 = .ok (.getfield 72, 3) := by decide +kernel
theorem d_M_statement_411 : decode b_M_statement 411 = .ok (.iconst 4, 1) := by decide +kernel
theorem d_M_statement_412 : decode b_M_statement 412 = .ok (.iload_n 1, 1) := by decide +kernel
theorem d_M_statement_413 : decode b_M_statement 413 = .ok (.imul, 1) := by decide +kernel
theorem d_M_statement_414 : decode b_M_statement 414 = .ok (.aload_n 0, 1) := by decide +kernel
theorem d_M_statement_415 : decode b_M_statement 415 = .ok (.getfield 69, 3) := by decide +kernel
theorem d_M_statement_418 : decode b_M_statement 418 = .ok (.iload_n 1, 1) := by decide +kernel
theorem d_M_statement_419 : decode b_M_statement 419 = .ok (.iaload, 1) := by decide +kernel
theorem d_M_statement_420 : decode b_M_statement 420 = .ok (.iadd, 1) := by decide +kernel
theorem d_M_statement_421 : decode b_M_statement 421 = .ok (.iload_n 3, 1) := by decide +kernel
theorem d_M_statement_422 : decode b_M_statement 422 = .ok (.iastore, 1) := by decide +kernel
theorem d_M_statement_423 : decode b_M_statement 423 = .ok (.aload_n 0, 1) := by decide +kernel
theorem d_M_statement_424 : decode b_M_statement 424 = .ok (.getfield 69, 3) := by decide +kernel
theorem d_M_statement_427 : decode b_M_statement 427 = .ok (.iload_n 1, 1) := by decide +kernel
theorem d_M_statement_428 : decode b_M_statement 428 = .ok (.dup2, 1) := by decide +kernel
theorem d_M_statement_429 : decode b_M_statement 429 = .ok (.iaload, 1) := by decide +kernel
theorem d_M_statement_430 : decode b_M_statement 430 = .ok (.iconst 1, 1) := by decide +kernel
theorem d_M_statement_431 : decode b_M_statement 431 = .ok (.iadd, 1) := by decide +kernel
theorem d_M_statement_432 : decode b_M_statement 432 = .ok (.iastore, 1) := by decide +kernel
theorem d_M_statement_433 : decode b_M_statement 433 = .ok (.iconst 1, 1) := by decide +kernel
theorem d_M_statement_434 : decode b_M_statement 434 = .ok (.ireturn, 1) := by decide +kernel
theorem d_M_statement_435 : decode b_M_statement 435 = .ok (.iconst 1, 1) := by decide +kernel
theorem d_M_statement_436 : decode b_M_statement 436 = .ok (.ireturn, 1) := by decide +kernel
end
section
theorem d_M_execute_0 : decode b_M_execute 0 = .ok (.iconst 0, 1) := by decide +kernel
theorem d_M_execute_1 : decode b_M_execute 1 = .ok (.istore_n 2, 1) := by decide +kernel
theorem d_M_execute_2 : decode b_M_execute 2 = .ok (.iload_n 2, 1) := by decide +kernel
theorem d_M_execute_3 : decode b_M_execute 3 = .ok (.bipush 40, 2) := by decide +kernel
theorem d_M_execute_5 : decode b_M_execute 5 = .ok (.if_icmp .ge 33, 3) := by decide +kernel
theorem d_M_execute_8 : decode b_M_execute 8 = .ok (.aload_n 0, 1) := by decide +kernel
theorem d_M_execute_9 : decode b_M_execute 9 = .ok (.getfield 23, 3) := by decide +kernel
theorem d_M_execute_12 : decode b_M_execute 12 = .ok (.iload_n 2, 1) := by decide +kernel
theorem d_M_execute_13 : decode b_M_execute 13 = .ok (.aload_n 0, 1) := by decide +kernel
theorem d_M_execute_14 : decode b_M_execute 14 = .ok (.getfield 7, 3) := by decide +kernel
theorem d_M_execute_17 : decode b_M_execute 17 = .ok (.iload_n 2, 1) := by decide +kernel
theorem d_M_execute_18 : decode b_M_execute 18 = .ok (.baload, 1) := by decide +kernel
theorem d_M_execute_19 : decode b_M_execute 19 = .ok (.bastore, 1) := by decide +kernel
theorem d_M_execute_20 : decode b_M_execute 20 = .ok (.aload_n 0, 1) := by decide +kernel
theorem d_M_execute_21 : decode b_M_execute 21 = .ok (.getfield 26, 3) := by decide +kernel
theorem d_M_execute_24 : decode b_M_execute 24 = .ok (.iload_n 2, 1) := by decide +kernel
theorem d_M_execute_25 : decode b_M_execute 25 = .ok (.aload_n 0, 1) := by decide +kernel
theorem d_M_execute_26 : decode b_M_execute 26 = .ok (.getfield 13, 3) := by decide +kernel
theorem d_M_execute_29 : decode b_M_execute 29 = .ok (.iload_n 2, 1) := by decide +kernel
theorem d_M_execute_30 : decode b_M_execute 30 = .ok (.iaload, 1) := by decide +kernel
theorem d_M_execute_31 : decode b_M_execute 31 = .ok (.iastore, 1) := by decide +kernel
theorem d_M_execute_32 : decode b_M_execute 32 = .ok (.iinc 2 1, 3) := by decide +kernel
theorem d_M_execute_35 : decode b_M_execute 35 = .ok (.goto (-33), 3) := by decide +kernel
theorem d_M_execute_38 : decode b_M_execute 38 = .ok (.iconst 0, 1) := by decide +kernel
theorem d_M_execute_39 : decode b_M_execute 39 = .ok (.istore_n 2, 1) := by decide +kernel
theorem d_M_execute_40 : decode b_M_execute 40 = .ok (.iload_n 2, 1) := by decide +kernel
theorem d_M_execute_41 : decode b_M_execute 41 = .ok (.bipush 6, 2) := by decide +kernel
theorem d_M_execute_43 : decode b_M_execute 43 = .ok (.if_icmp .ge 34, 3) := by decide +kernel
theorem d_M_execute_46 : decode b_M_execute 46 = .ok (.aload_n 0, 1) := by decide +kernel
theorem d_M_execute_47 : decode b_M_execute 47 = .ok (.getfield 93, 3) := by decide +kernel
theorem d_M_execute_50 : decode b_M_execute 50 = .ok (.iload_n 2, 1) := by decide +kernel
theorem d_M_execute_51 : decode b_M_execute 51 = .ok (.iload_n 2, 1) := by decide +kernel
theorem d_M_execute_52 : decode b_M_execute 52 = .ok (.iconst 3, 1) := by decide +kernel
theorem d_M_execute_53 : decode b_M_execute 53 = .ok (.if_icmp .ge 16, 3) := by decide +kernel
theorem d_M_execute_56 : decode b_M_execute 56 = .ok (.aload_n 0, 1) := by decide +kernel
theorem d_M_execute_57 : decode b_M_execute 57 = .ok (.getfield 57, 3) := by decide +kernel
theorem d_M_execute_60 : decode b_M_execute 60 = .ok (.iconst 3, 1) := by decide +kernel
theorem d_M_execute_61 : decode b_M_execute 61 = .ok (.iload_n 1, 1) := by decide +kernel
theorem d_M_execute_62 : decode b_M_execute 62 = .ok (.imul, 1) := by decide +kernel
theorem d_M_execute_63 : decode b_M_execute 63 = .ok (.iload_n 2, 1) := by decide +kernel
theorem d_M_execute_64 : decode b_M_execute 64 = .ok (.iadd, 1) := by decide +kernel
theorem d_M_execute_65 : decode b_M_execute 65 = .ok (.iaload, 1) := by decide +kernel
theorem d_M_execute_66 : decode b_M_execute 66 = .ok (.goto 4, 3) := by decide +kernel
theorem d_M_execute_69 : decode b_M_execute 69 = .ok (.iconst 0, 1) := by decide +kernel
theorem d_M_execute_70 : decode b_M_execute 70 = .ok (.iastore, 1) := by decide +kernel
theorem d_M_execute_71 : decode b_M_execute 71 = .ok (.iinc 2 1, 3) := by decide +kernel
theorem d_M_execute_74 : decode b_M_execute 74 = .ok (.goto (-34), 3) := by decide +kernel
theorem d_M_execute_77 : decode b_M_execute 77 = .ok (.aload_n 0, 1) := by decide +kernel
theorem d_M_execute_78 : decode b_M_execute 78 = .ok (.getfield 69, 3) := by decide +kernel
theorem d_M_execute_81 : decode b_M_execute 81 = .ok (.iload_n 1, 1) := by decide +kernel
theorem d_M_execute_82 : decode b_M_execute 82 = .ok (.iconst 0, 1) := by decide +kernel
theorem d_M_execute_83 : decode b_M_execute 83 = .ok (.iastore, 1) := by decide +kernel
theorem d_M_execute_84 : decode b_M_execute 84 = .ok (.aload_n 0, 1) := by decide +kernel
theorem d_M_execute_85 : decode b_M_execute 85 = .ok (.getfield 66, 3) := by decide +kernel
theorem d_M_execute_88 : decode b_M_execute 88 = .ok (.iload_n 1, 1) := by decide +kernel
theorem d_M_execute_89 : decode b_M_execute 89 = .ok (.iconst (-1), 1) := by decide +kernel
theorem d_M_execute_90 : decode b_M_execute 90 = .ok (.iastore, 1) := by decide +kernel
theorem d_M_execute_91 : decode b_M_execute 91 = .ok (.aload_n 0, 1) := by decide +kernel
theorem d_M_execute_92 : decode b_M_execute 92 = .ok (.getfield 54, 3) := by decide +kernel
theorem d_M_execute_95 : decode b_M_execute 95 = .ok (.iload_n 1, 1) := by decide +kernel
theorem d_M_execute_96 : decode b_M_execute 96 = .ok (.iaload, 1) := by decide +kernel
theorem d_M_execute_97 : decode b_M_execute 97 = .ok (.istore_n 2, 1) := by decide +kernel
theorem d_M_execute_98 : decode b_M_execute 98 = .ok (.iconst 0, 1) := by decide +kernel
theorem d_M_execute_99 : decode b_M_execute 99 = .ok (.istore_n 3, 1) := by decide +kernel
theorem d_M_execute_100 : decode b_M_execute 100 = .ok (.iload_n 3, 1) := by decide +kernel
theorem d_M_execute_101 : decode b_M_execute 101 = .ok (.aload_n 0, 1) := by decide +kernel
theorem d_M_execute_102 : decode b_M_execute 102 = .ok (.getfield 35, 3) := by decide +kernel
theorem d_M_execute_105 : decode b_M_execute 105 = .ok (.iload_n 2, 1) := by decide +kernel
theorem d_M_execute_106 : decode b_M_execute 106 = .ok (.iaload, 1) := by decide +kernel
theorem d_M_execute_107 : decode b_M_execute 107 = .ok (.if_icmp .ge 83, 3) := by decide +kernel
theorem d_M_execute_110 : decode b_M_execute 110 = .ok (.aload_n 0, 1) := by decide +kernel
theorem d_M_execute_111 : decode b_M_execute 111 = .ok (.getfield 66, 3) := by decide +kernel
theorem d_M_execute_114 : decode b_M_execute 114 = .ok (.iload_n 1, 1) := by decide +kernel
theorem d_M_execute_115 : decode b_M_execute 115 = .ok (.iaload, 1) := by decide +kernel
theorem d_M_execute_116 : decode b_M_execute 116 = .ok (.ifCond .ge 74, 3) := by decide +kernel
theorem d_M_execute_119 : decode b_M_execute 119 = .ok (.bipush 8, 2) := by decide +kernel
theorem d_M_execute_121 : decode b_M_execute 121 = .ok (.iload_n 2, 1) := by decide +kernel
theorem d_M_execute_122 : decode b_M_execute 122 = .ok (.imul, 1) := by decide +kernel
theorem d_M_execute_123 : decode b_M_execute 123 = .ok (.iload_n 3, 1) := by decide +kernel
theorem d_M_execute_124 : decode b_M_execute 124 = .ok (.iadd, 1) := by decide +kernel
theorem d_M_execute_125 : decode b_M_execute 125 = .ok (.istore 4, 2) := by decide +kernel
theorem d_M_execute_127 : decode b_M_execute 127 = .ok (.aload_n 0, 1) := by decide +kernel
theorem d_M_execute_128 : decode b_M_execute 128 = .ok (.iload_n 1, 1) := by decide +kernel
theorem d_M_execute_129 : decode b_M_execute 129 = .ok (.iload 4, 2) := by decide +kernel
theorem d_M_execute_131 : decode b_M_execute 131 = .ok (.invokevirtual 114, 3) := by decide +kernel
theorem d_M_execute_134 : decode b_M_execute 134 = .ok (.ifCond .ne 10, 3) := by decide +kernel
theorem d_M_execute_137 : decode b_M_execute 137 = .ok (.aload_n 0, 1) := by decide +kernel
theorem d_M_execute_138 : decode b_M_execute 138 = .ok (.getfield 66, 3) := by decide +kernel
theorem d_M_execute_141 : decode b_M_execute 141 = .ok (.iload_n 1, 1) := by decide +kernel
theorem d_M_execute_142 : decode b_M_execute 142 = .ok (.iload_n 3, 1) := by decide +kernel
theorem d_M_execute_143 : decode b_M_execute 143 = .ok (.iastore, 1) := by decide +kernel
theorem d_M_execute_144 : decode b_M_execute 144 = .ok (.iload_n 3, 1) := by decide +kernel
theorem d_M_execute_145 : decode b_M_execute 145 = .ok (.aload_n 0, 1) := by decide +kernel
theorem d_M_execute_146 : decode b_M_execute 146 = .ok (.getfield 38, 3) := by decide +kernel
theorem d_M_execute_149 : decode b_M_execute 149 = .ok (.iload 4, 2) := by decide +kernel
theorem d_M_execute_151 : decode b_M_execute 151 = .ok (.iaload, 1) := by decide +kernel
theorem d_M_execute_152 : decode b_M_execute 152 = .ok (.bipush 7, 2) := by decide +kernel
theorem d_M_execute_154 : decode b_M_execute 154 = .ok (.if_icmp .ne 30, 3) := by decide +kernel
theorem d_M_execute_157 : decode b_M_execute 157 = .ok (.aload_n 0, 1) := by decide +kernel
theorem d_M_execute_158 : decode b_M_execute 158 = .ok (.getfield 93, 3) := by decide +kernel
theorem d_M_execute_161 : decode b_M_execute 161 = .ok (.aload_n 0, 1) := by decide +kernel
theorem d_M_execute_162 : decode b_M_execute 162 = .ok (.getfield 41, 3) := by decide +kernel
theorem d_M_execute_165 : decode b_M_execute 165 = .ok (.iload 4, 2) := by decide +kernel
theorem d_M_execute_167 : decode b_M_execute 167 = .ok (.iaload, 1) := by decide +kernel
theorem d_M_execute_168 : decode b_M_execute 168 = .ok (.iaload, 1) := by decide +kernel
theorem d_M_execute_169 : decode b_M_execute 169 = .ok (.ifCond .ne 15, 3) := by decide +kernel
theorem d_M_execute_172 : decode b_M_execute 172 = .ok (.iconst 1, 1) := by decide +kernel
theorem d_M_execute_173 : decode b_M_execute 173 = .ok (.aload_n 0, 1) := by decide +kernel
theorem d_M_execute_174 : decode b_M_execute 174 = .ok (.getfield 44, 3) := by decide +kernel
theorem d_M_execute_177 : decode b_M_execute 177 = .ok (.iload 4, 2) := by decide +kernel
theorem d_M_execute_179 : decode b_M_execute 179 = .ok (.iaload, 1) := by decide +kernel
theorem d_M_execute_180 : decode b_M_execute 180 = .ok (.iadd, 1) := by decide +kernel
theorem d_M_execute_181 : decode b_M_execute 181 = .ok (.goto 4, 3) := by decide +kernel
theorem d_M_execute_184 : decode b_M_execute 184 = .ok (.iconst 1, 1) := by decide +kernel
theorem d_M_execute_185 : decode b_M_execute 185 = .ok (.iadd, 1) := by decide +kernel
theorem d_M_execute_186 : decode b_M_execute 186 = .ok (.istore_n 3, 1) := by decide +kernel
theorem d_M_execute_187 : decode b_M_execute 187 = .ok (.goto (-87), 3) := by decide +kernel
theorem d_M_execute_190 : decode b_M_execute 190 = .ok (.aload_n 0, 1) := by decide +kernel
theorem d_M_execute_191 : decode b_M_execute 191 = .ok (.getfield 66, 3) := by decide +kernel
theorem d_M_execute_194 : decode b_M_execute 194 = .ok (.iload_n 1, 1) := by decide +kernel
theorem d_M_execute_195 : decode b_M_execute 195 = .ok (.iaload, 1) := by decide +kernel
theorem d_M_execute_196 : decode b_M_execute 196 = .ok (.ifCond .ge 4, 3) := by decide +kernel
theorem d_M_execute_199 : decode b_M_execute 199 = .ok (.return_, 1) := by decide +kernel
theorem d_M_execute_200 : decode b_M_execute 200 = .ok (.aload_n 0, 1) := by decide +kernel
theorem d_M_execute_201 : decode b_M_execute 201 = .ok (.getfield 69, 3) := by decide +kernel
theorem d_M_execute_204 : decode b_M_execute 204 = .ok (.iload_n 1, 1) := by decide +kernel
theorem d_M_execute_205 : decode b_M_execute 205 = .ok (.iconst 0, 1) := by decide +kernel
theorem d_M_execute_206 : decode b_M_execute 206 = .ok (.iastore, 1) := by decide +kernel
theorem d_M_execute_207 : decode b_M_execute 207 = .ok (.iconst 0, 1) := by decide +kernel
theorem d_M_execute_208 : decode b_M_execute 208 = .ok (.istore 4, 2) := by decide +kernel
theorem d_M_execute_210 : decode b_M_execute 210 = .ok (.iload 4, 2) := by decide +kernel
theorem d_M_execute_212 : decode b_M_execute 212 = .ok (.bipush 40, 2) := by decide +kernel
theorem d_M_execute_214 : decode b_M_execute 214 = .ok (.if_icmp .ge 37, 3) := by decide +kernel
theorem d_M_execute_217 : decode b_M_execute 217 = .ok (.aload_n 0, 1) := by decide +kernel
theorem d_M_execute_218 : decode b_M_execute 218 = .ok (.getfield 7, 3) := by decide +kernel
theorem d_M_execute_221 : decode b_M_execute 221 = .ok (.iload 4, 2) := by decide +kernel
theorem d_M_execute_223 : decode b_M_execute 223 = .ok (.aload_n 0, 1) := by decide +kernel
theorem d_M_execute_224 : decode b_M_execute 224 = .ok (.getfield 23, 3) := by decide +kernel
theorem d_M_execute_227 : decode b_M_execute 227 = .ok (.iload 4, 2) := by decide +kernel
theorem d_M_execute_229 : decode b_M_execute 229 = .ok (.baload, 1) := by decide +kernel
theorem d_M_execute_230 : decode b_M_execute 230 = .ok (.bastore, 1) := by decide +kernel
theorem d_M_execute_231 : decode b_M_execute 231 = .ok (.aload_n 0, 1) := by decide +kernel
theorem d_M_execute_232 : decode b_M_execute 232 = .ok (.getfield 13, 3) := by decide +kernel
theorem d_M_execute_235 : decode b_M_execute 235 = .ok (.iload 4, 2) := by decide +kernel
theorem d_M_execute_237 : decode b_M_execute 237 = .ok (.aload_n 0, 1) := by decide +kernel
theorem d_M_execute_238 : decode b_M_execute 238 = .ok (.getfield 26, 3) := by decide +kernel
theorem d_M_execute_241 : decode b_M_execute 241 = .ok (.iload 4, 2) := by decide +kernel
theorem d_M_execute_243 : decode b_M_execute 243 = .ok (.iaload, 1) := by decide +kernel
theorem d_M_execute_244 : decode b_M_execute 244 = .ok (.iastore, 1) := by decide +kernel
theorem d_M_execute_245 : decode b_M_execute 245 = .ok (.iinc 4 1, 3) := by decide +kernel
theorem d_M_execute_248 : decode b_M_execute 248 = .ok (.goto (-38), 3) := by decide +kernel
theorem d_M_execute_251 : decode b_M_execute 251 = .ok (.return_, 1) := by decide +kernel
theorem d_M_replay_0 : decode b_M_replay 0 = .ok (.iconst 0, 1) := by decide +kernel
theorem d_M_replay_1 : decode b_M_replay 1 = .ok (.istore_n 2, 1) := by decide +kernel
theorem d_M_replay_2 : decode b_M_replay 2 = .ok (.iload_n 2, 1) := by decide +kernel
theorem d_M_replay_3 : decode b_M_replay 3 = .ok (.bipush 40, 2) := by decide +kernel
theorem d_M_replay_5 : decode b_M_replay 5 = .ok (.if_icmp .ge 33, 3) := by decide +kernel
theorem d_M_replay_8 : decode b_M_replay 8 = .ok (.aload_n 0, 1) := by decide +kernel
theorem d_M_replay_9 : decode b_M_replay 9 = .ok (.getfield 7, 3) := by decide +kernel
theorem d_M_replay_12 : decode b_M_replay 12 = .ok (.iload_n 2, 1) := by decide +kernel
theorem d_M_replay_13 : decode b_M_replay 13 = .ok (.aload_n 0, 1) := by decide +kernel
theorem d_M_replay_14 : decode b_M_replay 14 = .ok (.getfield 17, 3) := by decide +kernel
theorem d_M_replay_17 : decode b_M_replay 17 = .ok (.iload_n 2, 1) := by decide +kernel
theorem d_M_replay_18 : decode b_M_replay 18 = .ok (.baload, 1) := by decide +kernel
theorem d_M_replay_19 : decode b_M_replay 19 = .ok (.bastore, 1) := by decide +kernel
theorem d_M_replay_20 : decode b_M_replay 20 = .ok (.aload_n 0, 1) := by decide +kernel
theorem d_M_replay_21 : decode b_M_replay 21 = .ok (.getfield 13, 3) := by decide +kernel
theorem d_M_replay_24 : decode b_M_replay 24 = .ok (.iload_n 2, 1) := by decide +kernel
theorem d_M_replay_25 : decode b_M_replay 25 = .ok (.aload_n 0, 1) := by decide +kernel
theorem d_M_replay_26 : decode b_M_replay 26 = .ok (.getfield 20, 3) := by decide +kernel
theorem d_M_replay_29 : decode b_M_replay 29 = .ok (.iload_n 2, 1) := by decide +kernel
theorem d_M_replay_30 : decode b_M_replay 30 = .ok (.iaload, 1) := by decide +kernel
theorem d_M_replay_31 : decode b_M_replay 31 = .ok (.iastore, 1) := by decide +kernel
theorem d_M_replay_32 : decode b_M_replay 32 = .ok (.iinc 2 1, 3) := by decide +kernel
theorem d_M_replay_35 : decode b_M_replay 35 = .ok (.goto (-33), 3) := by decide +kernel
theorem d_M_replay_38 : decode b_M_replay 38 = .ok (.aload_n 0, 1) := by decide +kernel
theorem d_M_replay_39 : decode b_M_replay 39 = .ok (.getfield 120, 3) := by decide +kernel
theorem d_M_replay_42 : decode b_M_replay 42 = .ok (.iconst 1, 1) := by decide +kernel
theorem d_M_replay_43 : decode b_M_replay 43 = .ok (.iadd, 1) := by decide +kernel
theorem d_M_replay_44 : decode b_M_replay 44 = .ok (.istore_n 2, 1) := by decide +kernel
theorem d_M_replay_45 : decode b_M_replay 45 = .ok (.iload_n 2, 1) := by decide +kernel
theorem d_M_replay_46 : decode b_M_replay 46 = .ok (.iload_n 1, 1) := by decide +kernel
theorem d_M_replay_47 : decode b_M_replay 47 = .ok (.if_icmp .gt 23, 3) := by decide +kernel
theorem d_M_replay_50 : decode b_M_replay 50 = .ok (.aload_n 0, 1) := by decide +kernel
theorem d_M_replay_51 : decode b_M_replay 51 = .ok (.getfield 54, 3) := by decide +kernel
theorem d_M_replay_54 : decode b_M_replay 54 = .ok (.iload_n 2, 1) := by decide +kernel
theorem d_M_replay_55 : decode b_M_replay 55 = .ok (.iaload, 1) := by decide +kernel
theorem d_M_replay_56 : decode b_M_replay 56 = .ok (.ifCond .lt 8, 3) := by decide +kernel
theorem d_M_replay_59 : decode b_M_replay 59 = .ok (.aload_n 0, 1) := by decide +kernel
theorem d_M_replay_60 : decode b_M_replay 60 = .ok (.iload_n 2, 1) := by decide +kernel
theorem d_M_replay_61 : decode b_M_replay 61 = .ok (.invokevirtual 123, 3) := by decide +kernel
theorem d_M_replay_64 : decode b_M_replay 64 = .ok (.iinc 2 1, 3) := by decide +kernel
theorem d_M_replay_67 : decode b_M_replay 67 = .ok (.goto (-22), 3) := by decide +kernel
theorem d_M_replay_70 : decode b_M_replay 70 = .ok (.return_, 1) := by decide +kernel
theorem d_M_tellClients_0 : decode b_M_tellClients 0 = .ok (.iconst 0, 1) := by decide +kernel
theorem d_M_tellClients_1 : decode b_M_tellClients 1 = .ok (.istore_n 1, 1) := by decide +kernel
theorem d_M_tellClients_2 : decode b_M_tellClients 2 = .ok (.iload_n 1, 1) := by decide +kernel
theorem d_M_tellClients_3 : decode b_M_tellClients 3 = .ok (.iconst 4, 1) := by decide +kernel
theorem d_M_tellClients_4 : decode b_M_tellClients 4 = .ok (.if_icmp .ge 123, 3) := by decide +kernel
theorem d_M_tellClients_7 : decode b_M_tellClients 7 = .ok (.aload_n 0, 1) := by decide +kernel
theorem d_M_tellClients_8 : decode b_M_tellClients 8 = .ok (.getfield 81, 3) := by decide +kernel
theorem d_M_tellClients_11 : decode b_M_tellClients 11 = .ok (.iload_n 1, 1) := by decide +kernel
theorem d_M_tellClients_12 : decode b_M_tellClients 12 = .ok (.iaload, 1) := by decide +kernel
theorem d_M_tellClients_13 : decode b_M_tellClients 13 = .ok (.istore_n 2, 1) := by decide +kernel
theorem d_M_tellClients_14 : decode b_M_tellClients 14 = .ok (.aload_n 0, 1) := by decide +kernel
theorem d_M_tellClients_15 : decode b_M_tellClients 15 = .ok (.getfield 78, 3) := by decide +kernel
theorem d_M_tellClients_18 : decode b_M_tellClients 18 = .ok (.iload_n 1, 1) := by decide +kernel
theorem d_M_tellClients_19 : decode b_M_tellClients 19 = .ok (.iaload, 1) := by decide +kernel
theorem d_M_tellClients_20 : decode b_M_tellClients 20 = .ok (.iconst 1, 1) := by decide +kernel
theorem d_M_tellClients_21 : decode b_M_tellClients 21 = .ok (.if_icmp .ne 100, 3) := by decide +kernel
theorem d_M_tellClients_24 : decode b_M_tellClients 24 = .ok (.aload_n 0, 1) := by decide +kernel
theorem d_M_tellClients_25 : decode b_M_tellClients 25 = .ok (.getfield 60, 3) := by decide +kernel
theorem d_M_tellClients_28 : decode b_M_tellClients 28 = .ok (.iload_n 2, 1) := by decide +kernel
theorem d_M_tellClients_29 : decode b_M_tellClients 29 = .ok (.baload, 1) := by decide +kernel
theorem d_M_tellClients_30 : decode b_M_tellClients 30 = .ok (.ifCond .eq 91, 3) := by decide +kernel
theorem d_M_tellClients_33 : decode b_M_tellClients 33 = .ok (.iload_n 2, 1) := by decide +kernel
theorem d_M_tellClients_34 : decode b_M_tellClients 34 = .ok (.aload_n 0, 1) := by decide +kernel
theorem d_M_tellClients_35 : decode b_M_tellClients 35 = .ok (.getfield 117, 3) := by decide +kernel
theorem d_M_tellClients_38 : decode b_M_tellClients 38 = .ok (.if_icmp .le 6, 3) := by decide +kernel
theorem d_M_tellClients_41 : decode b_M_tellClients 41 = .ok (.goto 80, 3) := by decide +kernel
theorem d_M_tellClients_44 : decode b_M_tellClients 44 = .ok (.aload_n 0, 1) := by decide +kernel
theorem d_M_tellClients_45 : decode b_M_tellClients 45 = .ok (.getfield 78, 3) := by decide +kernel
theorem d_M_tellClients_48 : decode b_M_tellClients 48 = .ok (.iload_n 1, 1) := by decide +kernel
theorem d_M_tellClients_49 : decode b_M_tellClients 49 = .ok (.aload_n 0, 1) := by decide +kernel
theorem d_M_tellClients_50 : decode b_M_tellClients 50 = .ok (.getfield 66, 3) := by decide +kernel
theorem d_M_tellClients_53 : decode b_M_tellClients 53 = .ok (.iload_n 2, 1) := by decide +kernel
theorem d_M_tellClients_54 : decode b_M_tellClients 54 = .ok (.iaload, 1) := by decide +kernel
theorem d_M_tellClients_55 : decode b_M_tellClients 55 = .ok (.ifCond .ge 7, 3) := by decide +kernel
theorem d_M_tellClients_58 : decode b_M_tellClients 58 = .ok (.iconst 2, 1) := by decide +kernel
theorem d_M_tellClients_59 : decode b_M_tellClients 59 = .ok (.goto 4, 3) := by decide +kernel
theorem d_M_tellClients_62 : decode b_M_tellClients 62 = .ok (.iconst 3, 1) := by decide +kernel
theorem d_M_tellClients_63 : decode b_M_tellClients 63 = .ok (.iastore, 1) := by decide +kernel
theorem d_M_tellClients_64 : decode b_M_tellClients 64 = .ok (.aload_n 0, 1) := by decide +kernel
theorem d_M_tellClients_65 : decode b_M_tellClients 65 = .ok (.getfield 90, 3) := by decide +kernel
theorem d_M_tellClients_68 : decode b_M_tellClients 68 = .ok (.iload_n 1, 1) := by decide +kernel
theorem d_M_tellClients_69 : decode b_M_tellClients 69 = .ok (.aload_n 0, 1) := by decide +kernel
theorem d_M_tellClients_70 : decode b_M_tellClients 70 = .ok (.getfield 66, 3) := by decide +kernel
theorem d_M_tellClients_73 : decode b_M_tellClients 73 = .ok (.iload_n 2, 1) := by decide +kernel
theorem d_M_tellClients_74 : decode b_M_tellClients 74 = .ok (.iaload, 1) := by decide +kernel
theorem d_M_tellClients_75 : decode b_M_tellClients 75 = .ok (.iastore, 1) := by decide +kernel
theorem d_M_tellClients_76 : decode b_M_tellClients 76 = .ok (.aload_n 0, 1) := by decide +kernel
theorem d_M_tellClients_77 : decode b_M_tellClients 77 = .ok (.getfield 84, 3) := by decide +kernel
theorem d_M_tellClients_80 : decode b_M_tellClients 80 = .ok (.iload_n 1, 1) := by decide +kernel
theorem d_M_tellClients_81 : decode b_M_tellClients 81 = .ok (.aload_n 0, 1) := by decide +kernel
theorem d_M_tellClients_82 : decode b_M_tellClients 82 = .ok (.getfield 69, 3) := by decide +kernel
theorem d_M_tellClients_85 : decode b_M_tellClients 85 = .ok (.iload_n 2, 1) := by decide +kernel
theorem d_M_tellClients_86 : decode b_M_tellClients 86 = .ok (.iaload, 1) := by decide +kernel
theorem d_M_tellClients_87 : decode b_M_tellClients 87 = .ok (.iastore, 1) := by decide +kernel
theorem d_M_tellClients_88 : decode b_M_tellClients 88 = .ok (.iconst 0, 1) := by decide +kernel
theorem d_M_tellClients_89 : decode b_M_tellClients 89 = .ok (.istore_n 3, 1) := by decide +kernel
theorem d_M_tellClients_90 : decode b_M_tellClients 90 = .ok (.iload_n 3, 1) := by decide +kernel
theorem d_M_tellClients_91 : decode b_M_tellClients 91 = .ok (.iconst 4, 1) := by decide +kernel
theorem d_M_tellClients_92 : decode b_M_tellClients 92 = .ok (.if_icmp .ge 29, 3) := by decide +kernel
theorem d_M_tellClients_95 : decode b_M_tellClients 95 = .ok (.aload_n 0, 1) := by decide +kernel
theorem d_M_tellClients_96 : decode b_M_tellClients 96 = .ok (.getfield 87, 3) := by decide +kernel
theorem d_M_tellClients_99 : decode b_M_tellClients 99 = .ok (.iconst 4, 1) := by decide +kernel
theorem d_M_tellClients_100 : decode b_M_tellClients 100 = .ok (.iload_n 1, 1) := by decide +kernel
theorem d_M_tellClients_101 : decode b_M_tellClients 101 = .ok (.imul, 1) := by decide +kernel
theorem d_M_tellClients_102 : decode b_M_tellClients 102 = .ok (.iload_n 3, 1) := by decide +kernel
theorem d_M_tellClients_103 : decode b_M_tellClients 103 = .ok (.iadd, 1) := by decide +kernel
theorem d_M_tellClients_104 : decode b_M_tellClients 104 = .ok (.aload_n 0, 1) := by decide +kernel
theorem d_M_tellClients_105 : decode b_M_tellClients 105 = .ok (.getfield 72, 3) := by decide +kernel
theorem d_M_tellClients_108 : decode b_M_tellClients 108 = .ok (.iconst 4, 1) := by decide +kernel
theorem d_M_tellClients_109 : decode b_M_tellClients 109 = .ok (.iload_n 2, 1) := by decide +kernel
theorem d_M_tellClients_110 : decode b_M_tellClients 110 = .ok (.imul, 1) := by decide +kernel
theorem d_M_tellClients_111 : decode b_M_tellClients 111 = .ok (.iload_n 3, 1) := by decide +kernel
theorem d_M_tellClients_112 : decode b_M_tellClients 112 = .ok (.iadd, 1) := by decide +kernel
theorem d_M_tellClients_113 : decode b_M_tellClients 113 = .ok (.iaload, 1) := by decide +kernel
theorem d_M_tellClients_114 : decode b_M_tellClients 114 = .ok (.iastore, 1) := by decide +kernel
theorem d_M_tellClients_115 : decode b_M_tellClients 115 = .ok (.iinc 3 1, 3) := by decide +kernel
theorem d_M_tellClients_118 : decode b_M_tellClients 118 = .ok (.goto (-28), 3) := by decide +kernel
theorem d_M_tellClients_121 : decode b_M_tellClients 121 = .ok (.iinc 1 1, 3) := by decide +kernel
theorem d_M_tellClients_124 : decode b_M_tellClients 124 = .ok (.goto (-122), 3) := by decide +kernel
theorem d_M_tellClients_127 : decode b_M_tellClients 127 = .ok (.return_, 1) := by decide +kernel
theorem d_M_completeIfDone_0 : decode b_M_completeIfDone 0 = .ok (.aload_n 0, 1) := by decide +kernel
theorem d_M_completeIfDone_1 : decode b_M_completeIfDone 1 = .ok (.getfield 127, 3) := by decide +kernel
theorem d_M_completeIfDone_4 : decode b_M_completeIfDone 4 = .ok (.ifCond .eq 23, 3) := by decide +kernel
theorem d_M_completeIfDone_7 : decode b_M_completeIfDone 7 = .ok (.aload_n 0, 1) := by decide +kernel
theorem d_M_completeIfDone_8 : decode b_M_completeIfDone 8 = .ok (.getfield 63, 3) := by decide +kernel
theorem d_M_completeIfDone_11 : decode b_M_completeIfDone 11 = .ok (.aload_n 0, 1) := by decide +kernel
theorem d_M_completeIfDone_12 : decode b_M_completeIfDone 12 = .ok (.getfield 127, 3) := by decide +kernel
theorem d_M_completeIfDone_15 : decode b_M_completeIfDone 15 = .ok (.iaload, 1) := by decide +kernel
theorem d_M_completeIfDone_16 : decode b_M_completeIfDone 16 = .ok (.iconst 1, 1) := by decide +kernel
theorem d_M_completeIfDone_17 : decode b_M_completeIfDone 17 = .ok (.aload_n 0, 1) := by decide +kernel
theorem d_M_completeIfDone_18 : decode b_M_completeIfDone 18 = .ok (.getfield 96, 3) := by decide +kernel
theorem d_M_completeIfDone_21 : decode b_M_completeIfDone 21 = .ok (.ishl, 1) := by decide +kernel
theorem d_M_completeIfDone_22 : decode b_M_completeIfDone 22 = .ok (.iconst 1, 1) := by decide +kernel
theorem d_M_completeIfDone_23 : decode b_M_completeIfDone 23 = .ok (.isub, 1) := by decide +kernel
theorem d_M_completeIfDone_24 : decode b_M_completeIfDone 24 = .ok (.if_icmp .eq 4, 3) := by decide +kernel
theorem d_M_completeIfDone_27 : decode b_M_completeIfDone 27 = .ok (.return_, 1) := by decide +kernel
theorem d_M_completeIfDone_28 : decode b_M_completeIfDone 28 = .ok (.iconst 0, 1) := by decide +kernel
theorem d_M_completeIfDone_29 : decode b_M_completeIfDone 29 = .ok (.istore_n 1, 1) := by decide +kernel
theorem d_M_completeIfDone_30 : decode b_M_completeIfDone 30 = .ok (.iload_n 1, 1) := by decide +kernel
theorem d_M_completeIfDone_31 : decode b_M_completeIfDone 31 = .ok (.aload_n 0, 1) := by decide +kernel
theorem d_M_completeIfDone_32 : decode b_M_completeIfDone 32 = .ok (.getfield 96, 3) := by decide +kernel
theorem d_M_completeIfDone_35 : decode b_M_completeIfDone 35 = .ok (.if_icmp .ge 19, 3) := by decide +kernel
theorem d_M_completeIfDone_38 : decode b_M_completeIfDone 38 = .ok (.aload_n 0, 1) := by decide +kernel
theorem d_M_completeIfDone_39 : decode b_M_completeIfDone 39 = .ok (.getfield 75, 3) := by decide +kernel
theorem d_M_completeIfDone_42 : decode b_M_completeIfDone 42 = .ok (.iload_n 1, 1) := by decide +kernel
theorem d_M_completeIfDone_43 : decode b_M_completeIfDone 43 = .ok (.iaload, 1) := by decide +kernel
theorem d_M_completeIfDone_44 : decode b_M_completeIfDone 44 = .ok (.ifCond .le 4, 3) := by decide +kernel
theorem d_M_completeIfDone_47 : decode b_M_completeIfDone 47 = .ok (.return_, 1) := by decide +kernel
theorem d_M_completeIfDone_48 : decode b_M_completeIfDone 48 = .ok (.iinc 1 1, 3) := by decide +kernel
theorem d_M_completeIfDone_51 : decode b_M_completeIfDone 51 = .ok (.goto (-21), 3) := by decide +kernel
theorem d_M_completeIfDone_54 : decode b_M_completeIfDone 54 = .ok (.aload_n 0, 1) := by decide +kernel
theorem d_M_completeIfDone_55 : decode b_M_completeIfDone 55 = .ok (.aload_n 0, 1) := by decide +kernel
theorem d_M_completeIfDone_56 : decode b_M_completeIfDone 56 = .ok (.getfield 127, 3) := by decide +kernel
theorem d_M_completeIfDone_59 : decode b_M_completeIfDone 59 = .ok (.iconst 1, 1) := by decide +kernel
theorem d_M_completeIfDone_60 : decode b_M_completeIfDone 60 = .ok (.isub, 1) := by decide +kernel
theorem d_M_completeIfDone_61 : decode b_M_completeIfDone 61 = .ok (.invokevirtual 130, 3) := by decide +kernel
theorem d_M_completeIfDone_64 : decode b_M_completeIfDone 64 = .ok (.iconst 0, 1) := by decide +kernel
theorem d_M_completeIfDone_65 : decode b_M_completeIfDone 65 = .ok (.istore_n 1, 1) := by decide +kernel
theorem d_M_completeIfDone_66 : decode b_M_completeIfDone 66 = .ok (.iload_n 1, 1) := by decide +kernel
theorem d_M_completeIfDone_67 : decode b_M_completeIfDone 67 = .ok (.bipush 40, 2) := by decide +kernel
theorem d_M_completeIfDone_69 : decode b_M_completeIfDone 69 = .ok (.if_icmp .ge 33, 3) := by decide +kernel
theorem d_M_completeIfDone_72 : decode b_M_completeIfDone 72 = .ok (.aload_n 0, 1) := by decide +kernel
theorem d_M_completeIfDone_73 : decode b_M_completeIfDone 73 = .ok (.getfield 17, 3) := by decide +kernel
theorem d_M_completeIfDone_76 : decode b_M_completeIfDone 76 = .ok (.iload_n 1, 1) := by decide +kernel
theorem d_M_completeIfDone_77 : decode b_M_completeIfDone 77 = .ok (.aload_n 0, 1) := by decide +kernel
theorem d_M_completeIfDone_78 : decode b_M_completeIfDone 78 = .ok (.getfield 7, 3) := by decide +kernel
theorem d_M_completeIfDone_81 : decode b_M_completeIfDone 81 = .ok (.iload_n 1, 1) := by decide +kernel
theorem d_M_completeIfDone_82 : decode b_M_completeIfDone 82 = .ok (.baload, 1) := by decide +kernel
theorem d_M_completeIfDone_83 : decode b_M_completeIfDone 83 = .ok (.bastore, 1) := by decide +kernel
theorem d_M_completeIfDone_84 : decode b_M_completeIfDone 84 = .ok (.aload_n 0, 1) := by decide +kernel
theorem d_M_completeIfDone_85 : decode b_M_completeIfDone 85 = .ok (.getfield 20, 3) := by decide +kernel
theorem d_M_completeIfDone_88 : decode b_M_completeIfDone 88 = .ok (.iload_n 1, 1) := by decide +kernel
theorem d_M_completeIfDone_89 : decode b_M_completeIfDone 89 = .ok (.aload_n 0, 1) := by decide +kernel
theorem d_M_completeIfDone_90 : decode b_M_completeIfDone 90 = .ok (.getfield 13, 3) := by decide +kernel
theorem d_M_completeIfDone_93 : decode b_M_completeIfDone 93 = .ok (.iload_n 1, 1) := by decide +kernel
theorem d_M_completeIfDone_94 : decode b_M_completeIfDone 94 = .ok (.iaload, 1) := by decide +kernel
theorem d_M_completeIfDone_95 : decode b_M_completeIfDone 95 = .ok (.iastore, 1) := by decide +kernel
theorem d_M_completeIfDone_96 : decode b_M_completeIfDone 96 = .ok (.iinc 1 1, 3) := by decide +kernel
theorem d_M_completeIfDone_99 : decode b_M_completeIfDone 99 = .ok (.goto (-33), 3) := by decide +kernel
theorem d_M_completeIfDone_102 : decode b_M_completeIfDone 102 = .ok (.aload_n 0, 1) := by decide +kernel
theorem d_M_completeIfDone_103 : decode b_M_completeIfDone 103 = .ok (.aload_n 0, 1) := by decide +kernel
theorem d_M_completeIfDone_104 : decode b_M_completeIfDone 104 = .ok (.getfield 127, 3) := by decide +kernel
theorem d_M_completeIfDone_107 : decode b_M_completeIfDone 107 = .ok (.putfield 120, 3) := by decide +kernel
theorem d_M_completeIfDone_110 : decode b_M_completeIfDone 110 = .ok (.aload_n 0, 1) := by decide +kernel
theorem d_M_completeIfDone_111 : decode b_M_completeIfDone 111 = .ok (.iconst 0, 1) := by decide +kernel
theorem d_M_completeIfDone_112 : decode b_M_completeIfDone 112 = .ok (.putfield 127, 3) := by decide +kernel
theorem d_M_completeIfDone_115 : decode b_M_completeIfDone 115 = .ok (.aload_n 0, 1) := by decide +kernel
theorem d_M_completeIfDone_116 : decode b_M_completeIfDone 116 = .ok (.getfield 117, 3) := by decide +kernel
theorem d_M_completeIfDone_119 : decode b_M_completeIfDone 119 = .ok (.aload_n 0, 1) := by decide +kernel
theorem d_M_completeIfDone_120 : decode b_M_completeIfDone 120 = .ok (.getfield 120, 3) := by decide +kernel
theorem d_M_completeIfDone_123 : decode b_M_completeIfDone 123 = .ok (.if_icmp .ge 11, 3) := by decide +kernel
theorem d_M_completeIfDone_126 : decode b_M_completeIfDone 126 = .ok (.aload_n 0, 1) := by decide +kernel
theorem d_M_completeIfDone_127 : decode b_M_completeIfDone 127 = .ok (.aload_n 0, 1) := by decide +kernel
theorem d_M_completeIfDone_128 : decode b_M_completeIfDone 128 = .ok (.getfield 120, 3) := by decide +kernel
theorem d_M_completeIfDone_131 : decode b_M_completeIfDone 131 = .ok (.putfield 117, 3) := by decide +kernel
theorem d_M_completeIfDone_134 : decode b_M_completeIfDone 134 = .ok (.aload_n 0, 1) := by decide +kernel
theorem d_M_completeIfDone_135 : decode b_M_completeIfDone 135 = .ok (.getfield 120, 3) := by decide +kernel
theorem d_M_completeIfDone_138 : decode b_M_completeIfDone 138 = .ok (.iconst 1, 1) := by decide +kernel
theorem d_M_completeIfDone_139 : decode b_M_completeIfDone 139 = .ok (.iadd, 1) := by decide +kernel
theorem d_M_completeIfDone_140 : decode b_M_completeIfDone 140 = .ok (.istore_n 1, 1) := by decide +kernel
theorem d_M_completeIfDone_141 : decode b_M_completeIfDone 141 = .ok (.iload_n 1, 1) := by decide +kernel
theorem d_M_completeIfDone_142 : decode b_M_completeIfDone 142 = .ok (.aload_n 0, 1) := by decide +kernel
theorem d_M_completeIfDone_143 : decode b_M_completeIfDone 143 = .ok (.getfield 133, 3) := by decide +kernel
theorem d_M_completeIfDone_146 : decode b_M_completeIfDone 146 = .ok (.if_icmp .gt 32, 3) := by decide +kernel
theorem d_M_completeIfDone_149 : decode b_M_completeIfDone 149 = .ok (.aload_n 0, 1) := by decide +kernel
theorem d_M_completeIfDone_150 : decode b_M_completeIfDone 150 = .ok (.getfield 54, 3) := by decide +kernel
theorem d_M_completeIfDone_153 : decode b_M_completeIfDone 153 = .ok (.iload_n 1, 1) := by decide +kernel
theorem d_M_completeIfDone_154 : decode b_M_completeIfDone 154 = .ok (.iaload, 1) := by decide +kernel
theorem d_M_completeIfDone_155 : decode b_M_completeIfDone 155 = .ok (.ifCond .lt 17, 3) := by decide +kernel
theorem d_M_completeIfDone_158 : decode b_M_completeIfDone 158 = .ok (.aload_n 0, 1) := by decide +kernel
theorem d_M_completeIfDone_159 : decode b_M_completeIfDone 159 = .ok (.getfield 60, 3) := by decide +kernel
theorem d_M_completeIfDone_162 : decode b_M_completeIfDone 162 = .ok (.iload_n 1, 1) := by decide +kernel
theorem d_M_completeIfDone_163 : decode b_M_completeIfDone 163 = .ok (.baload, 1) := by decide +kernel
theorem d_M_completeIfDone_164 : decode b_M_completeIfDone 164 = .ok (.ifCond .eq 8, 3) := by decide +kernel
theorem d_M_completeIfDone_167 : decode b_M_completeIfDone 167 = .ok (.aload_n 0, 1) := by decide +kernel
theorem d_M_completeIfDone_168 : decode b_M_completeIfDone 168 = .ok (.iload_n 1, 1) := by decide +kernel
theorem d_M_completeIfDone_169 : decode b_M_completeIfDone 169 = .ok (.invokevirtual 123, 3) := by decide +kernel
theorem d_M_completeIfDone_172 : decode b_M_completeIfDone 172 = .ok (.iinc 1 1, 3) := by decide +kernel
theorem d_M_completeIfDone_175 : decode b_M_completeIfDone 175 = .ok (.goto (-34), 3) := by decide +kernel
theorem d_M_completeIfDone_178 : decode b_M_completeIfDone 178 = .ok (.aload_n 0, 1) := by decide +kernel
theorem d_M_completeIfDone_179 : decode b_M_completeIfDone 179 = .ok (.invokevirtual 136, 3) := by decide +kernel
theorem d_M_completeIfDone_182 : decode b_M_completeIfDone 182 = .ok (.return_, 1) := by decide +kernel
theorem d_M_step_0 : decode b_M_step 0 = .ok (.iload_n 1, 1) := by decide +kernel
theorem d_M_step_1 : decode b_M_step 1 = .ok (.aload_n 0, 1) := by decide +kernel
theorem d_M_step_2 : decode b_M_step 2 = .ok (.getfield 96, 3) := by decide +kernel
theorem d_M_step_5 : decode b_M_step 5 = .ok (.invokestatic 99, 3) := by decide +kernel
theorem d_M_step_8 : decode b_M_step 8 = .ok (.ifCond .eq 5, 3) := by decide +kernel
theorem d_M_step_11 : decode b_M_step 11 = .ok (.iconst (-1), 1) := by decide +kernel
theorem d_M_step_12 : decode b_M_step 12 = .ok (.ireturn, 1) := by decide +kernel
theorem d_M_step_13 : decode b_M_step 13 = .ok (.iconst 1, 1) := by decide +kernel
theorem d_M_step_14 : decode b_M_step 14 = .ok (.istore_n 2, 1) := by decide +kernel
theorem d_M_step_15 : decode b_M_step 15 = .ok (.iload_n 2, 1) := by decide +kernel
theorem d_M_step_16 : decode b_M_step 16 = .ok (.aload_n 0, 1) := by decide +kernel
theorem d_M_step_17 : decode b_M_step 17 = .ok (.getfield 133, 3) := by decide +kernel
theorem d_M_step_20 : decode b_M_step 20 = .ok (.if_icmp .gt 18, 3) := by decide +kernel
theorem d_M_step_23 : decode b_M_step 23 = .ok (.aload_n 0, 1) := by decide +kernel
theorem d_M_step_24 : decode b_M_step 24 = .ok (.iload_n 1, 1) := by decide +kernel
theorem d_M_step_25 : decode b_M_step 25 = .ok (.iload_n 2, 1) := by decide +kernel
theorem d_M_step_26 : decode b_M_step 26 = .ok (.invokevirtual 146, 3) := by decide +kernel
theorem d_M_step_29 : decode b_M_step 29 = .ok (.ifCond .ne 9, 3) := by decide +kernel
theorem d_M_step_32 : decode b_M_step 32 = .ok (.iinc 2 1, 3) := by decide +kernel
theorem d_M_step_35 : decode b_M_step 35 = .ok (.goto (-20), 3) := by decide +kernel
theorem d_M_step_38 : decode b_M_step 38 = .ok (.iload_n 2, 1) := by decide +kernel
theorem d_M_step_39 : decode b_M_step 39 = .ok (.aload_n 0, 1) := by decide +kernel
theorem d_M_step_40 : decode b_M_step 40 = .ok (.getfield 133, 3) := by decide +kernel
theorem d_M_step_43 : decode b_M_step 43 = .ok (.if_icmp .le 5, 3) := by decide +kernel
theorem d_M_step_46 : decode b_M_step 46 = .ok (.iconst 0, 1) := by decide +kernel
theorem d_M_step_47 : decode b_M_step 47 = .ok (.ireturn, 1) := by decide +kernel
theorem d_M_step_48 : decode b_M_step 48 = .ok (.aload_n 0, 1) := by decide +kernel
theorem d_M_step_49 : decode b_M_step 49 = .ok (.getfield 63, 3) := by decide +kernel
theorem d_M_step_52 : decode b_M_step 52 = .ok (.iload_n 2, 1) := by decide +kernel
theorem d_M_step_53 : decode b_M_step 53 = .ok (.dup2, 1) := by decide +kernel
theorem d_M_step_54 : decode b_M_step 54 = .ok (.iaload, 1) := by decide +kernel
theorem d_M_step_55 : decode b_M_step 55 = .ok (.iconst 1, 1) := by decide +kernel
theorem d_M_step_56 : decode b_M_step 56 = .ok (.iload_n 1, 1) := by decide +kernel
theorem d_M_step_57 : decode b_M_step 57 = .ok (.ishl, 1) := by decide +kernel
theorem d_M_step_58 : decode b_M_step 58 = .ok (.ior, 1) := by decide +kernel
theorem d_M_step_59 : decode b_M_step 59 = .ok (.iastore, 1) := by decide +kernel
theorem d_M_step_60 : decode b_M_step 60 = .ok (.aload_n 0, 1) := by decide +kernel
theorem d_M_step_61 : decode b_M_step 61 = .ok (.getfield 54, 3) := by decide +kernel
theorem d_M_step_64 : decode b_M_step 64 = .ok (.iload_n 2, 1) := by decide +kernel
theorem d_M_step_65 : decode b_M_step 65 = .ok (.iaload, 1) := by decide +kernel
theorem d_M_step_66 : decode b_M_step 66 = .ok (.ifCond .ge 28, 3) := by decide +kernel
theorem d_M_step_69 : decode b_M_step 69 = .ok (.iload_n 2, 1) := by decide +kernel
theorem d_M_step_70 : decode b_M_step 70 = .ok (.aload_n 0, 1) := by decide +kernel
theorem d_M_step_71 : decode b_M_step 71 = .ok (.getfield 127, 3) := by decide +kernel
theorem d_M_step_74 : decode b_M_step 74 = .ok (.if_icmp .ne 14, 3) := by decide +kernel
theorem d_M_step_77 : decode b_M_step 77 = .ok (.aload_n 0, 1) := by decide +kernel
theorem d_M_step_78 : decode b_M_step 78 = .ok (.getfield 75, 3) := by decide +kernel
theorem d_M_step_81 : decode b_M_step 81 = .ok (.iload_n 1, 1) := by decide +kernel
theorem d_M_step_82 : decode b_M_step 82 = .ok (.aload_n 0, 1) := by decide +kernel
theorem d_M_step_83 : decode b_M_step 83 = .ok (.iload_n 1, 1) := by decide +kernel
theorem d_M_step_84 : decode b_M_step 84 = .ok (.invokevirtual 149, 3) := by decide +kernel
theorem d_M_step_87 : decode b_M_step 87 = .ok (.iastore, 1) := by decide +kernel
theorem d_M_step_88 : decode b_M_step 88 = .ok (.aload_n 0, 1) := by decide +kernel
theorem d_M_step_89 : decode b_M_step 89 = .ok (.invokevirtual 152, 3) := by decide +kernel
theorem d_M_step_92 : decode b_M_step 92 = .ok (.iconst 3, 1) := by decide +kernel
theorem d_M_step_93 : decode b_M_step 93 = .ok (.ireturn, 1) := by decide +kernel
theorem d_M_step_94 : decode b_M_step 94 = .ok (.aload_n 0, 1) := by decide +kernel
theorem d_M_step_95 : decode b_M_step 95 = .ok (.getfield 32, 3) := by decide +kernel
theorem d_M_step_98 : decode b_M_step 98 = .ok (.aload_n 0, 1) := by decide +kernel
theorem d_M_step_99 : decode b_M_step 99 = .ok (.getfield 54, 3) := by decide +kernel
theorem d_M_step_102 : decode b_M_step 102 = .ok (.iload_n 2, 1) := by decide +kernel
theorem d_M_step_103 : decode b_M_step 103 = .ok (.iaload, 1) := by decide +kernel
theorem d_M_step_104 : decode b_M_step 104 = .ok (.baload, 1) := by decide +kernel
theorem d_M_step_105 : decode b_M_step 105 = .ok (.ifCond .eq 22, 3) := by decide +kernel
theorem d_M_step_108 : decode b_M_step 108 = .ok (.aload_n 0, 1) := by decide +kernel
theorem d_M_step_109 : decode b_M_step 109 = .ok (.getfield 63, 3) := by decide +kernel
theorem d_M_step_112 : decode b_M_step 112 = .ok (.iload_n 2, 1) := by decide +kernel
theorem d_M_step_113 : decode b_M_step 113 = .ok (.iaload, 1) := by decide +kernel
theorem d_M_step_114 : decode b_M_step 114 = .ok (.iconst 1, 1) := by decide +kernel
theorem d_M_step_115 : decode b_M_step 115 = .ok (.aload_n 0, 1) := by decide +kernel
theorem d_M_step_116 : decode b_M_step 116 = .ok (.getfield 96, 3) := by decide +kernel
theorem d_M_step_119 : decode b_M_step 119 = .ok (.ishl, 1) := by decide +kernel
theorem d_M_step_120 : decode b_M_step 120 = .ok (.iconst 1, 1) := by decide +kernel
theorem d_M_step_121 : decode b_M_step 121 = .ok (.isub, 1) := by decide +kernel
theorem d_M_step_122 : decode b_M_step 122 = .ok (.if_icmp .eq 5, 3) := by decide +kernel
theorem d_M_step_125 : decode b_M_step 125 = .ok (.iconst 2, 1) := by decide +kernel
theorem d_M_step_126 : decode b_M_step 126 = .ok (.ireturn, 1) := by decide +kernel
theorem d_M_step_127 : decode b_M_step 127 = .ok (.aload_n 0, 1) := by decide +kernel
theorem d_M_step_128 : decode b_M_step 128 = .ok (.iload_n 2, 1) := by decide +kernel
theorem d_M_step_129 : decode b_M_step 129 = .ok (.invokevirtual 123, 3) := by decide +kernel
theorem d_M_step_132 : decode b_M_step 132 = .ok (.aload_n 0, 1) := by decide +kernel
theorem d_M_step_133 : decode b_M_step 133 = .ok (.getfield 60, 3) := by decide +kernel
theorem d_M_step_136 : decode b_M_step 136 = .ok (.iload_n 2, 1) := by decide +kernel
theorem d_M_step_137 : decode b_M_step 137 = .ok (.iconst 1, 1) := by decide +kernel
theorem d_M_step_138 : decode b_M_step 138 = .ok (.bastore, 1) := by decide +kernel
theorem d_M_step_139 : decode b_M_step 139 = .ok (.aload_n 0, 1) := by decide +kernel
theorem d_M_step_140 : decode b_M_step 140 = .ok (.invokevirtual 136, 3) := by decide +kernel
theorem d_M_step_143 : decode b_M_step 143 = .ok (.iconst 1, 1) := by decide +kernel
theorem d_M_step_144 : decode b_M_step 144 = .ok (.ireturn, 1) := by decide +kernel
theorem d_M_flush_0 : decode b_M_flush 0 = .ok (.aload_n 0, 1) := by decide +kernel
theorem d_M_flush_1 : decode b_M_flush 1 = .ok (.aload_n 0, 1) := by decide +kernel
theorem d_M_flush_2 : decode b_M_flush 2 = .ok (.getfield 133, 3) := by decide +kernel
theorem d_M_flush_5 : decode b_M_flush 5 = .ok (.putfield 117, 3) := by decide +kernel
theorem d_M_flush_8 : decode b_M_flush 8 = .ok (.aload_n 0, 1) := by decide +kernel
theorem d_M_flush_9 : decode b_M_flush 9 = .ok (.invokevirtual 136, 3) := by decide +kernel
theorem d_M_flush_12 : decode b_M_flush 12 = .ok (.aload_n 0, 1) := by decide +kernel
theorem d_M_flush_13 : decode b_M_flush 13 = .ok (.getfield 117, 3) := by decide +kernel
theorem d_M_flush_16 : decode b_M_flush 16 = .ok (.ireturn, 1) := by decide +kernel
theorem d_M_snapshot_0 : decode b_M_snapshot 0 = .ok (.aload_n 0, 1) := by decide +kernel
theorem d_M_snapshot_1 : decode b_M_snapshot 1 = .ok (.getfield 127, 3) := by decide +kernel
theorem d_M_snapshot_4 : decode b_M_snapshot 4 = .ok (.ifCond .le 5, 3) := by decide +kernel
theorem d_M_snapshot_7 : decode b_M_snapshot 7 = .ok (.iconst (-1), 1) := by decide +kernel
theorem d_M_snapshot_8 : decode b_M_snapshot 8 = .ok (.ireturn, 1) := by decide +kernel
theorem d_M_snapshot_9 : decode b_M_snapshot 9 = .ok (.aload_n 0, 1) := by decide +kernel
theorem d_M_snapshot_10 : decode b_M_snapshot 10 = .ok (.aload_n 0, 1) := by decide +kernel
theorem d_M_snapshot_11 : decode b_M_snapshot 11 = .ok (.iconst (-1), 1) := by decide +kernel
theorem d_M_snapshot_12 : decode b_M_snapshot 12 = .ok (.invokevirtual 143, 3) := by decide +kernel
theorem d_M_snapshot_15 : decode b_M_snapshot 15 = .ok (.putfield 127, 3) := by decide +kernel
theorem d_M_snapshot_18 : decode b_M_snapshot 18 = .ok (.aload_n 0, 1) := by decide +kernel
theorem d_M_snapshot_19 : decode b_M_snapshot 19 = .ok (.getfield 127, 3) := by decide +kernel
theorem d_M_snapshot_22 : decode b_M_snapshot 22 = .ok (.ireturn, 1) := by decide +kernel
theorem d_M_scan_0 : decode b_M_scan 0 = .ok (.iload_n 1, 1) := by decide +kernel
theorem d_M_scan_1 : decode b_M_scan 1 = .ok (.aload_n 0, 1) := by decide +kernel
theorem d_M_scan_2 : decode b_M_scan 2 = .ok (.getfield 96, 3) := by decide +kernel
theorem d_M_scan_5 : decode b_M_scan 5 = .ok (.invokestatic 99, 3) := by decide +kernel
theorem d_M_scan_8 : decode b_M_scan 8 = .ok (.ifCond .ne 26, 3) := by decide +kernel
theorem d_M_scan_11 : decode b_M_scan 11 = .ok (.aload_n 0, 1) := by decide +kernel
theorem d_M_scan_12 : decode b_M_scan 12 = .ok (.getfield 127, 3) := by decide +kernel
theorem d_M_scan_15 : decode b_M_scan 15 = .ok (.ifCond .eq 19, 3) := by decide +kernel
theorem d_M_scan_18 : decode b_M_scan 18 = .ok (.aload_n 0, 1) := by decide +kernel
theorem d_M_scan_19 : decode b_M_scan 19 = .ok (.getfield 63, 3) := by decide +kernel
theorem d_M_scan_22 : decode b_M_scan 22 = .ok (.aload_n 0, 1) := by decide +kernel
theorem d_M_scan_23 : decode b_M_scan 23 = .ok (.getfield 127, 3) := by decide +kernel
theorem d_M_scan_26 : decode b_M_scan 26 = .ok (.iaload, 1) := by decide +kernel
theorem d_M_scan_27 : decode b_M_scan 27 = .ok (.iload_n 1, 1) := by decide +kernel
theorem d_M_scan_28 : decode b_M_scan 28 = .ok (.ishr, 1) := by decide +kernel
theorem d_M_scan_29 : decode b_M_scan 29 = .ok (.iconst 1, 1) := by decide +kernel
theorem d_M_scan_30 : decode b_M_scan 30 = .ok (.iand, 1) := by decide +kernel
theorem d_M_scan_31 : decode b_M_scan 31 = .ok (.ifCond .ne 5, 3) := by decide +kernel
theorem d_M_scan_34 : decode b_M_scan 34 = .ok (.iconst (-1), 1) := by decide +kernel
theorem d_M_scan_35 : decode b_M_scan 35 = .ok (.ireturn, 1) := by decide +kernel
theorem d_M_scan_36 : decode b_M_scan 36 = .ok (.iload_n 2, 1) := by decide +kernel
theorem d_M_scan_37 : decode b_M_scan 37 = .ok (.ifCond .ge 7, 3) := by decide +kernel
theorem d_M_scan_40 : decode b_M_scan 40 = .ok (.iconst 0, 1) := by decide +kernel
theorem d_M_scan_41 : decode b_M_scan 41 = .ok (.goto 4, 3) := by decide +kernel
theorem d_M_scan_44 : decode b_M_scan 44 = .ok (.iload_n 2, 1) := by decide +kernel
theorem d_M_scan_45 : decode b_M_scan 45 = .ok (.istore_n 3, 1) := by decide +kernel
theorem d_M_scan_46 : decode b_M_scan 46 = .ok (.aload_n 0, 1) := by decide +kernel
theorem d_M_scan_47 : decode b_M_scan 47 = .ok (.getfield 75, 3) := by decide +kernel
theorem d_M_scan_50 : decode b_M_scan 50 = .ok (.iload_n 1, 1) := by decide +kernel
theorem d_M_scan_51 : decode b_M_scan 51 = .ok (.iaload, 1) := by decide +kernel
theorem d_M_scan_52 : decode b_M_scan 52 = .ok (.iload_n 3, 1) := by decide +kernel
theorem d_M_scan_53 : decode b_M_scan 53 = .ok (.if_icmp .le 14, 3) := by decide +kernel
theorem d_M_scan_56 : decode b_M_scan 56 = .ok (.aload_n 0, 1) := by decide +kernel
theorem d_M_scan_57 : decode b_M_scan 57 = .ok (.getfield 75, 3) := by decide +kernel
theorem d_M_scan_60 : decode b_M_scan 60 = .ok (.iload_n 1, 1) := by decide +kernel
theorem d_M_scan_61 : decode b_M_scan 61 = .ok (.iaload, 1) := by decide +kernel
theorem d_M_scan_62 : decode b_M_scan 62 = .ok (.iload_n 3, 1) := by decide +kernel
theorem d_M_scan_63 : decode b_M_scan 63 = .ok (.isub, 1) := by decide +kernel
theorem d_M_scan_64 : decode b_M_scan 64 = .ok (.goto 4, 3) := by decide +kernel
theorem d_M_scan_67 : decode b_M_scan 67 = .ok (.iconst 0, 1) := by decide +kernel
theorem d_M_scan_68 : decode b_M_scan 68 = .ok (.istore 4, 2) := by decide +kernel
theorem d_M_scan_70 : decode b_M_scan 70 = .ok (.aload_n 0, 1) := by decide +kernel
theorem d_M_scan_71 : decode b_M_scan 71 = .ok (.getfield 75, 3) := by decide +kernel
theorem d_M_scan_74 : decode b_M_scan 74 = .ok (.iload_n 1, 1) := by decide +kernel
theorem d_M_scan_75 : decode b_M_scan 75 = .ok (.iload 4, 2) := by decide +kernel
theorem d_M_scan_77 : decode b_M_scan 77 = .ok (.iastore, 1) := by decide +kernel
theorem d_M_scan_78 : decode b_M_scan 78 = .ok (.aload_n 0, 1) := by decide +kernel
theorem d_M_scan_79 : decode b_M_scan 79 = .ok (.invokevirtual 152, 3) := by decide +kernel
theorem d_M_scan_82 : decode b_M_scan 82 = .ok (.iload 4, 2) := by decide +kernel
theorem d_M_scan_84 : decode b_M_scan 84 = .ok (.ireturn, 1) := by decide +kernel
theorem d_M_crash_0 : decode b_M_crash 0 = .ok (.aload_n 0, 1) := by decide +kernel
theorem d_M_crash_1 : decode b_M_crash 1 = .ok (.aload_n 0, 1) := by decide +kernel
theorem d_M_crash_2 : decode b_M_crash 2 = .ok (.getfield 117, 3) := by decide +kernel
theorem d_M_crash_5 : decode b_M_crash 5 = .ok (.putfield 133, 3) := by decide +kernel
theorem d_M_crash_8 : decode b_M_crash 8 = .ok (.aload_n 0, 1) := by decide +kernel
theorem d_M_crash_9 : decode b_M_crash 9 = .ok (.aload_n 0, 1) := by decide +kernel
theorem d_M_crash_10 : decode b_M_crash 10 = .ok (.getfield 133, 3) := by decide +kernel
theorem d_M_crash_13 : decode b_M_crash 13 = .ok (.invokevirtual 130, 3) := by decide +kernel
theorem d_M_crash_16 : decode b_M_crash 16 = .ok (.aload_n 0, 1) := by decide +kernel
theorem d_M_crash_17 : decode b_M_crash 17 = .ok (.iconst 0, 1) := by decide +kernel
theorem d_M_crash_18 : decode b_M_crash 18 = .ok (.putfield 127, 3) := by decide +kernel
theorem d_M_crash_21 : decode b_M_crash 21 = .ok (.iconst 1, 1) := by decide +kernel
theorem d_M_crash_22 : decode b_M_crash 22 = .ok (.istore_n 1, 1) := by decide +kernel
theorem d_M_crash_23 : decode b_M_crash 23 = .ok (.iload_n 1, 1) := by decide +kernel
theorem d_M_crash_24 : decode b_M_crash 24 = .ok (.aload_n 0, 1) := by decide +kernel
theorem d_M_crash_25 : decode b_M_crash 25 = .ok (.getfield 133, 3) := by decide +kernel
theorem d_M_crash_28 : decode b_M_crash 28 = .ok (.if_icmp .gt 16, 3) := by decide +kernel
theorem d_M_crash_31 : decode b_M_crash 31 = .ok (.aload_n 0, 1) := by decide +kernel
theorem d_M_crash_32 : decode b_M_crash 32 = .ok (.getfield 60, 3) := by decide +kernel
theorem d_M_crash_35 : decode b_M_crash 35 = .ok (.iload_n 1, 1) := by decide +kernel
theorem d_M_crash_36 : decode b_M_crash 36 = .ok (.iconst 1, 1) := by decide +kernel
theorem d_M_crash_37 : decode b_M_crash 37 = .ok (.bastore, 1) := by decide +kernel
theorem d_M_crash_38 : decode b_M_crash 38 = .ok (.iinc 1 1, 3) := by decide +kernel
theorem d_M_crash_41 : decode b_M_crash 41 = .ok (.goto (-18), 3) := by decide +kernel
theorem d_M_crash_44 : decode b_M_crash 44 = .ok (.iconst 0, 1) := by decide +kernel
theorem d_M_crash_45 : decode b_M_crash 45 = .ok (.istore_n 1, 1) := by decide +kernel
theorem d_M_crash_46 : decode b_M_crash 46 = .ok (.iload_n 1, 1) := by decide +kernel
theorem d_M_crash_47 : decode b_M_crash 47 = .ok (.iconst 4, 1) := by decide +kernel
theorem d_M_crash_48 : decode b_M_crash 48 = .ok (.if_icmp .ge 26, 3) := by decide +kernel
theorem d_M_crash_51 : decode b_M_crash 51 = .ok (.aload_n 0, 1) := by decide +kernel
theorem d_M_crash_52 : decode b_M_crash 52 = .ok (.getfield 78, 3) := by decide +kernel
theorem d_M_crash_55 : decode b_M_crash 55 = .ok (.iload_n 1, 1) := by decide +kernel
theorem d_M_crash_56 : decode b_M_crash 56 = .ok (.iaload, 1) := by decide +kernel
theorem d_M_crash_57 : decode b_M_crash 57 = .ok (.iconst 1, 1) := by decide +kernel
theorem d_M_crash_58 : decode b_M_crash 58 = .ok (.if_icmp .ne 10, 3) := by decide +kernel
theorem d_M_crash_61 : decode b_M_crash 61 = .ok (.aload_n 0, 1) := by decide +kernel
theorem d_M_crash_62 : decode b_M_crash 62 = .ok (.getfield 78, 3) := by decide +kernel
theorem d_M_crash_65 : decode b_M_crash 65 = .ok (.iload_n 1, 1) := by decide +kernel
theorem d_M_crash_66 : decode b_M_crash 66 = .ok (.iconst 4, 1) := by decide +kernel
theorem d_M_crash_67 : decode b_M_crash 67 = .ok (.iastore, 1) := by decide +kernel
theorem d_M_crash_68 : decode b_M_crash 68 = .ok (.iinc 1 1, 3) := by decide +kernel
theorem d_M_crash_71 : decode b_M_crash 71 = .ok (.goto (-25), 3) := by decide +kernel
theorem d_M_crash_74 : decode b_M_crash 74 = .ok (.aload_n 0, 1) := by decide +kernel
theorem d_M_crash_75 : decode b_M_crash 75 = .ok (.getfield 117, 3) := by decide +kernel
theorem d_M_crash_78 : decode b_M_crash 78 = .ok (.ireturn, 1) := by decide +kernel
theorem d_M_answer_0 : decode b_M_answer 0 = .ok (.iload_n 1, 1) := by decide +kernel
theorem d_M_answer_1 : decode b_M_answer 1 = .ok (.iconst 4, 1) := by decide +kernel
theorem d_M_answer_2 : decode b_M_answer 2 = .ok (.invokestatic 99, 3) := by decide +kernel
theorem d_M_answer_5 : decode b_M_answer 5 = .ok (.ifCond .eq 7, 3) := by decide +kernel
theorem d_M_answer_8 : decode b_M_answer 8 = .ok (.iconst (-1), 1) := by decide +kernel
theorem d_M_answer_9 : decode b_M_answer 9 = .ok (.goto 9, 3) := by decide +kernel
theorem d_M_answer_12 : decode b_M_answer 12 = .ok (.aload_n 0, 1) := by decide +kernel
theorem d_M_answer_13 : decode b_M_answer 13 = .ok (.getfield 78, 3) := by decide +kernel
theorem d_M_answer_16 : decode b_M_answer 16 = .ok (.iload_n 1, 1) := by decide +kernel
theorem d_M_answer_17 : decode b_M_answer 17 = .ok (.iaload, 1) := by decide +kernel
theorem d_M_answer_18 : decode b_M_answer 18 = .ok (.ireturn, 1) := by decide +kernel
theorem d_M_output_0 : decode b_M_output 0 = .ok (.iload_n 1, 1) := by decide +kernel
theorem d_M_output_1 : decode b_M_output 1 = .ok (.iconst 4, 1) := by decide +kernel
theorem d_M_output_2 : decode b_M_output 2 = .ok (.invokestatic 99, 3) := by decide +kernel
theorem d_M_output_5 : decode b_M_output 5 = .ok (.ifCond .eq 7, 3) := by decide +kernel
theorem d_M_output_8 : decode b_M_output 8 = .ok (.ldc2_w 155, 3) := by decide +kernel
theorem d_M_output_11 : decode b_M_output 11 = .ok (.lreturn, 1) := by decide +kernel
theorem d_M_output_12 : decode b_M_output 12 = .ok (.aload_n 0, 1) := by decide +kernel
theorem d_M_output_13 : decode b_M_output 13 = .ok (.getfield 78, 3) := by decide +kernel
theorem d_M_output_16 : decode b_M_output 16 = .ok (.iload_n 1, 1) := by decide +kernel
theorem d_M_output_17 : decode b_M_output 17 = .ok (.iaload, 1) := by decide +kernel
theorem d_M_output_18 : decode b_M_output 18 = .ok (.iconst 3, 1) := by decide +kernel
theorem d_M_output_19 : decode b_M_output 19 = .ok (.if_icmp .ne 22, 3) := by decide +kernel
theorem d_M_output_22 : decode b_M_output 22 = .ok (.iload_n 2, 1) := by decide +kernel
theorem d_M_output_23 : decode b_M_output 23 = .ok (.iconst (-1), 1) := by decide +kernel
theorem d_M_output_24 : decode b_M_output 24 = .ok (.if_icmp .ne 13, 3) := by decide +kernel
theorem d_M_output_27 : decode b_M_output 27 = .ok (.aload_n 0, 1) := by decide +kernel
theorem d_M_output_28 : decode b_M_output 28 = .ok (.getfield 90, 3) := by decide +kernel
theorem d_M_output_31 : decode b_M_output 31 = .ok (.iload_n 1, 1) := by decide +kernel
theorem d_M_output_32 : decode b_M_output 32 = .ok (.iaload, 1) := by decide +kernel
theorem d_M_output_33 : decode b_M_output 33 = .ok (.i2l, 1) := by decide +kernel
theorem d_M_output_34 : decode b_M_output 34 = .ok (.goto 6, 3) := by decide +kernel
theorem d_M_output_37 : decode b_M_output 37 = .ok (.ldc2_w 155, 3) := by decide +kernel
theorem d_M_output_40 : decode b_M_output 40 = .ok (.lreturn, 1) := by decide +kernel
theorem d_M_output_41 : decode b_M_output 41 = .ok (.aload_n 0, 1) := by decide +kernel
theorem d_M_output_42 : decode b_M_output 42 = .ok (.getfield 78, 3) := by decide +kernel
theorem d_M_output_45 : decode b_M_output 45 = .ok (.iload_n 1, 1) := by decide +kernel
theorem d_M_output_46 : decode b_M_output 46 = .ok (.iaload, 1) := by decide +kernel
theorem d_M_output_47 : decode b_M_output 47 = .ok (.iconst 2, 1) := by decide +kernel
theorem d_M_output_48 : decode b_M_output 48 = .ok (.if_icmp .eq 7, 3) := by decide +kernel
theorem d_M_output_51 : decode b_M_output 51 = .ok (.ldc2_w 155, 3) := by decide +kernel
theorem d_M_output_54 : decode b_M_output 54 = .ok (.lreturn, 1) := by decide +kernel
theorem d_M_output_55 : decode b_M_output 55 = .ok (.iload_n 2, 1) := by decide +kernel
theorem d_M_output_56 : decode b_M_output 56 = .ok (.iconst (-1), 1) := by decide +kernel
theorem d_M_output_57 : decode b_M_output 57 = .ok (.if_icmp .ne 11, 3) := by decide +kernel
theorem d_M_output_60 : decode b_M_output 60 = .ok (.aload_n 0, 1) := by decide +kernel
theorem d_M_output_61 : decode b_M_output 61 = .ok (.getfield 84, 3) := by decide +kernel
theorem d_M_output_64 : decode b_M_output 64 = .ok (.iload_n 1, 1) := by decide +kernel
theorem d_M_output_65 : decode b_M_output 65 = .ok (.iaload, 1) := by decide +kernel
theorem d_M_output_66 : decode b_M_output 66 = .ok (.i2l, 1) := by decide +kernel
theorem d_M_output_67 : decode b_M_output 67 = .ok (.lreturn, 1) := by decide +kernel
theorem d_M_output_68 : decode b_M_output 68 = .ok (.iload_n 2, 1) := by decide +kernel
theorem d_M_output_69 : decode b_M_output 69 = .ok (.aload_n 0, 1) := by decide +kernel
theorem d_M_output_70 : decode b_M_output 70 = .ok (.getfield 84, 3) := by decide +kernel
theorem d_M_output_73 : decode b_M_output 73 = .ok (.iload_n 1, 1) := by decide +kernel
theorem d_M_output_74 : decode b_M_output 74 = .ok (.iaload, 1) := by decide +kernel
theorem d_M_output_75 : decode b_M_output 75 = .ok (.invokestatic 99, 3) := by decide +kernel
theorem d_M_output_78 : decode b_M_output 78 = .ok (.ifCond .eq 9, 3) := by decide +kernel
theorem d_M_output_81 : decode b_M_output 81 = .ok (.ldc2_w 155, 3) := by decide +kernel
theorem d_M_output_84 : decode b_M_output 84 = .ok (.goto 14, 3) := by decide +kernel
theorem d_M_output_87 : decode b_M_output 87 = .ok (.aload_n 0, 1) := by decide +kernel
theorem d_M_output_88 : decode b_M_output 88 = .ok (.getfield 87, 3) := by decide +kernel
theorem d_M_output_91 : decode b_M_output 91 = .ok (.iconst 4, 1) := by decide +kernel
theorem d_M_output_92 : decode b_M_output 92 = .ok (.iload_n 1, 1) := by decide +kernel
theorem d_M_output_93 : decode b_M_output 93 = .ok (.imul, 1) := by decide +kernel
theorem d_M_output_94 : decode b_M_output 94 = .ok (.iload_n 2, 1) := by decide +kernel
theorem d_M_output_95 : decode b_M_output 95 = .ok (.iadd, 1) := by decide +kernel
theorem d_M_output_96 : decode b_M_output 96 = .ok (.iaload, 1) := by decide +kernel
theorem d_M_output_97 : decode b_M_output 97 = .ok (.i2l, 1) := by decide +kernel
theorem d_M_output_98 : decode b_M_output 98 = .ok (.lreturn, 1) := by decide +kernel
theorem d_M_row_0 : decode b_M_row 0 = .ok (.iload_n 1, 1) := by decide +kernel
theorem d_M_row_1 : decode b_M_row 1 = .ok (.bipush 32, 2) := by decide +kernel
theorem d_M_row_3 : decode b_M_row 3 = .ok (.invokestatic 99, 3) := by decide +kernel
theorem d_M_row_6 : decode b_M_row 6 = .ok (.ifCond .ne 12, 3) := by decide +kernel
theorem d_M_row_9 : decode b_M_row 9 = .ok (.aload_n 0, 1) := by decide +kernel
theorem d_M_row_10 : decode b_M_row 10 = .ok (.getfield 7, 3) := by decide +kernel
theorem d_M_row_13 : decode b_M_row 13 = .ok (.iload_n 1, 1) := by decide +kernel
theorem d_M_row_14 : decode b_M_row 14 = .ok (.baload, 1) := by decide +kernel
theorem d_M_row_15 : decode b_M_row 15 = .ok (.ifCond .ne 9, 3) := by decide +kernel
theorem d_M_row_18 : decode b_M_row 18 = .ok (.ldc2_w 155, 3) := by decide +kernel
theorem d_M_row_21 : decode b_M_row 21 = .ok (.goto 10, 3) := by decide +kernel
theorem d_M_row_24 : decode b_M_row 24 = .ok (.aload_n 0, 1) := by decide +kernel
theorem d_M_row_25 : decode b_M_row 25 = .ok (.getfield 13, 3) := by decide +kernel
theorem d_M_row_28 : decode b_M_row 28 = .ok (.iload_n 1, 1) := by decide +kernel
theorem d_M_row_29 : decode b_M_row 29 = .ok (.iaload, 1) := by decide +kernel
theorem d_M_row_30 : decode b_M_row 30 = .ok (.i2l, 1) := by decide +kernel
theorem d_M_row_31 : decode b_M_row 31 = .ok (.lreturn, 1) := by decide +kernel
theorem d_M_replicated_0 : decode b_M_replicated 0 = .ok (.iload_n 1, 1) := by decide +kernel
theorem d_M_replicated_1 : decode b_M_replicated 1 = .ok (.bipush 8, 2) := by decide +kernel
theorem d_M_replicated_3 : decode b_M_replicated 3 = .ok (.invokestatic 99, 3) := by decide +kernel
theorem d_M_replicated_6 : decode b_M_replicated 6 = .ok (.ifCond .eq 9, 3) := by decide +kernel
theorem d_M_replicated_9 : decode b_M_replicated 9 = .ok (.ldc2_w 155, 3) := by decide +kernel
theorem d_M_replicated_12 : decode b_M_replicated 12 = .ok (.goto 13, 3) := by decide +kernel
theorem d_M_replicated_15 : decode b_M_replicated 15 = .ok (.aload_n 0, 1) := by decide +kernel
theorem d_M_replicated_16 : decode b_M_replicated 16 = .ok (.getfield 13, 3) := by decide +kernel
theorem d_M_replicated_19 : decode b_M_replicated 19 = .ok (.bipush 32, 2) := by decide +kernel
theorem d_M_replicated_21 : decode b_M_replicated 21 = .ok (.iload_n 1, 1) := by decide +kernel
theorem d_M_replicated_22 : decode b_M_replicated 22 = .ok (.iadd, 1) := by decide +kernel
theorem d_M_replicated_23 : decode b_M_replicated 23 = .ok (.iaload, 1) := by decide +kernel
theorem d_M_replicated_24 : decode b_M_replicated 24 = .ok (.i2l, 1) := by decide +kernel
theorem d_M_replicated_25 : decode b_M_replicated 25 = .ok (.lreturn, 1) := by decide +kernel
theorem d_M_waiting_0 : decode b_M_waiting 0 = .ok (.iload_n 1, 1) := by decide +kernel
theorem d_M_waiting_1 : decode b_M_waiting 1 = .ok (.aload_n 0, 1) := by decide +kernel
theorem d_M_waiting_2 : decode b_M_waiting 2 = .ok (.getfield 96, 3) := by decide +kernel
theorem d_M_waiting_5 : decode b_M_waiting 5 = .ok (.invokestatic 99, 3) := by decide +kernel
theorem d_M_waiting_8 : decode b_M_waiting 8 = .ok (.ifCond .eq 5, 3) := by decide +kernel
theorem d_M_waiting_11 : decode b_M_waiting 11 = .ok (.iconst (-1), 1) := by decide +kernel
theorem d_M_waiting_12 : decode b_M_waiting 12 = .ok (.ireturn, 1) := by decide +kernel
theorem d_M_waiting_13 : decode b_M_waiting 13 = .ok (.iconst 0, 1) := by decide +kernel
theorem d_M_waiting_14 : decode b_M_waiting 14 = .ok (.istore_n 2, 1) := by decide +kernel
theorem d_M_waiting_15 : decode b_M_waiting 15 = .ok (.iconst 1, 1) := by decide +kernel
theorem d_M_waiting_16 : decode b_M_waiting 16 = .ok (.istore_n 3, 1) := by decide +kernel
theorem d_M_waiting_17 : decode b_M_waiting 17 = .ok (.iload_n 3, 1) := by decide +kernel
theorem d_M_waiting_18 : decode b_M_waiting 18 = .ok (.aload_n 0, 1) := by decide +kernel
theorem d_M_waiting_19 : decode b_M_waiting 19 = .ok (.getfield 133, 3) := by decide +kernel
theorem d_M_waiting_22 : decode b_M_waiting 22 = .ok (.if_icmp .gt 21, 3) := by decide +kernel
theorem d_M_waiting_25 : decode b_M_waiting 25 = .ok (.aload_n 0, 1) := by decide +kernel
theorem d_M_waiting_26 : decode b_M_waiting 26 = .ok (.iload_n 1, 1) := by decide +kernel
theorem d_M_waiting_27 : decode b_M_waiting 27 = .ok (.iload_n 3, 1) := by decide +kernel
theorem d_M_waiting_28 : decode b_M_waiting 28 = .ok (.invokevirtual 146, 3) := by decide +kernel
theorem d_M_waiting_31 : decode b_M_waiting 31 = .ok (.ifCond .eq 6, 3) := by decide +kernel
theorem d_M_waiting_34 : decode b_M_waiting 34 = .ok (.iinc 2 1, 3) := by decide +kernel
theorem d_M_waiting_37 : decode b_M_waiting 37 = .ok (.iinc 3 1, 3) := by decide +kernel
theorem d_M_waiting_40 : decode b_M_waiting 40 = .ok (.goto (-23), 3) := by decide +kernel
theorem d_M_waiting_43 : decode b_M_waiting 43 = .ok (.iload_n 2, 1) := by decide +kernel
theorem d_M_waiting_44 : decode b_M_waiting 44 = .ok (.ireturn, 1) := by decide +kernel
end
section
theorem d_M_rows_0 : decode b_M_rows 0 = .ok (.iload_n 1, 1) := by decide +kernel
theorem d_M_rows_1 : decode b_M_rows 1 = .ok (.aload_n 0, 1) := by decide +kernel
theorem d_M_rows_2 : decode b_M_rows 2 = .ok (.getfield 96, 3) := by decide +kernel
theorem d_M_rows_5 : decode b_M_rows 5 = .ok (.invokestatic 99, 3) := by decide +kernel
theorem d_M_rows_8 : decode b_M_rows 8 = .ok (.ifCond .eq 7, 3) := by decide +kernel
theorem d_M_rows_11 : decode b_M_rows 11 = .ok (.iconst (-1), 1) := by decide +kernel
theorem d_M_rows_12 : decode b_M_rows 12 = .ok (.goto 8, 3) := by decide +kernel
theorem d_M_rows_15 : decode b_M_rows 15 = .ok (.aload_n 0, 1) := by decide +kernel
theorem d_M_rows_16 : decode b_M_rows 16 = .ok (.iload_n 1, 1) := by decide +kernel
theorem d_M_rows_17 : decode b_M_rows 17 = .ok (.invokevirtual 149, 3) := by decide +kernel
theorem d_M_rows_20 : decode b_M_rows 20 = .ok (.ireturn, 1) := by decide +kernel
theorem d_M_stalledAt_0 : decode b_M_stalledAt 0 = .ok (.iconst 1, 1) := by decide +kernel
theorem d_M_stalledAt_1 : decode b_M_stalledAt 1 = .ok (.istore_n 1, 1) := by decide +kernel
theorem d_M_stalledAt_2 : decode b_M_stalledAt 2 = .ok (.iload_n 1, 1) := by decide +kernel
theorem d_M_stalledAt_3 : decode b_M_stalledAt 3 = .ok (.aload_n 0, 1) := by decide +kernel
theorem d_M_stalledAt_4 : decode b_M_stalledAt 4 = .ok (.getfield 133, 3) := by decide +kernel
theorem d_M_stalledAt_7 : decode b_M_stalledAt 7 = .ok (.if_icmp .gt 52, 3) := by decide +kernel
theorem d_M_stalledAt_10 : decode b_M_stalledAt 10 = .ok (.aload_n 0, 1) := by decide +kernel
theorem d_M_stalledAt_11 : decode b_M_stalledAt 11 = .ok (.getfield 54, 3) := by decide +kernel
theorem d_M_stalledAt_14 : decode b_M_stalledAt 14 = .ok (.iload_n 1, 1) := by decide +kernel
theorem d_M_stalledAt_15 : decode b_M_stalledAt 15 = .ok (.iaload, 1) := by decide +kernel
theorem d_M_stalledAt_16 : decode b_M_stalledAt 16 = .ok (.ifCond .lt 37, 3) := by decide +kernel
theorem d_M_stalledAt_19 : decode b_M_stalledAt 19 = .ok (.aload_n 0, 1) := by decide +kernel
theorem d_M_stalledAt_20 : decode b_M_stalledAt 20 = .ok (.getfield 32, 3) := by decide +kernel
theorem d_M_stalledAt_23 : decode b_M_stalledAt 23 = .ok (.aload_n 0, 1) := by decide +kernel
theorem d_M_stalledAt_24 : decode b_M_stalledAt 24 = .ok (.getfield 54, 3) := by decide +kernel
theorem d_M_stalledAt_27 : decode b_M_stalledAt 27 = .ok (.iload_n 1, 1) := by decide +kernel
theorem d_M_stalledAt_28 : decode b_M_stalledAt 28 = .ok (.iaload, 1) := by decide +kernel
theorem d_M_stalledAt_29 : decode b_M_stalledAt 29 = .ok (.baload, 1) := by decide +kernel
theorem d_M_stalledAt_30 : decode b_M_stalledAt 30 = .ok (.ifCond .eq 23, 3) := by decide +kernel
theorem d_M_stalledAt_33 : decode b_M_stalledAt 33 = .ok (.aload_n 0, 1) := by decide +kernel
theorem d_M_stalledAt_34 : decode b_M_stalledAt 34 = .ok (.getfield 60, 3) := by decide +kernel
theorem d_M_stalledAt_37 : decode b_M_stalledAt 37 = .ok (.iload_n 1, 1) := by decide +kernel
theorem d_M_stalledAt_38 : decode b_M_stalledAt 38 = .ok (.baload, 1) := by decide +kernel
theorem d_M_stalledAt_39 : decode b_M_stalledAt 39 = .ok (.ifCond .ne 14, 3) := by decide +kernel
theorem d_M_stalledAt_42 : decode b_M_stalledAt 42 = .ok (.aload_n 0, 1) := by decide +kernel
theorem d_M_stalledAt_43 : decode b_M_stalledAt 43 = .ok (.getfield 63, 3) := by decide +kernel
theorem d_M_stalledAt_46 : decode b_M_stalledAt 46 = .ok (.iload_n 1, 1) := by decide +kernel
theorem d_M_stalledAt_47 : decode b_M_stalledAt 47 = .ok (.iaload, 1) := by decide +kernel
theorem d_M_stalledAt_48 : decode b_M_stalledAt 48 = .ok (.ifCond .eq 5, 3) := by decide +kernel
theorem d_M_stalledAt_51 : decode b_M_stalledAt 51 = .ok (.iload_n 1, 1) := by decide +kernel
theorem d_M_stalledAt_52 : decode b_M_stalledAt 52 = .ok (.ireturn, 1) := by decide +kernel
theorem d_M_stalledAt_53 : decode b_M_stalledAt 53 = .ok (.iinc 1 1, 3) := by decide +kernel
theorem d_M_stalledAt_56 : decode b_M_stalledAt 56 = .ok (.goto (-54), 3) := by decide +kernel
theorem d_M_stalledAt_59 : decode b_M_stalledAt 59 = .ok (.iconst 0, 1) := by decide +kernel
theorem d_M_stalledAt_60 : decode b_M_stalledAt 60 = .ok (.ireturn, 1) := by decide +kernel
theorem d_M_count_0 : decode b_M_count 0 = .ok (.iload_n 1, 1) := by decide +kernel
theorem d_M_count_1 : decode b_M_count 1 = .ok (.tableswitch 69 0 5 #[39, 44, 49, 54, 59, 64], 39) := by decide +kernel
theorem d_M_count_40 : decode b_M_count 40 = .ok (.aload_n 0, 1) := by decide +kernel
theorem d_M_count_41 : decode b_M_count 41 = .ok (.getfield 133, 3) := by decide +kernel
theorem d_M_count_44 : decode b_M_count 44 = .ok (.ireturn, 1) := by decide +kernel
theorem d_M_count_45 : decode b_M_count 45 = .ok (.aload_n 0, 1) := by decide +kernel
theorem d_M_count_46 : decode b_M_count 46 = .ok (.getfield 117, 3) := by decide +kernel
theorem d_M_count_49 : decode b_M_count 49 = .ok (.ireturn, 1) := by decide +kernel
theorem d_M_count_50 : decode b_M_count 50 = .ok (.aload_n 0, 1) := by decide +kernel
theorem d_M_count_51 : decode b_M_count 51 = .ok (.invokevirtual 139, 3) := by decide +kernel
theorem d_M_count_54 : decode b_M_count 54 = .ok (.ireturn, 1) := by decide +kernel
theorem d_M_count_55 : decode b_M_count 55 = .ok (.aload_n 0, 1) := by decide +kernel
theorem d_M_count_56 : decode b_M_count 56 = .ok (.getfield 120, 3) := by decide +kernel
theorem d_M_count_59 : decode b_M_count 59 = .ok (.ireturn, 1) := by decide +kernel
theorem d_M_count_60 : decode b_M_count 60 = .ok (.aload_n 0, 1) := by decide +kernel
theorem d_M_count_61 : decode b_M_count 61 = .ok (.getfield 127, 3) := by decide +kernel
theorem d_M_count_64 : decode b_M_count 64 = .ok (.ireturn, 1) := by decide +kernel
theorem d_M_count_65 : decode b_M_count 65 = .ok (.aload_n 0, 1) := by decide +kernel
theorem d_M_count_66 : decode b_M_count 66 = .ok (.invokevirtual 157, 3) := by decide +kernel
theorem d_M_count_69 : decode b_M_count 69 = .ok (.ireturn, 1) := by decide +kernel
theorem d_M_count_70 : decode b_M_count 70 = .ok (.iconst (-1), 1) := by decide +kernel
theorem d_M_count_71 : decode b_M_count 71 = .ok (.ireturn, 1) := by decide +kernel
end
section
abbrev rm_Ac_init : Room := { frames := 1, cells := 0, slots := 0, locals := 40 }
section
variable {p : Program} {l : Launch} {e : Env} {s : State} {m : MethodId} {args : Array Value} {below : List Frame} {meth : Method} {c : Code} {D : va_G} {dA : Nat → ClassId} {B : Nat} {zE : Nat × Nat} {ad0 : Ro → Nat} {M0 : wM}
def wp_Ac_init (post : wM → Prop) (x0 : Option Ro) (M : wM) : Prop := nn x0 (post M)
set_option maxRecDepth 100000 in
set_option maxHeartbeats 4000000 in
theorem sd_Ac_init_0 (X : Cx p s m args meth c b_Ac_init 1 R_Ac TBL D dA B zE) (hr : meth.sig.returnType = none) (hin : meth.name = y_Ac_init.name) {post : wM → Prop} {x0 : Option Ro} {M : wM} (h : wp_Ac_init post x0 M) : AW p l e (headSpec w_Ac_init rm_Ac_init).room s m args below meth c (MQ below (QV D dA B zE M0 ad0 post) args s 0 0 (wA B)) D dA B zE 1 ad0 M0 M 0 0 0 [(0, vR x0)] [] := by
  unfold wp_Ac_init at h
  refine aw_aload_n X 0 rfl d_Ac_init_0 rfl ?_
  obtain ⟨⟨r1, e1⟩, h⟩ := h
  cases e1
  refine aw_objInit X LK_0 LK_1 LK_objcode (Nat.le_of_ble_eq_true rfl) (Nat.le_of_ble_eq_true rfl) d_Ac_init_1 ?_
  exact aw_vret X hr (Nat.le_of_ble_eq_true rfl) (Nat.le_of_ble_eq_true rfl) d_Ac_init_4 h
end
theorem t_Ac_init (l : Launch) {D : va_G} {dA : Nat → ClassId} {B : Nat} {zE : Nat × Nat} {M : wM} {ad : Ro → Nat} {post : wM → Prop} {x0 : Option Ro} (hlv : lvS M [vR x0]) (h : wp_Ac_init post x0 M) : Met l y_Ac_init w_Ac_init rm_Ac_init (PA D dA B zE M ad [vR x0]) (QV D dA B zE M ad post) 0 0 (wA B) :=
  AW_start [vR x0] [(0, vR x0)] hlv (by decide +kernel) rfl (fun _ hw => List.mem_cons_of_mem _ hw) rfl (Nat.le_of_ble_eq_true rfl) (fun p e s m args below meth c X hr hin => sd_Ac_init_0 X hr hin h)
abbrev rm_Ab_init : Room := { frames := 2, cells := 0, slots := 0, locals := 60 }
section
variable {p : Program} {l : Launch} {e : Env} {s : State} {m : MethodId} {args : Array Value} {below : List Frame} {meth : Method} {c : Code} {D : va_G} {dA : Nat → ClassId} {B : Nat} {zE : Nat × Nat} {ad0 : Ro → Nat} {M0 : wM}
def wp_Ab_init (post : wM → Prop) (x0 : Option Ro) (M : wM) : Prop := cV M x0 8 (wp_Ac_init (fun M1 => pF M1 x0 8 2 (vI 0) (fun M6 => post M6)) x0 M)
set_option maxRecDepth 100000 in
set_option maxHeartbeats 4000000 in
theorem sd_Ab_init_0 (X : Cx p s m args meth c b_Ab_init 1 R_Ab TBL D dA B zE) (hr : meth.sig.returnType = none) (hin : meth.name = y_Ab_init.name) {post : wM → Prop} {x0 : Option Ro} {M : wM} (h : wp_Ab_init post x0 M) : AW p l e (headSpec w_Ab_init rm_Ab_init).room s m args below meth c (MQ below (QV D dA B zE M0 ad0 post) args s 0 0 (wA B)) D dA B zE 1 ad0 M0 M 0 0 0 [(0, vR x0)] [] := by
  unfold wp_Ab_init at h
  refine aw_aload_n X 0 rfl d_Ab_init_0 rfl ?_
  obtain ⟨⟨r1, f1, e1, g1⟩, h⟩ := h
  cases e1
  refine aw_cIv X [] (fun ad hlv => t_Ac_init l hlv h) (cwI 0 X.hts (gd_in LK_code_Ac_init) rfl rfl rfl (X.hts _ LK_4) (X.hts _ LK_5) (X.hts _ LK_6) rfl (by decide +kernel) ⟨(Nat.le_of_ble_eq_true rfl), (Nat.le_of_ble_eq_true rfl)⟩) rfl rfl (Nat.le_of_ble_eq_true rfl) d_Ab_init_1 ⟨(Nat.le_of_ble_eq_true rfl), (Nat.le_of_ble_eq_true rfl)⟩ (fun M1 h => ?_)
  refine aw_aload_n X 0 rfl d_Ab_init_4 rfl ?_
  refine aw_iconst X (0) (by decide) d_Ab_init_5 ?_
  refine aw_pF (ty := .int) X hc_8 in_8 2 (by decide) ty_8 tyok_8 nm_8 LK_7 (fun _ _ _ _ h => h) rfl (by decide +kernel) (fun _ => ⟨rfl, rfl⟩) d_Ab_init_6 (h.mono (fun M6 h => ?_))
  exact aw_vret X hr (Nat.le_of_ble_eq_true rfl) (Nat.le_of_ble_eq_true rfl) d_Ab_init_9 h
end
theorem t_Ab_init (l : Launch) {D : va_G} {dA : Nat → ClassId} {B : Nat} {zE : Nat × Nat} {M : wM} {ad : Ro → Nat} {post : wM → Prop} {x0 : Option Ro} (hlv : lvS M [vR x0]) (h : wp_Ab_init post x0 M) : Met l y_Ab_init w_Ab_init rm_Ab_init (PA D dA B zE M ad [vR x0]) (QV D dA B zE M ad post) 0 0 (wA B) :=
  AW_start [vR x0] [(0, vR x0)] hlv (by decide +kernel) rfl (fun _ hw => List.mem_cons_of_mem _ hw) rfl (Nat.le_of_ble_eq_true rfl) (fun p e s m args below meth c X hr hin => sd_Ab_init_0 X hr hin h)
abbrev rm_A_init : Room := { frames := 3, cells := 0, slots := 0, locals := 80 }
section
variable {p : Program} {l : Launch} {e : Env} {s : State} {m : MethodId} {args : Array Value} {below : List Frame} {meth : Method} {c : Code} {D : va_G} {dA : Nat → ClassId} {B : Nat} {zE : Nat × Nat} {ad0 : Ro → Nat} {M0 : wM}
def wp_A_init (post : wM → Prop) (x0 : Option Ro) (M : wM) : Prop := cV M x0 8 (wp_Ab_init (fun M1 => pF M1 x0 8 0 (vR (some (90, 0))) (fun M8 => post M8)) x0 M)
set_option maxRecDepth 100000 in
set_option maxHeartbeats 4000000 in
theorem sd_A_init_0 (X : Cx p s m args meth c b_A_init 1 R_A TBL D dA B zE) (hr : meth.sig.returnType = none) (hin : meth.name = y_A_init.name) {post : wM → Prop} {x0 : Option Ro} {M : wM} (h : wp_A_init post x0 M) : AW p l e (headSpec w_A_init rm_A_init).room s m args below meth c (MQ below (QV D dA B zE M0 ad0 post) args s 0 0 (wA B)) D dA B zE 1 ad0 M0 M 0 0 0 [(0, vR x0)] [] := by
  unfold wp_A_init at h
  refine aw_aload_n X 0 rfl d_A_init_0 rfl ?_
  obtain ⟨⟨r1, f1, e1, g1⟩, h⟩ := h
  cases e1
  refine aw_cIv X [] (fun ad hlv => t_Ab_init l hlv h) (cwI 0 X.hts (gd_in LK_code_Ab_init) rfl rfl rfl (X.hts _ LK_9) (X.hts _ LK_10) (X.hts _ LK_11) rfl (by decide +kernel) ⟨(Nat.le_of_ble_eq_true rfl), (Nat.le_of_ble_eq_true rfl)⟩) rfl rfl (Nat.le_of_ble_eq_true rfl) d_A_init_1 ⟨(Nat.le_of_ble_eq_true rfl), (Nat.le_of_ble_eq_true rfl)⟩ (fun M1 h => ?_)
  refine aw_aload_n X 0 rfl d_A_init_4 rfl ?_
  refine aw_gets X LK_12 rfl d_A_init_5 ?_
  refine aw_pF (ty := (.array (.object "java/lang/Object"))) X hc_8 in_8 0 (by decide) ty_8 tyok_8 nm_8 LK_13 (fun _ _ _ _ h => h) rfl (by decide +kernel) nfA d_A_init_8 (h.mono (fun M8 h => ?_))
  exact aw_vret X hr (Nat.le_of_ble_eq_true rfl) (Nat.le_of_ble_eq_true rfl) d_A_init_11 h
end
theorem t_A_init (l : Launch) {D : va_G} {dA : Nat → ClassId} {B : Nat} {zE : Nat × Nat} {M : wM} {ad : Ro → Nat} {post : wM → Prop} {x0 : Option Ro} (hlv : lvS M [vR x0]) (h : wp_A_init post x0 M) : Met l y_A_init w_A_init rm_A_init (PA D dA B zE M ad [vR x0]) (QV D dA B zE M ad post) 0 0 (wA B) :=
  AW_start [vR x0] [(0, vR x0)] hlv (by decide +kernel) rfl (fun _ hw => List.mem_cons_of_mem _ hw) rfl (Nat.le_of_ble_eq_true rfl) (fun p e s m args below meth c X hr hin => sd_A_init_0 X hr hin h)
abbrev rm_Ar_fill0 : Room := { frames := 0, cells := 0, slots := 0, locals := 0 }
section
variable {p : Program} {l : Launch} {e : Env} {s : State} {m : MethodId} {args : Array Value} {below : List Frame} {meth : Method} {c : Code} {D : va_G} {dA : Nat → ClassId} {B : Nat} {zE : Nat × Nat} {ad0 : Ro → Nat} {M0 : wM}
def wp_Ar_fill0_6 (post : wM → Prop) : Nat → Option Ro → Int64 → Int32 → Int32 → wM → Prop
  | 0, _, _, _, _, _ => False
  | n + 1, x0, x1, x3, x4, M => (x4 ≤ x3 → post M) ∧ (¬ x4 ≤ x3 → sL M x0 x3 x1 (fun M15 => wp_Ar_fill0_6 post n x0 x1 (x3 + 1) x4 M15))
set_option maxRecDepth 100000 in
set_option maxHeartbeats 4000000 in
theorem sd_Ar_fill0_6 (X : Cx p s m args meth c b_Ar_fill0 5 R_Ar TBL D dA B zE) (hr : meth.sig.returnType = none) (hin : meth.name = y_Ar_fill0.name) {post : wM → Prop} : ∀ (n : Nat) (x0 : Option Ro) (x1 : Int64) (x3 : Int32) (x4 : Int32) (M : wM), wp_Ar_fill0_6 post n x0 x1 x3 x4 M → AW p l e (headSpec w_Ar_fill0 rm_Ar_fill0).room s m args below meth c (MQ below (QV D dA B zE M0 ad0 post) args s 0 0 (wA B)) D dA B zE 5 ad0 M0 M 0 0 6 [(0, vR x0), (1, vL x1), (3, vI x3), (4, vI x4)] [] := by
  intro n
  induction n with
  | zero => intro x0 x1 x3 x4 M h; exact h.elim
  | succ n ih =>
    intro x0 x1 x3 x4 M h
    unfold wp_Ar_fill0_6 at h
    refine aw_iload_n X 2 rfl d_Ar_fill0_6 rfl ?_
    refine aw_iload X 3 rfl d_Ar_fill0_7 ?_
    refine aw_icmp_ge (tgt := 22) X d_Ar_fill0_9 (by decide) (fun c => ?_) (fun c => ?_)
    · have h := h.1 c
      exact aw_vret X hr (Nat.le_of_ble_eq_true rfl) (Nat.le_of_ble_eq_true rfl) d_Ar_fill0_22 h
    · have h := h.2 c
      refine aw_aload_n X 0 rfl d_Ar_fill0_12 rfl ?_
      refine aw_iload_n X 2 rfl d_Ar_fill0_13 rfl ?_
      refine aw_lload_n X 1 rfl d_Ar_fill0_14 rfl ?_
      refine aw_sL X d_Ar_fill0_15 (h.mono (fun M15 h => ?_))
      refine aw_iinc (y := x3 + 1) (lvn := [(3, _), (0, _), (1, _), (4, _)]) X 2 rfl d_Ar_fill0_16 rfl (by decide) rfl ?_
      refine aw_goto (tgt := 6) X d_Ar_fill0_19 (by decide) ?_
      refine aw_lv [1, 2, 0, 3] rfl ?_
      exact ih _ _ _ _ _ h
def wp_Ar_fill0 (post : wM → Prop) (x0 : Option Ro) (x1 : Int64) (M : wM) : Prop := aN M x0 (fun a3 => (∃ n, wp_Ar_fill0_6 post n x0 x1 0 a3 M))
set_option maxRecDepth 100000 in
set_option maxHeartbeats 4000000 in
theorem sd_Ar_fill0_0 (X : Cx p s m args meth c b_Ar_fill0 5 R_Ar TBL D dA B zE) (hr : meth.sig.returnType = none) (hin : meth.name = y_Ar_fill0.name) {post : wM → Prop} {x0 : Option Ro} {x1 : Int64} {M : wM} (h : wp_Ar_fill0 post x0 x1 M) : AW p l e (headSpec w_Ar_fill0 rm_Ar_fill0).room s m args below meth c (MQ below (QV D dA B zE M0 ad0 post) args s 0 0 (wA B)) D dA B zE 5 ad0 M0 M 0 0 0 [(0, vR x0), (1, vL x1)] [] := by
  unfold wp_Ar_fill0 at h
  refine aw_iconst X (0) (by decide) d_Ar_fill0_0 ?_
  refine aw_istore_n (lvn := [(3, _), (0, _), (1, _)]) X d_Ar_fill0_1 rfl (by decide) rfl ?_
  refine aw_aload_n X 1 rfl d_Ar_fill0_2 rfl ?_
  refine aw_aN X d_Ar_fill0_3 (h.mono (fun a3 h => ?_))
  refine aw_istore (lvn := [(4, _), (3, _), (0, _), (1, _)]) X d_Ar_fill0_4 (by decide) rfl ?_
  refine aw_lv [2, 3, 1, 0] rfl ?_
  obtain ⟨n, h⟩ := h
  exact sd_Ar_fill0_6 X hr hin n _ _ _ _ _ h
end
theorem t_Ar_fill0 (l : Launch) {D : va_G} {dA : Nat → ClassId} {B : Nat} {zE : Nat × Nat} {M : wM} {ad : Ro → Nat} {post : wM → Prop} {x0 : Option Ro} {x1 : Int64} (hlv : lvS M [vR x0, vL x1]) (h : wp_Ar_fill0 post x0 x1 M) : Met l y_Ar_fill0 w_Ar_fill0 rm_Ar_fill0 (PA D dA B zE M ad [vR x0, vL x1]) (QV D dA B zE M ad post) 0 0 (wA B) :=
  AW_start [vR x0, vL x1] [(0, vR x0), (1, vL x1)] hlv (by decide +kernel) rfl (fun _ hw => List.mem_cons_of_mem _ hw) rfl (Nat.le_of_ble_eq_true rfl) (fun p e s m args below meth c X hr hin => sd_Ar_fill0_0 X hr hin h)
abbrev rm_B_init : Room := { frames := 1, cells := 2, slots := 40, locals := 40 }
section
variable {p : Program} {l : Launch} {e : Env} {s : State} {m : MethodId} {args : Array Value} {below : List Frame} {meth : Method} {c : Code} {D : va_G} {dA : Nat → ClassId} {B : Nat} {zE : Nat × Nat} {ad0 : Ro → Nat} {M0 : wM}
def wp_B_init (post : wM → Prop) (x0 : Option Ro) (M : wM) : Prop := nn x0 (nA M 32 32 (fun n => al 1 n (fun _ => 0)) (fun a7 M7 => pF M7 x0 6 0 (vR a7) (fun M9 => nA M9 8 8 (fun n => ai 0 n (fun _ => 0)) (fun a15 M15 => pF M15 x0 6 1 (vR a15) (fun M17 => gR M17 x0 6 0 (fun a21 => wp_Ar_fill0 (fun M27 => post M27) a21 (1000000000000) M17))))))
set_option maxRecDepth 100000 in
set_option maxHeartbeats 4000000 in
theorem sd_B_init_0 (X : Cx p s m args meth c b_B_init 1 R_B TBL D dA B zE) (hr : meth.sig.returnType = none) (hin : meth.name = y_B_init.name) {post : wM → Prop} {x0 : Option Ro} {M : wM} (h : wp_B_init post x0 M) : AW p l e (headSpec w_B_init rm_B_init).room s m args below meth c (MQ below (QV D dA B zE M0 ad0 post) args s 2 40 (wA B)) D dA B zE 1 ad0 M0 M 0 0 0 [(0, vR x0)] [] := by
  unfold wp_B_init at h
  refine aw_aload_n X 0 rfl d_B_init_0 rfl ?_
  obtain ⟨⟨r1, e1⟩, h⟩ := h
  cases e1
  refine aw_objInit X LK_14 LK_1 LK_objcode (Nat.le_of_ble_eq_true rfl) (Nat.le_of_ble_eq_true rfl) d_B_init_1 ?_
  refine aw_aload_n X 0 rfl d_B_init_4 rfl ?_
  refine aw_bipush X (32) (by decide) d_B_init_5 ?_
  refine aw_nAL (atype := .long) X rfl LK_15 32 (by decide) (Nat.le_of_ble_eq_true rfl) (Nat.le_of_ble_eq_true rfl) d_B_init_7 (h.mono (fun a7 M7 h => ?_))
  refine aw_pFF (ty := (.array .long)) X hc_6 in_6 0 (by decide) ty_6 tyok_6 nm_6 LK_16 (fun _ _ _ _ h => h) rfl hin rfl (by decide +kernel) nfA d_B_init_9 (h.mono (fun M9 h => ?_))
  refine aw_aload_n X 0 rfl d_B_init_12 rfl ?_
  refine aw_bipush X (8) (by decide) d_B_init_13 ?_
  refine aw_nAI (atype := .int) X rfl LK_17 8 (by decide) (Nat.le_of_ble_eq_true rfl) (Nat.le_of_ble_eq_true rfl) d_B_init_15 (h.mono (fun a15 M15 h => ?_))
  refine aw_pFF (ty := (.array .int)) X hc_6 in_6 1 (by decide) ty_6 tyok_6 nm_6 LK_18 (fun _ _ _ _ h => h) rfl hin rfl (by decide +kernel) nfA d_B_init_17 (h.mono (fun M17 h => ?_))
  refine aw_aload_n X 0 rfl d_B_init_20 rfl ?_
  refine aw_gR X hc_6 in_6 0 (by decide) LK_16 (fun _ _ _ _ h => h) d_B_init_21 (h.mono (fun a21 h => ?_))
  refine aw_ldc2 X LK_19 d_B_init_24 ?_
  refine aw_cSv X [_, _] (fun ad hlv => t_Ar_fill0 l hlv h) (va_cwS 2 X.hts (gd_S2 LK_20 LK_21 LK_22 LK_code_Ar_fill0) rfl rfl rfl (by decide +kernel) ⟨(Nat.le_of_ble_eq_true rfl), (Nat.le_of_ble_eq_true rfl)⟩) rfl rfl (Nat.le_of_ble_eq_true rfl) d_B_init_27 ⟨(Nat.le_of_ble_eq_true rfl), (Nat.le_of_ble_eq_true rfl)⟩ (fun M27 h => ?_)
  exact aw_vret X hr (Nat.le_of_ble_eq_true rfl) (Nat.le_of_ble_eq_true rfl) d_B_init_30 h
end
theorem t_B_init (l : Launch) {D : va_G} {dA : Nat → ClassId} {B : Nat} {zE : Nat × Nat} {M : wM} {ad : Ro → Nat} {post : wM → Prop} {x0 : Option Ro} (hlv : lvS M [vR x0]) (h : wp_B_init post x0 M) : Met l y_B_init w_B_init rm_B_init (PA D dA B zE M ad [vR x0]) (QV D dA B zE M ad post) 2 40 (wA B) :=
  AW_start [vR x0] [(0, vR x0)] hlv (by decide +kernel) rfl (fun _ hw => List.mem_cons_of_mem _ hw) rfl (Nat.le_of_ble_eq_true rfl) (fun p e s m args below meth c X hr hin => sd_B_init_0 X hr hin h)
abbrev rm_Ma_min : Room := { frames := 0, cells := 0, slots := 0, locals := 0 }
section
variable {p : Program} {l : Launch} {e : Env} {s : State} {m : MethodId} {args : Array Value} {below : List Frame} {meth : Method} {c : Code} {D : va_G} {dA : Nat → ClassId} {B : Nat} {zE : Nat × Nat} {ad0 : Ro → Nat} {M0 : wM}
def wp_Ma_min_10 (post : Int32 → wM → Prop) (x0 : Int32) (x1 : Int32) (s0 : Int32) (M : wM) : Prop := post s0 M
set_option maxRecDepth 100000 in
set_option maxHeartbeats 4000000 in
theorem sd_Ma_min_10 (X : Cx p s m args meth c b_Ma_min 2 R_Ma TBL D dA B zE) (hr : meth.sig.returnType = (some .int)) (hin : meth.name = y_Ma_min.name) {post : Int32 → wM → Prop} {x0 : Int32} {x1 : Int32} {s0 : Int32} {M : wM} (h : wp_Ma_min_10 post x0 x1 s0 M) : AW p l e (headSpec w_Ma_min rm_Ma_min).room s m args below meth c (MQ below (QI D dA B zE M0 ad0 post) args s 0 0 (wA B)) D dA B zE 2 ad0 M0 M 0 0 10 [(0, vI x0), (1, vI x1)] [vI s0] := by
  unfold wp_Ma_min_10 at h
  exact aw_iret X hr (Nat.le_of_ble_eq_true rfl) (Nat.le_of_ble_eq_true rfl) d_Ma_min_10 h
def wp_Ma_min (post : Int32 → wM → Prop) (x0 : Int32) (x1 : Int32) (M : wM) : Prop := (x1 < x0 → wp_Ma_min_10 post x0 x1 x1 M) ∧ (¬ x1 < x0 → wp_Ma_min_10 post x0 x1 x0 M)
set_option maxRecDepth 100000 in
set_option maxHeartbeats 4000000 in
theorem sd_Ma_min_0 (X : Cx p s m args meth c b_Ma_min 2 R_Ma TBL D dA B zE) (hr : meth.sig.returnType = (some .int)) (hin : meth.name = y_Ma_min.name) {post : Int32 → wM → Prop} {x0 : Int32} {x1 : Int32} {M : wM} (h : wp_Ma_min post x0 x1 M) : AW p l e (headSpec w_Ma_min rm_Ma_min).room s m args below meth c (MQ below (QI D dA B zE M0 ad0 post) args s 0 0 (wA B)) D dA B zE 2 ad0 M0 M 0 0 0 [(0, vI x0), (1, vI x1)] [] := by
  unfold wp_Ma_min at h
  refine aw_iload_n X 0 rfl d_Ma_min_0 rfl ?_
  refine aw_iload_n X 1 rfl d_Ma_min_1 rfl ?_
  refine aw_icmp_gt (tgt := 9) X d_Ma_min_2 (by decide) (fun c => ?_) (fun c => ?_)
  · have h := h.1 c
    refine aw_iload_n X 1 rfl d_Ma_min_9 rfl ?_
    exact sd_Ma_min_10 X hr hin h
  · have h := h.2 c
    refine aw_iload_n X 0 rfl d_Ma_min_5 rfl ?_
    refine aw_goto (tgt := 10) X d_Ma_min_6 (by decide) ?_
    exact sd_Ma_min_10 X hr hin h
end
theorem t_Ma_min (l : Launch) {D : va_G} {dA : Nat → ClassId} {B : Nat} {zE : Nat × Nat} {M : wM} {ad : Ro → Nat} {post : Int32 → wM → Prop} {x0 : Int32} {x1 : Int32} (hlv : lvS M [vI x0, vI x1]) (h : wp_Ma_min post x0 x1 M) : Met l y_Ma_min w_Ma_min rm_Ma_min (PA D dA B zE M ad [vI x0, vI x1]) (QI D dA B zE M ad post) 0 0 (wA B) :=
  AW_startF [vI x0, vI x1] [(0, vI x0), (1, vI x1)] hlv (by decide +kernel) rfl (fun _ hw => List.mem_cons_of_mem _ hw) rfl (Nat.le_of_ble_eq_true rfl) (fun p e s m args below meth c X hr hin => sd_Ma_min_0 X hr hin h)
abbrev rm_Ma_max : Room := { frames := 0, cells := 0, slots := 0, locals := 0 }
section
variable {p : Program} {l : Launch} {e : Env} {s : State} {m : MethodId} {args : Array Value} {below : List Frame} {meth : Method} {c : Code} {D : va_G} {dA : Nat → ClassId} {B : Nat} {zE : Nat × Nat} {ad0 : Ro → Nat} {M0 : wM}
def wp_Ma_max_10 (post : Int32 → wM → Prop) (x0 : Int32) (x1 : Int32) (s0 : Int32) (M : wM) : Prop := post s0 M
set_option maxRecDepth 100000 in
set_option maxHeartbeats 4000000 in
theorem sd_Ma_max_10 (X : Cx p s m args meth c b_Ma_max 2 R_Ma TBL D dA B zE) (hr : meth.sig.returnType = (some .int)) (hin : meth.name = y_Ma_max.name) {post : Int32 → wM → Prop} {x0 : Int32} {x1 : Int32} {s0 : Int32} {M : wM} (h : wp_Ma_max_10 post x0 x1 s0 M) : AW p l e (headSpec w_Ma_max rm_Ma_max).room s m args below meth c (MQ below (QI D dA B zE M0 ad0 post) args s 0 0 (wA B)) D dA B zE 2 ad0 M0 M 0 0 10 [(0, vI x0), (1, vI x1)] [vI s0] := by
  unfold wp_Ma_max_10 at h
  exact aw_iret X hr (Nat.le_of_ble_eq_true rfl) (Nat.le_of_ble_eq_true rfl) d_Ma_max_10 h
def wp_Ma_max (post : Int32 → wM → Prop) (x0 : Int32) (x1 : Int32) (M : wM) : Prop := (x0 < x1 → wp_Ma_max_10 post x0 x1 x1 M) ∧ (¬ x0 < x1 → wp_Ma_max_10 post x0 x1 x0 M)
set_option maxRecDepth 100000 in
set_option maxHeartbeats 4000000 in
theorem sd_Ma_max_0 (X : Cx p s m args meth c b_Ma_max 2 R_Ma TBL D dA B zE) (hr : meth.sig.returnType = (some .int)) (hin : meth.name = y_Ma_max.name) {post : Int32 → wM → Prop} {x0 : Int32} {x1 : Int32} {M : wM} (h : wp_Ma_max post x0 x1 M) : AW p l e (headSpec w_Ma_max rm_Ma_max).room s m args below meth c (MQ below (QI D dA B zE M0 ad0 post) args s 0 0 (wA B)) D dA B zE 2 ad0 M0 M 0 0 0 [(0, vI x0), (1, vI x1)] [] := by
  unfold wp_Ma_max at h
  refine aw_iload_n X 0 rfl d_Ma_max_0 rfl ?_
  refine aw_iload_n X 1 rfl d_Ma_max_1 rfl ?_
  refine aw_icmp_lt (tgt := 9) X d_Ma_max_2 (by decide) (fun c => ?_) (fun c => ?_)
  · have h := h.1 c
    refine aw_iload_n X 1 rfl d_Ma_max_9 rfl ?_
    exact sd_Ma_max_10 X hr hin h
  · have h := h.2 c
    refine aw_iload_n X 0 rfl d_Ma_max_5 rfl ?_
    refine aw_goto (tgt := 10) X d_Ma_max_6 (by decide) ?_
    exact sd_Ma_max_10 X hr hin h
end
theorem t_Ma_max (l : Launch) {D : va_G} {dA : Nat → ClassId} {B : Nat} {zE : Nat × Nat} {M : wM} {ad : Ro → Nat} {post : Int32 → wM → Prop} {x0 : Int32} {x1 : Int32} (hlv : lvS M [vI x0, vI x1]) (h : wp_Ma_max post x0 x1 M) : Met l y_Ma_max w_Ma_max rm_Ma_max (PA D dA B zE M ad [vI x0, vI x1]) (QI D dA B zE M ad post) 0 0 (wA B) :=
  AW_startF [vI x0, vI x1] [(0, vI x0), (1, vI x1)] hlv (by decide +kernel) rfl (fun _ hw => List.mem_cons_of_mem _ hw) rfl (Nat.le_of_ble_eq_true rfl) (fun p e s m args below meth c X hr hin => sd_Ma_max_0 X hr hin h)
abbrev rm_R_init : Room := { frames := 2, cells := 8, slots := 94, locals := 60 }
section
variable {p : Program} {l : Launch} {e : Env} {s : State} {m : MethodId} {args : Array Value} {below : List Frame} {meth : Method} {c : Code} {D : va_G} {dA : Nat → ClassId} {B : Nat} {zE : Nat × Nat} {ad0 : Ro → Nat} {M0 : wM}
def wp_R_init (post : wM → Prop) (x0 : Option Ro) (x1 : Int32) (M : wM) : Prop := nn x0 (nO M 6 fd_6 (fun a5 M5 => cV M5 a5 6 (wp_B_init (fun M9 => pF M9 x0 3 0 (vR a5) (fun M12 => nO M12 6 fd_6 (fun a16 M16 => cV M16 a16 6 (wp_B_init (fun M20 => pF M20 x0 3 2 (vR a16) (fun M23 => nA M23 6 6 (fun n => ai 0 n (fun _ => 0)) (fun a29 M29 => pF M29 x0 3 3 (vR a29) (fun M31 => pF M31 x0 3 4 (vI (-1)) (fun M36 => nA M36 4 4 (fun n => ai 0 n (fun _ => 0)) (fun a41 M41 => pF M41 x0 3 5 (vR a41) (fun M43 => pF M43 x0 3 6 (vI 0) (fun M48 => pF M48 x0 3 7 (vI 0) (fun M53 => pF M53 x0 3 1 (vI x1) (fun M58 => post M58)))))))))) a16 M16)))) a5 M5)))
set_option maxRecDepth 100000 in
set_option maxHeartbeats 4000000 in
theorem sd_R_init_0 (X : Cx p s m args meth c b_R_init 2 R_R TBL D dA B zE) (hr : meth.sig.returnType = none) (hin : meth.name = y_R_init.name) {post : wM → Prop} {x0 : Option Ro} {x1 : Int32} {M : wM} (h : wp_R_init post x0 x1 M) : AW p l e (headSpec w_R_init rm_R_init).room s m args below meth c (MQ below (QV D dA B zE M0 ad0 post) args s 8 94 (wA B)) D dA B zE 2 ad0 M0 M 0 0 0 [(0, vR x0), (1, vI x1)] [] := by
  unfold wp_R_init at h
  refine aw_aload_n X 0 rfl d_R_init_0 rfl ?_
  obtain ⟨⟨r1, e1⟩, h⟩ := h
  cases e1
  refine aw_objInit X LK_24 LK_1 LK_objcode (Nat.le_of_ble_eq_true rfl) (Nat.le_of_ble_eq_true rfl) d_R_init_1 ?_
  refine aw_aload_n X 0 rfl d_R_init_4 rfl ?_
  refine aw_nO X hc_6 in_6 ty_6 tyok_6 LK_25 LK_26 LK_27 fs_6 fl_6 (Nat.le_of_ble_eq_true rfl) (Nat.le_of_ble_eq_true rfl) d_R_init_5 (h.mono (fun a5 M5 h => ?_))
  refine aw_dup X rfl d_R_init_8 ?_
  obtain ⟨⟨r9, f9, e9, g9⟩, h⟩ := h
  cases e9
  refine aw_cIv X [] (fun ad hlv => t_B_init l hlv h) (cwI 0 X.hts (gd_in LK_code_B_init) rfl rfl rfl (X.hts _ LK_27) (X.hts _ LK_29) (X.hts _ LK_30) rfl (by decide +kernel) ⟨(Nat.le_of_ble_eq_true rfl), (Nat.le_of_ble_eq_true rfl)⟩) rfl rfl (Nat.le_of_ble_eq_true rfl) d_R_init_9 ⟨(Nat.le_of_ble_eq_true rfl), (Nat.le_of_ble_eq_true rfl)⟩ (fun M9 h => ?_)
  refine aw_pFF (ty := (.object "PartitionedProcedureStore$Table")) X hc_3 in_3 0 (by decide) ty_3 tyok_3 nm_3 LK_31 (fun _ _ _ _ h => h) rfl hin rfl (by decide +kernel) nfO d_R_init_12 (h.mono (fun M12 h => ?_))
  refine aw_aload_n X 0 rfl d_R_init_15 rfl ?_
  refine aw_nO X hc_6 in_6 ty_6 tyok_6 LK_25 LK_26 LK_27 fs_6 fl_6 (Nat.le_of_ble_eq_true rfl) (Nat.le_of_ble_eq_true rfl) d_R_init_16 (h.mono (fun a16 M16 h => ?_))
  refine aw_dup X rfl d_R_init_19 ?_
  obtain ⟨⟨r20, f20, e20, g20⟩, h⟩ := h
  cases e20
  refine aw_cIv X [] (fun ad hlv => t_B_init l hlv h) (cwI 0 X.hts (gd_in LK_code_B_init) rfl rfl rfl (X.hts _ LK_27) (X.hts _ LK_29) (X.hts _ LK_30) rfl (by decide +kernel) ⟨(Nat.le_of_ble_eq_true rfl), (Nat.le_of_ble_eq_true rfl)⟩) rfl rfl (Nat.le_of_ble_eq_true rfl) d_R_init_20 ⟨(Nat.le_of_ble_eq_true rfl), (Nat.le_of_ble_eq_true rfl)⟩ (fun M20 h => ?_)
  refine aw_pFF (ty := (.object "PartitionedProcedureStore$Table")) X hc_3 in_3 2 (by decide) ty_3 tyok_3 nm_3 LK_32 (fun _ _ _ _ h => h) rfl hin rfl (by decide +kernel) nfO d_R_init_23 (h.mono (fun M23 h => ?_))
  refine aw_aload_n X 0 rfl d_R_init_26 rfl ?_
  refine aw_bipush X (6) (by decide) d_R_init_27 ?_
  refine aw_nAI (atype := .int) X rfl LK_17 6 (by decide) (Nat.le_of_ble_eq_true rfl) (Nat.le_of_ble_eq_true rfl) d_R_init_29 (h.mono (fun a29 M29 h => ?_))
  refine aw_pFF (ty := (.array .int)) X hc_3 in_3 3 (by decide) ty_3 tyok_3 nm_3 LK_33 (fun _ _ _ _ h => h) rfl hin rfl (by decide +kernel) nfA d_R_init_31 (h.mono (fun M31 h => ?_))
  refine aw_aload_n X 0 rfl d_R_init_34 rfl ?_
  refine aw_iconst X (-1) (by decide) d_R_init_35 ?_
  refine aw_pF (ty := .int) X hc_3 in_3 4 (by decide) ty_3 tyok_3 nm_3 LK_34 (fun _ _ _ _ h => h) rfl (by decide +kernel) (fun _ => ⟨rfl, rfl⟩) d_R_init_36 (h.mono (fun M36 h => ?_))
  refine aw_aload_n X 0 rfl d_R_init_39 rfl ?_
  refine aw_iconst X (4) (by decide) d_R_init_40 ?_
  refine aw_nAI (atype := .int) X rfl LK_17 4 (by decide) (Nat.le_of_ble_eq_true rfl) (Nat.le_of_ble_eq_true rfl) d_R_init_41 (h.mono (fun a41 M41 h => ?_))
  refine aw_pFF (ty := (.array .int)) X hc_3 in_3 5 (by decide) ty_3 tyok_3 nm_3 LK_35 (fun _ _ _ _ h => h) rfl hin rfl (by decide +kernel) nfA d_R_init_43 (h.mono (fun M43 h => ?_))
  refine aw_aload_n X 0 rfl d_R_init_46 rfl ?_
  refine aw_iconst X (0) (by decide) d_R_init_47 ?_
  refine aw_pF (ty := .int) X hc_3 in_3 6 (by decide) ty_3 tyok_3 nm_3 LK_36 (fun _ _ _ _ h => h) rfl (by decide +kernel) (fun _ => ⟨rfl, rfl⟩) d_R_init_48 (h.mono (fun M48 h => ?_))
  refine aw_aload_n X 0 rfl d_R_init_51 rfl ?_
  refine aw_iconst X (0) (by decide) d_R_init_52 ?_
  refine aw_pF (ty := .int) X hc_3 in_3 7 (by decide) ty_3 tyok_3 nm_3 LK_37 (fun _ _ _ _ h => h) rfl (by decide +kernel) (fun _ => ⟨rfl, rfl⟩) d_R_init_53 (h.mono (fun M53 h => ?_))
  refine aw_aload_n X 0 rfl d_R_init_56 rfl ?_
  refine aw_iload_n X 1 rfl d_R_init_57 rfl ?_
  refine aw_pFF (ty := .int) X hc_3 in_3 1 (by decide) ty_3 tyok_3 nm_3 LK_38 (fun _ _ _ _ h => h) rfl hin rfl (by decide +kernel) (fun _ => ⟨rfl, rfl⟩) d_R_init_58 (h.mono (fun M58 h => ?_))
  exact aw_vret X hr (Nat.le_of_ble_eq_true rfl) (Nat.le_of_ble_eq_true rfl) d_R_init_61 h
end
theorem t_R_init (l : Launch) {D : va_G} {dA : Nat → ClassId} {B : Nat} {zE : Nat × Nat} {M : wM} {ad : Ro → Nat} {post : wM → Prop} {x0 : Option Ro} {x1 : Int32} (hlv : lvS M [vR x0, vI x1]) (h : wp_R_init post x0 x1 M) : Met l y_R_init w_R_init rm_R_init (PA D dA B zE M ad [vR x0, vI x1]) (QV D dA B zE M ad post) 8 94 (wA B) :=
  AW_start [vR x0, vI x1] [(0, vR x0), (1, vI x1)] hlv (by decide +kernel) rfl (fun _ hw => List.mem_cons_of_mem _ hw) rfl (Nat.le_of_ble_eq_true rfl) (fun p e s m args below meth c X hr hin => sd_R_init_0 X hr hin h)
abbrev rm_P_init : Room := { frames := 4, cells := 1, slots := 3, locals := 100 }
section
variable {p : Program} {l : Launch} {e : Env} {s : State} {m : MethodId} {args : Array Value} {below : List Frame} {meth : Method} {c : Code} {D : va_G} {dA : Nat → ClassId} {B : Nat} {zE : Nat × Nat} {ad0 : Ro → Nat} {M0 : wM}
def wp_P_init (post : wM → Prop) (x0 : Option Ro) (M : wM) : Prop := nn x0 (nO M 8 fd_8 (fun a5 M5 => cV M5 a5 8 (wp_A_init (fun M9 => pF M9 x0 2 0 (vR a5) (fun M12 => pF M12 x0 2 1 (vI 0) (fun M17 => pF M17 x0 2 2 (vI 0) (fun M22 => post M22)))) a5 M5)))
set_option maxRecDepth 100000 in
set_option maxHeartbeats 4000000 in
theorem sd_P_init_0 (X : Cx p s m args meth c b_P_init 1 R_P TBL D dA B zE) (hr : meth.sig.returnType = none) (hin : meth.name = y_P_init.name) {post : wM → Prop} {x0 : Option Ro} {M : wM} (h : wp_P_init post x0 M) : AW p l e (headSpec w_P_init rm_P_init).room s m args below meth c (MQ below (QV D dA B zE M0 ad0 post) args s 1 3 (wA B)) D dA B zE 1 ad0 M0 M 0 0 0 [(0, vR x0)] [] := by
  unfold wp_P_init at h
  refine aw_aload_n X 0 rfl d_P_init_0 rfl ?_
  obtain ⟨⟨r1, e1⟩, h⟩ := h
  cases e1
  refine aw_objInit X LK_39 LK_1 LK_objcode (Nat.le_of_ble_eq_true rfl) (Nat.le_of_ble_eq_true rfl) d_P_init_1 ?_
  refine aw_aload_n X 0 rfl d_P_init_4 rfl ?_
  refine aw_nO X hc_8 in_8 ty_8 tyok_8 LK_40 LK_41 LK_42 fs_8 fl_8 (Nat.le_of_ble_eq_true rfl) (Nat.le_of_ble_eq_true rfl) d_P_init_5 (h.mono (fun a5 M5 h => ?_))
  refine aw_dup X rfl d_P_init_8 ?_
  obtain ⟨⟨r9, f9, e9, g9⟩, h⟩ := h
  cases e9
  refine aw_cIv X [] (fun ad hlv => t_A_init l hlv h) (cwI 0 X.hts (gd_in LK_code_A_init) rfl rfl rfl (X.hts _ LK_42) (X.hts _ LK_44) (X.hts _ LK_45) rfl (by decide +kernel) ⟨(Nat.le_of_ble_eq_true rfl), (Nat.le_of_ble_eq_true rfl)⟩) rfl rfl (Nat.le_of_ble_eq_true rfl) d_P_init_9 ⟨(Nat.le_of_ble_eq_true rfl), (Nat.le_of_ble_eq_true rfl)⟩ (fun M9 h => ?_)
  refine aw_pFF (ty := (.object "java/util/ArrayList")) X hc_2 in_2 0 (by decide) ty_2 tyok_2 nm_2 LK_46 (fun _ _ _ _ h => h) rfl hin rfl (by decide +kernel) nfO d_P_init_12 (h.mono (fun M12 h => ?_))
  refine aw_aload_n X 0 rfl d_P_init_15 rfl ?_
  refine aw_iconst X (0) (by decide) d_P_init_16 ?_
  refine aw_pF (ty := .boolean) X hc_2 in_2 1 (by decide) ty_2 tyok_2 nm_2 LK_47 (fun _ _ _ _ h => h) rfl (by decide +kernel) (fun _ => ⟨rfl, rfl⟩) d_P_init_17 (h.mono (fun M17 h => ?_))
  refine aw_aload_n X 0 rfl d_P_init_20 rfl ?_
  refine aw_iconst X (0) (by decide) d_P_init_21 ?_
  refine aw_pF (ty := .boolean) X hc_2 in_2 2 (by decide) ty_2 tyok_2 nm_2 LK_48 (fun _ _ _ _ h => h) rfl (by decide +kernel) (fun _ => ⟨rfl, rfl⟩) d_P_init_22 (h.mono (fun M22 h => ?_))
  exact aw_vret X hr (Nat.le_of_ble_eq_true rfl) (Nat.le_of_ble_eq_true rfl) d_P_init_25 h
end
theorem t_P_init (l : Launch) {D : va_G} {dA : Nat → ClassId} {B : Nat} {zE : Nat × Nat} {M : wM} {ad : Ro → Nat} {post : wM → Prop} {x0 : Option Ro} (hlv : lvS M [vR x0]) (h : wp_P_init post x0 M) : Met l y_P_init w_P_init rm_P_init (PA D dA B zE M ad [vR x0]) (QV D dA B zE M ad post) 1 3 (wA B) :=
  AW_start [vR x0] [(0, vR x0)] hlv (by decide +kernel) rfl (fun _ hw => List.mem_cons_of_mem _ hw) rfl (Nat.le_of_ble_eq_true rfl) (fun p e s m args below meth c X hr hin => sd_P_init_0 X hr hin h)
abbrev rm_C_init : Room := { frames := 1, cells := 1, slots := 4, locals := 40 }
section
variable {p : Program} {l : Launch} {e : Env} {s : State} {m : MethodId} {args : Array Value} {below : List Frame} {meth : Method} {c : Code} {D : va_G} {dA : Nat → ClassId} {B : Nat} {zE : Nat × Nat} {ad0 : Ro → Nat} {M0 : wM}
def wp_C_init (post : wM → Prop) (x0 : Option Ro) (M : wM) : Prop := nn x0 (pF M x0 1 0 (vI 0) (fun M6 => pF M6 x0 1 1 (vI 0) (fun M11 => pF M11 x0 1 2 (vI 0) (fun M16 => pF M16 x0 1 3 (vI 0) (fun M21 => pF M21 x0 1 4 (vI 0) (fun M26 => pF M26 x0 1 5 (vI 0) (fun M31 => nA M31 4 4 (fun n => ai 0 n (fun _ => 0)) (fun a36 M36 => pF M36 x0 1 6 (vR a36) (fun M38 => post M38)))))))))
set_option maxRecDepth 100000 in
set_option maxHeartbeats 4000000 in
theorem sd_C_init_0 (X : Cx p s m args meth c b_C_init 1 R_C TBL D dA B zE) (hr : meth.sig.returnType = none) (hin : meth.name = y_C_init.name) {post : wM → Prop} {x0 : Option Ro} {M : wM} (h : wp_C_init post x0 M) : AW p l e (headSpec w_C_init rm_C_init).room s m args below meth c (MQ below (QV D dA B zE M0 ad0 post) args s 1 4 (wA B)) D dA B zE 1 ad0 M0 M 0 0 0 [(0, vR x0)] [] := by
  unfold wp_C_init at h
  refine aw_aload_n X 0 rfl d_C_init_0 rfl ?_
  obtain ⟨⟨r1, e1⟩, h⟩ := h
  cases e1
  refine aw_objInit X LK_49 LK_1 LK_objcode (Nat.le_of_ble_eq_true rfl) (Nat.le_of_ble_eq_true rfl) d_C_init_1 ?_
  refine aw_aload_n X 0 rfl d_C_init_4 rfl ?_
  refine aw_iconst X (0) (by decide) d_C_init_5 ?_
  refine aw_pF (ty := .int) X hc_1 in_1 0 (by decide) ty_1 tyok_1 nm_1 LK_50 (fun _ _ _ _ h => h) rfl (by decide +kernel) (fun _ => ⟨rfl, rfl⟩) d_C_init_6 (h.mono (fun M6 h => ?_))
  refine aw_aload_n X 0 rfl d_C_init_9 rfl ?_
  refine aw_iconst X (0) (by decide) d_C_init_10 ?_
  refine aw_pF (ty := .int) X hc_1 in_1 1 (by decide) ty_1 tyok_1 nm_1 LK_51 (fun _ _ _ _ h => h) rfl (by decide +kernel) (fun _ => ⟨rfl, rfl⟩) d_C_init_11 (h.mono (fun M11 h => ?_))
  refine aw_aload_n X 0 rfl d_C_init_14 rfl ?_
  refine aw_iconst X (0) (by decide) d_C_init_15 ?_
  refine aw_pF (ty := .boolean) X hc_1 in_1 2 (by decide) ty_1 tyok_1 nm_1 LK_52 (fun _ _ _ _ h => h) rfl (by decide +kernel) (fun _ => ⟨rfl, rfl⟩) d_C_init_16 (h.mono (fun M16 h => ?_))
  refine aw_aload_n X 0 rfl d_C_init_19 rfl ?_
  refine aw_iconst X (0) (by decide) d_C_init_20 ?_
  refine aw_pF (ty := .boolean) X hc_1 in_1 3 (by decide) ty_1 tyok_1 nm_1 LK_53 (fun _ _ _ _ h => h) rfl (by decide +kernel) (fun _ => ⟨rfl, rfl⟩) d_C_init_21 (h.mono (fun M21 h => ?_))
  refine aw_aload_n X 0 rfl d_C_init_24 rfl ?_
  refine aw_iconst X (0) (by decide) d_C_init_25 ?_
  refine aw_pF (ty := .int) X hc_1 in_1 4 (by decide) ty_1 tyok_1 nm_1 LK_54 (fun _ _ _ _ h => h) rfl (by decide +kernel) (fun _ => ⟨rfl, rfl⟩) d_C_init_26 (h.mono (fun M26 h => ?_))
  refine aw_aload_n X 0 rfl d_C_init_29 rfl ?_
  refine aw_iconst X (0) (by decide) d_C_init_30 ?_
  refine aw_pF (ty := .int) X hc_1 in_1 5 (by decide) ty_1 tyok_1 nm_1 LK_55 (fun _ _ _ _ h => h) rfl (by decide +kernel) (fun _ => ⟨rfl, rfl⟩) d_C_init_31 (h.mono (fun M31 h => ?_))
  refine aw_aload_n X 0 rfl d_C_init_34 rfl ?_
  refine aw_iconst X (4) (by decide) d_C_init_35 ?_
  refine aw_nAI (atype := .int) X rfl LK_17 4 (by decide) (Nat.le_of_ble_eq_true rfl) (Nat.le_of_ble_eq_true rfl) d_C_init_36 (h.mono (fun a36 M36 h => ?_))
  refine aw_pFF (ty := (.array .int)) X hc_1 in_1 6 (by decide) ty_1 tyok_1 nm_1 LK_56 (fun _ _ _ _ h => h) rfl hin rfl (by decide +kernel) nfA d_C_init_38 (h.mono (fun M38 h => ?_))
  exact aw_vret X hr (Nat.le_of_ble_eq_true rfl) (Nat.le_of_ble_eq_true rfl) d_C_init_41 h
end
theorem t_C_init (l : Launch) {D : va_G} {dA : Nat → ClassId} {B : Nat} {zE : Nat × Nat} {M : wM} {ad : Ro → Nat} {post : wM → Prop} {x0 : Option Ro} (hlv : lvS M [vR x0]) (h : wp_C_init post x0 M) : Met l y_C_init w_C_init rm_C_init (PA D dA B zE M ad [vR x0]) (QV D dA B zE M ad post) 1 4 (wA B) :=
  AW_start [vR x0] [(0, vR x0)] hlv (by decide +kernel) rfl (fun _ hw => List.mem_cons_of_mem _ hw) rfl (Nat.le_of_ble_eq_true rfl) (fun p e s m args below meth c X hr hin => sd_C_init_0 X hr hin h)
abbrev rm_Q_init : Room := { frames := 4, cells := 1, slots := 3, locals := 100 }
section
variable {p : Program} {l : Launch} {e : Env} {s : State} {m : MethodId} {args : Array Value} {below : List Frame} {meth : Method} {c : Code} {D : va_G} {dA : Nat → ClassId} {B : Nat} {zE : Nat × Nat} {ad0 : Ro → Nat} {M0 : wM}
def wp_Q_init (post : wM → Prop) (x0 : Option Ro) (M : wM) : Prop := nn x0 (nO M 8 fd_8 (fun a5 M5 => cV M5 a5 8 (wp_A_init (fun M9 => pF M9 x0 4 0 (vR a5) (fun M12 => pF M12 x0 4 1 (vI 0) (fun M17 => pF M17 x0 4 2 (vI 0) (fun M22 => pF M22 x0 4 3 (vI 0) (fun M27 => post M27))))) a5 M5)))
set_option maxRecDepth 100000 in
set_option maxHeartbeats 4000000 in
theorem sd_Q_init_0 (X : Cx p s m args meth c b_Q_init 1 R_Q TBL D dA B zE) (hr : meth.sig.returnType = none) (hin : meth.name = y_Q_init.name) {post : wM → Prop} {x0 : Option Ro} {M : wM} (h : wp_Q_init post x0 M) : AW p l e (headSpec w_Q_init rm_Q_init).room s m args below meth c (MQ below (QV D dA B zE M0 ad0 post) args s 1 3 (wA B)) D dA B zE 1 ad0 M0 M 0 0 0 [(0, vR x0)] [] := by
  unfold wp_Q_init at h
  refine aw_aload_n X 0 rfl d_Q_init_0 rfl ?_
  obtain ⟨⟨r1, e1⟩, h⟩ := h
  cases e1
  refine aw_objInit X LK_57 LK_1 LK_objcode (Nat.le_of_ble_eq_true rfl) (Nat.le_of_ble_eq_true rfl) d_Q_init_1 ?_
  refine aw_aload_n X 0 rfl d_Q_init_4 rfl ?_
  refine aw_nO X hc_8 in_8 ty_8 tyok_8 LK_58 LK_41 LK_42 fs_8 fl_8 (Nat.le_of_ble_eq_true rfl) (Nat.le_of_ble_eq_true rfl) d_Q_init_5 (h.mono (fun a5 M5 h => ?_))
  refine aw_dup X rfl d_Q_init_8 ?_
  obtain ⟨⟨r9, f9, e9, g9⟩, h⟩ := h
  cases e9
  refine aw_cIv X [] (fun ad hlv => t_A_init l hlv h) (cwI 0 X.hts (gd_in LK_code_A_init) rfl rfl rfl (X.hts _ LK_42) (X.hts _ LK_59) (X.hts _ LK_45) rfl (by decide +kernel) ⟨(Nat.le_of_ble_eq_true rfl), (Nat.le_of_ble_eq_true rfl)⟩) rfl rfl (Nat.le_of_ble_eq_true rfl) d_Q_init_9 ⟨(Nat.le_of_ble_eq_true rfl), (Nat.le_of_ble_eq_true rfl)⟩ (fun M9 h => ?_)
  refine aw_pFF (ty := (.object "java/util/ArrayList")) X hc_4 in_4 0 (by decide) ty_4 tyok_4 nm_4 LK_60 (fun _ _ _ _ h => h) rfl hin rfl (by decide +kernel) nfO d_Q_init_12 (h.mono (fun M12 h => ?_))
  refine aw_aload_n X 0 rfl d_Q_init_15 rfl ?_
  refine aw_iconst X (0) (by decide) d_Q_init_16 ?_
  refine aw_pF (ty := .boolean) X hc_4 in_4 1 (by decide) ty_4 tyok_4 nm_4 LK_61 (fun _ _ _ _ h => h) rfl (by decide +kernel) (fun _ => ⟨rfl, rfl⟩) d_Q_init_17 (h.mono (fun M17 h => ?_))
  refine aw_aload_n X 0 rfl d_Q_init_20 rfl ?_
  refine aw_iconst X (0) (by decide) d_Q_init_21 ?_
  refine aw_pF (ty := .boolean) X hc_4 in_4 2 (by decide) ty_4 tyok_4 nm_4 LK_62 (fun _ _ _ _ h => h) rfl (by decide +kernel) (fun _ => ⟨rfl, rfl⟩) d_Q_init_22 (h.mono (fun M22 h => ?_))
  refine aw_aload_n X 0 rfl d_Q_init_25 rfl ?_
  refine aw_iconst X (0) (by decide) d_Q_init_26 ?_
  refine aw_pF (ty := .int) X hc_4 in_4 3 (by decide) ty_4 tyok_4 nm_4 LK_63 (fun _ _ _ _ h => h) rfl (by decide +kernel) (fun _ => ⟨rfl, rfl⟩) d_Q_init_27 (h.mono (fun M27 h => ?_))
  exact aw_vret X hr (Nat.le_of_ble_eq_true rfl) (Nat.le_of_ble_eq_true rfl) d_Q_init_30 h
end
theorem t_Q_init (l : Launch) {D : va_G} {dA : Nat → ClassId} {B : Nat} {zE : Nat × Nat} {M : wM} {ad : Ro → Nat} {post : wM → Prop} {x0 : Option Ro} (hlv : lvS M [vR x0]) (h : wp_Q_init post x0 M) : Met l y_Q_init w_Q_init rm_Q_init (PA D dA B zE M ad [vR x0]) (QV D dA B zE M ad post) 1 3 (wA B) :=
  AW_start [vR x0] [(0, vR x0)] hlv (by decide +kernel) rfl (fun _ hw => List.mem_cons_of_mem _ hw) rfl (Nat.le_of_ble_eq_true rfl) (fun p e s m args below meth c X hr hin => sd_Q_init_0 X hr hin h)
abbrev rm_S_init : Room := { frames := 5, cells := 49, slots := 318, locals := 120 }
section
variable {p : Program} {l : Launch} {e : Env} {s : State} {m : MethodId} {args : Array Value} {below : List Frame} {meth : Method} {c : Code} {D : va_G} {dA : Nat → ClassId} {B : Nat} {zE : Nat × Nat} {ad0 : Ro → Nat} {M0 : wM}
def wp_S_init_200 (post : wM → Prop) (x0 : Option Ro) (x1 : Int32) (x2 : Int32) (M : wM) : Prop := post M
set_option maxRecDepth 100000 in
set_option maxHeartbeats 4000000 in
theorem sd_S_init_200 (X : Cx p s m args meth c b_S_init 3 R_S TBL D dA B zE) (hr : meth.sig.returnType = none) (hin : meth.name = y_S_init.name) {post : wM → Prop} {x0 : Option Ro} {x1 : Int32} {x2 : Int32} {M : wM} (h : wp_S_init_200 post x0 x1 x2 M) : AW p l e (headSpec w_S_init rm_S_init).room s m args below meth c (MQ below (QV D dA B zE M0 ad0 post) args s 49 318 (wA B)) D dA B zE 3 ad0 M0 M 47 311 200 [(0, vR x0), (1, vI x1), (2, vI x2)] [] := by
  unfold wp_S_init_200 at h
  exact aw_vret X hr (Nat.le_of_ble_eq_true rfl) (Nat.le_of_ble_eq_true rfl) d_S_init_200 h
def wp_S_init_160 (post : wM → Prop) (x0 : Option Ro) (x1 : Int32) (x2 : Int32) (M : wM) : Prop := gI M x0 0 0 (fun a162 => nA M a162 4 (fun n => ar 6 n (fun _ => none)) (fun a165 M165 => pF M165 x0 0 3 (vR a165) (fun M168 => gI M168 x0 0 0 (fun a175 => (a175 ≤ (0 : Int32) → wp_S_init_200 post x0 x1 0 M168) ∧ (¬ a175 ≤ (0 : Int32) → gR M168 x0 0 3 (fun a182 => nO M168 4 fd_4 (fun a186 M186 => cV M186 a186 4 (wp_Q_init (fun M190 => sR M190 a182 0 a186 (fun M193 => gI M193 x0 0 0 (fun a175 => (a175 ≤ (0 + 1 : Int32) → wp_S_init_200 post x0 x1 (0 + 1) M193) ∧ (¬ a175 ≤ (0 + 1 : Int32) → gR M193 x0 0 3 (fun a182 => nO M193 4 fd_4 (fun a186 M186 => cV M186 a186 4 (wp_Q_init (fun M190 => sR M190 a182 (0 + 1) a186 (fun M193 => gI M193 x0 0 0 (fun a175 => (a175 ≤ ((0 + 1) + 1 : Int32) → wp_S_init_200 post x0 x1 ((0 + 1) + 1) M193) ∧ (¬ a175 ≤ ((0 + 1) + 1 : Int32) → gR M193 x0 0 3 (fun a182 => nO M193 4 fd_4 (fun a186 M186 => cV M186 a186 4 (wp_Q_init (fun M190 => sR M190 a182 ((0 + 1) + 1) a186 (fun M193 => gI M193 x0 0 0 (fun a175 => (a175 ≤ (((0 + 1) + 1) + 1 : Int32) → wp_S_init_200 post x0 x1 (((0 + 1) + 1) + 1) M193) ∧ (¬ a175 ≤ (((0 + 1) + 1) + 1 : Int32) → gR M193 x0 0 3 (fun a182 => nO M193 4 fd_4 (fun a186 M186 => cV M186 a186 4 (wp_Q_init (fun M190 => sR M190 a182 (((0 + 1) + 1) + 1) a186 (fun M193 => gI M193 x0 0 0 (fun a175 => (a175 ≤ ((((0 + 1) + 1) + 1) + 1 : Int32) → wp_S_init_200 post x0 x1 ((((0 + 1) + 1) + 1) + 1) M193) ∧ (¬ a175 ≤ ((((0 + 1) + 1) + 1) + 1 : Int32) → gR M193 x0 0 3 (fun a182 => nO M193 4 fd_4 (fun a186 M186 => cV M186 a186 4 (wp_Q_init (fun M190 => sR M190 a182 ((((0 + 1) + 1) + 1) + 1) a186 (fun M193 => False)) a186 M186))))))) a186 M186))))))) a186 M186))))))) a186 M186))))))) a186 M186))))))))
set_option maxRecDepth 100000 in
set_option maxHeartbeats 4000000 in
theorem sd_S_init_160 (X : Cx p s m args meth c b_S_init 3 R_S TBL D dA B zE) (hr : meth.sig.returnType = none) (hin : meth.name = y_S_init.name) {post : wM → Prop} {x0 : Option Ro} {x1 : Int32} {x2 : Int32} {M : wM} (h : wp_S_init_160 post x0 x1 x2 M) : AW p l e (headSpec w_S_init rm_S_init).room s m args below meth c (MQ below (QV D dA B zE M0 ad0 post) args s 49 318 (wA B)) D dA B zE 3 ad0 M0 M 38 279 160 [(0, vR x0), (1, vI x1), (2, vI x2)] [] := by
  unfold wp_S_init_160 at h
  refine aw_aload_n X 0 rfl d_S_init_160 rfl ?_
  refine aw_aload_n X 0 rfl d_S_init_161 rfl ?_
  refine aw_gI X hc_0 in_0 0 (by decide) LK_64 (fun _ _ _ _ h => h) d_S_init_162 (h.mono (fun a162 h => ?_))
  refine aw_nAR (t := 6) X rfl (by decide) LK_65 (X.hG.2.2.1.2.2.2.2 _ (by decide)) 4 (by decide) (Nat.le_of_ble_eq_true rfl) (Nat.le_of_ble_eq_true rfl) d_S_init_165 (h.mono (fun a165 M165 h => ?_))
  refine aw_pFF (ty := (.array (.object "PartitionedProcedureStore$Site"))) X hc_0 in_0 3 (by decide) ty_0 tyok_0 nm_0 LK_66 (fun _ _ _ _ h => h) rfl hin rfl (by decide +kernel) nfA d_S_init_168 (h.mono (fun M168 h => ?_))
  refine aw_iconst X (0) (by decide) d_S_init_171 ?_
  refine aw_istore_n (lvn := [(2, _), (0, _), (1, _)]) X d_S_init_172 rfl (by decide) rfl ?_
  refine aw_iload_n X 0 rfl d_S_init_173 rfl ?_
  refine aw_aload_n X 1 rfl d_S_init_174 rfl ?_
  refine aw_gI X hc_0 in_0 0 (by decide) LK_64 (fun _ _ _ _ h => h) d_S_init_175 (h.mono (fun a175 h => ?_))
  refine aw_icmp_ge (tgt := 200) X d_S_init_178 (by decide) (fun c => ?_) (fun c => ?_)
  · have h := h.1 c
    refine aw_lv [1, 2, 0] rfl ?_
    refine aw_widen (ce := 47) (sl := 311) (Nat.le_of_ble_eq_true rfl) (Nat.le_of_ble_eq_true rfl) ?_
    exact sd_S_init_200 X hr hin h
  · have h := h.2 c
    refine aw_aload_n X 1 rfl d_S_init_181 rfl ?_
    refine aw_gR X hc_0 in_0 3 (by decide) LK_66 (fun _ _ _ _ h => h) d_S_init_182 (h.mono (fun a182 h => ?_))
    refine aw_iload_n X 0 rfl d_S_init_185 rfl ?_
    refine aw_nO X hc_4 in_4 ty_4 tyok_4 LK_65 LK_67 LK_68 fs_4 fl_4 (Nat.le_of_ble_eq_true rfl) (Nat.le_of_ble_eq_true rfl) d_S_init_186 (h.mono (fun a186 M186 h => ?_))
    refine aw_dup X rfl d_S_init_189 ?_
    obtain ⟨⟨r190, f190, e190, g190⟩, h⟩ := h
    cases e190
    refine aw_cINv X [] (fun ad hlv => t_Q_init l hlv h) ⟨va_cnB (host := "PartitionedProcedureStore") 0 X.hts (gd_in LK_code_Q_init) rfl rfl rfl (X.hG.2.2.2 _ NW_70) (X.hts _ LK_68) (by decide +kernel) ⟨(Nat.le_of_ble_eq_true rfl), (Nat.le_of_ble_eq_true rfl)⟩, rfl, X.hts _ LK_71⟩ rfl rfl (Nat.le_of_ble_eq_true rfl) d_S_init_190 ⟨(Nat.le_of_ble_eq_true rfl), (Nat.le_of_ble_eq_true rfl)⟩ (fun M190 h => ?_)
    refine aw_sR X d_S_init_193 (h.mono (fun M193 h => ?_))
    refine aw_iinc (y := 0 + 1) (lvn := [(2, _), (0, _), (1, _)]) X 0 rfl d_S_init_194 rfl (by decide) rfl ?_
    refine aw_goto (tgt := 173) X d_S_init_197 (by decide) ?_
    refine aw_iload_n X 0 rfl d_S_init_173 rfl ?_
    refine aw_aload_n X 1 rfl d_S_init_174 rfl ?_
    refine aw_gI X hc_0 in_0 0 (by decide) LK_64 (fun _ _ _ _ h => h) d_S_init_175 (h.mono (fun a175 h => ?_))
    refine aw_icmp_ge (tgt := 200) X d_S_init_178 (by decide) (fun c => ?_) (fun c => ?_)
    · have h := h.1 c
      refine aw_lv [1, 2, 0] rfl ?_
      refine aw_widen (ce := 47) (sl := 311) (Nat.le_of_ble_eq_true rfl) (Nat.le_of_ble_eq_true rfl) ?_
      exact sd_S_init_200 X hr hin h
    · have h := h.2 c
      refine aw_aload_n X 1 rfl d_S_init_181 rfl ?_
      refine aw_gR X hc_0 in_0 3 (by decide) LK_66 (fun _ _ _ _ h => h) d_S_init_182 (h.mono (fun a182 h => ?_))
      refine aw_iload_n X 0 rfl d_S_init_185 rfl ?_
      refine aw_nO X hc_4 in_4 ty_4 tyok_4 LK_65 LK_67 LK_68 fs_4 fl_4 (Nat.le_of_ble_eq_true rfl) (Nat.le_of_ble_eq_true rfl) d_S_init_186 (h.mono (fun a186 M186 h => ?_))
      refine aw_dup X rfl d_S_init_189 ?_
      obtain ⟨⟨r190, f190, e190, g190⟩, h⟩ := h
      cases e190
      refine aw_cINv X [] (fun ad hlv => t_Q_init l hlv h) ⟨va_cnB (host := "PartitionedProcedureStore") 0 X.hts (gd_in LK_code_Q_init) rfl rfl rfl (X.hG.2.2.2 _ NW_70) (X.hts _ LK_68) (by decide +kernel) ⟨(Nat.le_of_ble_eq_true rfl), (Nat.le_of_ble_eq_true rfl)⟩, rfl, X.hts _ LK_71⟩ rfl rfl (Nat.le_of_ble_eq_true rfl) d_S_init_190 ⟨(Nat.le_of_ble_eq_true rfl), (Nat.le_of_ble_eq_true rfl)⟩ (fun M190 h => ?_)
      refine aw_sR X d_S_init_193 (h.mono (fun M193 h => ?_))
      refine aw_iinc (y := (0 + 1) + 1) (lvn := [(2, _), (0, _), (1, _)]) X 0 rfl d_S_init_194 rfl (by decide) rfl ?_
      refine aw_goto (tgt := 173) X d_S_init_197 (by decide) ?_
      refine aw_iload_n X 0 rfl d_S_init_173 rfl ?_
      refine aw_aload_n X 1 rfl d_S_init_174 rfl ?_
      refine aw_gI X hc_0 in_0 0 (by decide) LK_64 (fun _ _ _ _ h => h) d_S_init_175 (h.mono (fun a175 h => ?_))
      refine aw_icmp_ge (tgt := 200) X d_S_init_178 (by decide) (fun c => ?_) (fun c => ?_)
      · have h := h.1 c
        refine aw_lv [1, 2, 0] rfl ?_
        refine aw_widen (ce := 47) (sl := 311) (Nat.le_of_ble_eq_true rfl) (Nat.le_of_ble_eq_true rfl) ?_
        exact sd_S_init_200 X hr hin h
      · have h := h.2 c
        refine aw_aload_n X 1 rfl d_S_init_181 rfl ?_
        refine aw_gR X hc_0 in_0 3 (by decide) LK_66 (fun _ _ _ _ h => h) d_S_init_182 (h.mono (fun a182 h => ?_))
        refine aw_iload_n X 0 rfl d_S_init_185 rfl ?_
        refine aw_nO X hc_4 in_4 ty_4 tyok_4 LK_65 LK_67 LK_68 fs_4 fl_4 (Nat.le_of_ble_eq_true rfl) (Nat.le_of_ble_eq_true rfl) d_S_init_186 (h.mono (fun a186 M186 h => ?_))
        refine aw_dup X rfl d_S_init_189 ?_
        obtain ⟨⟨r190, f190, e190, g190⟩, h⟩ := h
        cases e190
        refine aw_cINv X [] (fun ad hlv => t_Q_init l hlv h) ⟨va_cnB (host := "PartitionedProcedureStore") 0 X.hts (gd_in LK_code_Q_init) rfl rfl rfl (X.hG.2.2.2 _ NW_70) (X.hts _ LK_68) (by decide +kernel) ⟨(Nat.le_of_ble_eq_true rfl), (Nat.le_of_ble_eq_true rfl)⟩, rfl, X.hts _ LK_71⟩ rfl rfl (Nat.le_of_ble_eq_true rfl) d_S_init_190 ⟨(Nat.le_of_ble_eq_true rfl), (Nat.le_of_ble_eq_true rfl)⟩ (fun M190 h => ?_)
        refine aw_sR X d_S_init_193 (h.mono (fun M193 h => ?_))
        refine aw_iinc (y := ((0 + 1) + 1) + 1) (lvn := [(2, _), (0, _), (1, _)]) X 0 rfl d_S_init_194 rfl (by decide) rfl ?_
        refine aw_goto (tgt := 173) X d_S_init_197 (by decide) ?_
        refine aw_iload_n X 0 rfl d_S_init_173 rfl ?_
        refine aw_aload_n X 1 rfl d_S_init_174 rfl ?_
        refine aw_gI X hc_0 in_0 0 (by decide) LK_64 (fun _ _ _ _ h => h) d_S_init_175 (h.mono (fun a175 h => ?_))
        refine aw_icmp_ge (tgt := 200) X d_S_init_178 (by decide) (fun c => ?_) (fun c => ?_)
        · have h := h.1 c
          refine aw_lv [1, 2, 0] rfl ?_
          refine aw_widen (ce := 47) (sl := 311) (Nat.le_of_ble_eq_true rfl) (Nat.le_of_ble_eq_true rfl) ?_
          exact sd_S_init_200 X hr hin h
        · have h := h.2 c
          refine aw_aload_n X 1 rfl d_S_init_181 rfl ?_
          refine aw_gR X hc_0 in_0 3 (by decide) LK_66 (fun _ _ _ _ h => h) d_S_init_182 (h.mono (fun a182 h => ?_))
          refine aw_iload_n X 0 rfl d_S_init_185 rfl ?_
          refine aw_nO X hc_4 in_4 ty_4 tyok_4 LK_65 LK_67 LK_68 fs_4 fl_4 (Nat.le_of_ble_eq_true rfl) (Nat.le_of_ble_eq_true rfl) d_S_init_186 (h.mono (fun a186 M186 h => ?_))
          refine aw_dup X rfl d_S_init_189 ?_
          obtain ⟨⟨r190, f190, e190, g190⟩, h⟩ := h
          cases e190
          refine aw_cINv X [] (fun ad hlv => t_Q_init l hlv h) ⟨va_cnB (host := "PartitionedProcedureStore") 0 X.hts (gd_in LK_code_Q_init) rfl rfl rfl (X.hG.2.2.2 _ NW_70) (X.hts _ LK_68) (by decide +kernel) ⟨(Nat.le_of_ble_eq_true rfl), (Nat.le_of_ble_eq_true rfl)⟩, rfl, X.hts _ LK_71⟩ rfl rfl (Nat.le_of_ble_eq_true rfl) d_S_init_190 ⟨(Nat.le_of_ble_eq_true rfl), (Nat.le_of_ble_eq_true rfl)⟩ (fun M190 h => ?_)
          refine aw_sR X d_S_init_193 (h.mono (fun M193 h => ?_))
          refine aw_iinc (y := (((0 + 1) + 1) + 1) + 1) (lvn := [(2, _), (0, _), (1, _)]) X 0 rfl d_S_init_194 rfl (by decide) rfl ?_
          refine aw_goto (tgt := 173) X d_S_init_197 (by decide) ?_
          refine aw_iload_n X 0 rfl d_S_init_173 rfl ?_
          refine aw_aload_n X 1 rfl d_S_init_174 rfl ?_
          refine aw_gI X hc_0 in_0 0 (by decide) LK_64 (fun _ _ _ _ h => h) d_S_init_175 (h.mono (fun a175 h => ?_))
          refine aw_icmp_ge (tgt := 200) X d_S_init_178 (by decide) (fun c => ?_) (fun c => ?_)
          · have h := h.1 c
            refine aw_lv [1, 2, 0] rfl ?_
            exact sd_S_init_200 X hr hin h
          · have h := h.2 c
            refine aw_aload_n X 1 rfl d_S_init_181 rfl ?_
            refine aw_gR X hc_0 in_0 3 (by decide) LK_66 (fun _ _ _ _ h => h) d_S_init_182 (h.mono (fun a182 h => ?_))
            refine aw_iload_n X 0 rfl d_S_init_185 rfl ?_
            refine aw_nO X hc_4 in_4 ty_4 tyok_4 LK_65 LK_67 LK_68 fs_4 fl_4 (Nat.le_of_ble_eq_true rfl) (Nat.le_of_ble_eq_true rfl) d_S_init_186 (h.mono (fun a186 M186 h => ?_))
            refine aw_dup X rfl d_S_init_189 ?_
            obtain ⟨⟨r190, f190, e190, g190⟩, h⟩ := h
            cases e190
            refine aw_cINv X [] (fun ad hlv => t_Q_init l hlv h) ⟨va_cnB (host := "PartitionedProcedureStore") 0 X.hts (gd_in LK_code_Q_init) rfl rfl rfl (X.hG.2.2.2 _ NW_70) (X.hts _ LK_68) (by decide +kernel) ⟨(Nat.le_of_ble_eq_true rfl), (Nat.le_of_ble_eq_true rfl)⟩, rfl, X.hts _ LK_71⟩ rfl rfl (Nat.le_of_ble_eq_true rfl) d_S_init_190 ⟨(Nat.le_of_ble_eq_true rfl), (Nat.le_of_ble_eq_true rfl)⟩ (fun M190 h => ?_)
            refine aw_sR X d_S_init_193 (h.mono (fun M193 h => ?_))
            refine aw_iinc (y := ((((0 + 1) + 1) + 1) + 1) + 1) (lvn := [(2, _), (0, _), (1, _)]) X 0 rfl d_S_init_194 rfl (by decide) rfl ?_
            refine aw_goto (tgt := 173) X d_S_init_197 (by decide) ?_
            exact h.elim
def wp_S_init_134 (post : wM → Prop) (x0 : Option Ro) (x1 : Int32) (x2 : Int32) (M : wM) : Prop := ((4 : Int32) ≤ (0 : Int32) → wp_S_init_160 post x0 x1 0 M) ∧ (¬ (4 : Int32) ≤ (0 : Int32) → gR M x0 0 4 (fun a142 => nO M 1 fd_1 (fun a146 M146 => cV M146 a146 1 (wp_C_init (fun M150 => sR M150 a142 0 a146 (fun M153 => ((4 : Int32) ≤ (0 + 1 : Int32) → wp_S_init_160 post x0 x1 (0 + 1) M153) ∧ (¬ (4 : Int32) ≤ (0 + 1 : Int32) → gR M153 x0 0 4 (fun a142 => nO M153 1 fd_1 (fun a146 M146 => cV M146 a146 1 (wp_C_init (fun M150 => sR M150 a142 (0 + 1) a146 (fun M153 => ((4 : Int32) ≤ ((0 + 1) + 1 : Int32) → wp_S_init_160 post x0 x1 ((0 + 1) + 1) M153) ∧ (¬ (4 : Int32) ≤ ((0 + 1) + 1 : Int32) → gR M153 x0 0 4 (fun a142 => nO M153 1 fd_1 (fun a146 M146 => cV M146 a146 1 (wp_C_init (fun M150 => sR M150 a142 ((0 + 1) + 1) a146 (fun M153 => ((4 : Int32) ≤ (((0 + 1) + 1) + 1 : Int32) → wp_S_init_160 post x0 x1 (((0 + 1) + 1) + 1) M153) ∧ (¬ (4 : Int32) ≤ (((0 + 1) + 1) + 1 : Int32) → gR M153 x0 0 4 (fun a142 => nO M153 1 fd_1 (fun a146 M146 => cV M146 a146 1 (wp_C_init (fun M150 => sR M150 a142 (((0 + 1) + 1) + 1) a146 (fun M153 => ((4 : Int32) ≤ ((((0 + 1) + 1) + 1) + 1 : Int32) → wp_S_init_160 post x0 x1 ((((0 + 1) + 1) + 1) + 1) M153) ∧ (¬ (4 : Int32) ≤ ((((0 + 1) + 1) + 1) + 1 : Int32) → gR M153 x0 0 4 (fun a142 => nO M153 1 fd_1 (fun a146 M146 => cV M146 a146 1 (wp_C_init (fun M150 => sR M150 a142 ((((0 + 1) + 1) + 1) + 1) a146 (fun M153 => False)) a146 M146)))))) a146 M146)))))) a146 M146)))))) a146 M146)))))) a146 M146))))
set_option maxRecDepth 100000 in
set_option maxHeartbeats 4000000 in
theorem sd_S_init_134 (X : Cx p s m args meth c b_S_init 3 R_S TBL D dA B zE) (hr : meth.sig.returnType = none) (hin : meth.name = y_S_init.name) {post : wM → Prop} {x0 : Option Ro} {x1 : Int32} {x2 : Int32} {M : wM} (h : wp_S_init_134 post x0 x1 x2 M) : AW p l e (headSpec w_S_init rm_S_init).room s m args below meth c (MQ below (QV D dA B zE M0 ad0 post) args s 49 318 (wA B)) D dA B zE 3 ad0 M0 M 30 235 134 [(0, vR x0), (1, vI x1), (2, vI x2)] [] := by
  unfold wp_S_init_134 at h
  refine aw_iconst X (0) (by decide) d_S_init_134 ?_
  refine aw_istore_n (lvn := [(2, _), (0, _), (1, _)]) X d_S_init_135 rfl (by decide) rfl ?_
  refine aw_iload_n X 0 rfl d_S_init_136 rfl ?_
  refine aw_iconst X (4) (by decide) d_S_init_137 ?_
  refine aw_icmp_ge (tgt := 160) X d_S_init_138 (by decide) (fun c => ?_) (fun c => ?_)
  · have h := h.1 c
    refine aw_lv [1, 2, 0] rfl ?_
    refine aw_widen (ce := 38) (sl := 279) (Nat.le_of_ble_eq_true rfl) (Nat.le_of_ble_eq_true rfl) ?_
    exact sd_S_init_160 X hr hin h
  · have h := h.2 c
    refine aw_aload_n X 1 rfl d_S_init_141 rfl ?_
    refine aw_gR X hc_0 in_0 4 (by decide) LK_72 (fun _ _ _ _ h => h) d_S_init_142 (h.mono (fun a142 h => ?_))
    refine aw_iload_n X 0 rfl d_S_init_145 rfl ?_
    refine aw_nO X hc_1 in_1 ty_1 tyok_1 LK_73 LK_74 LK_75 fs_1 fl_1 (Nat.le_of_ble_eq_true rfl) (Nat.le_of_ble_eq_true rfl) d_S_init_146 (h.mono (fun a146 M146 h => ?_))
    refine aw_dup X rfl d_S_init_149 ?_
    obtain ⟨⟨r150, f150, e150, g150⟩, h⟩ := h
    cases e150
    refine aw_cINv X [] (fun ad hlv => t_C_init l hlv h) ⟨va_cnB (host := "PartitionedProcedureStore") 0 X.hts (gd_in LK_code_C_init) rfl rfl rfl (X.hG.2.2.2 _ NW_77) (X.hts _ LK_75) (by decide +kernel) ⟨(Nat.le_of_ble_eq_true rfl), (Nat.le_of_ble_eq_true rfl)⟩, rfl, X.hts _ LK_78⟩ rfl rfl (Nat.le_of_ble_eq_true rfl) d_S_init_150 ⟨(Nat.le_of_ble_eq_true rfl), (Nat.le_of_ble_eq_true rfl)⟩ (fun M150 h => ?_)
    refine aw_sR X d_S_init_153 (h.mono (fun M153 h => ?_))
    refine aw_iinc (y := 0 + 1) (lvn := [(2, _), (0, _), (1, _)]) X 0 rfl d_S_init_154 rfl (by decide) rfl ?_
    refine aw_goto (tgt := 136) X d_S_init_157 (by decide) ?_
    refine aw_iload_n X 0 rfl d_S_init_136 rfl ?_
    refine aw_iconst X (4) (by decide) d_S_init_137 ?_
    refine aw_icmp_ge (tgt := 160) X d_S_init_138 (by decide) (fun c => ?_) (fun c => ?_)
    · have h := h.1 c
      refine aw_lv [1, 2, 0] rfl ?_
      refine aw_widen (ce := 38) (sl := 279) (Nat.le_of_ble_eq_true rfl) (Nat.le_of_ble_eq_true rfl) ?_
      exact sd_S_init_160 X hr hin h
    · have h := h.2 c
      refine aw_aload_n X 1 rfl d_S_init_141 rfl ?_
      refine aw_gR X hc_0 in_0 4 (by decide) LK_72 (fun _ _ _ _ h => h) d_S_init_142 (h.mono (fun a142 h => ?_))
      refine aw_iload_n X 0 rfl d_S_init_145 rfl ?_
      refine aw_nO X hc_1 in_1 ty_1 tyok_1 LK_73 LK_74 LK_75 fs_1 fl_1 (Nat.le_of_ble_eq_true rfl) (Nat.le_of_ble_eq_true rfl) d_S_init_146 (h.mono (fun a146 M146 h => ?_))
      refine aw_dup X rfl d_S_init_149 ?_
      obtain ⟨⟨r150, f150, e150, g150⟩, h⟩ := h
      cases e150
      refine aw_cINv X [] (fun ad hlv => t_C_init l hlv h) ⟨va_cnB (host := "PartitionedProcedureStore") 0 X.hts (gd_in LK_code_C_init) rfl rfl rfl (X.hG.2.2.2 _ NW_77) (X.hts _ LK_75) (by decide +kernel) ⟨(Nat.le_of_ble_eq_true rfl), (Nat.le_of_ble_eq_true rfl)⟩, rfl, X.hts _ LK_78⟩ rfl rfl (Nat.le_of_ble_eq_true rfl) d_S_init_150 ⟨(Nat.le_of_ble_eq_true rfl), (Nat.le_of_ble_eq_true rfl)⟩ (fun M150 h => ?_)
      refine aw_sR X d_S_init_153 (h.mono (fun M153 h => ?_))
      refine aw_iinc (y := (0 + 1) + 1) (lvn := [(2, _), (0, _), (1, _)]) X 0 rfl d_S_init_154 rfl (by decide) rfl ?_
      refine aw_goto (tgt := 136) X d_S_init_157 (by decide) ?_
      refine aw_iload_n X 0 rfl d_S_init_136 rfl ?_
      refine aw_iconst X (4) (by decide) d_S_init_137 ?_
      refine aw_icmp_ge (tgt := 160) X d_S_init_138 (by decide) (fun c => ?_) (fun c => ?_)
      · have h := h.1 c
        refine aw_lv [1, 2, 0] rfl ?_
        refine aw_widen (ce := 38) (sl := 279) (Nat.le_of_ble_eq_true rfl) (Nat.le_of_ble_eq_true rfl) ?_
        exact sd_S_init_160 X hr hin h
      · have h := h.2 c
        refine aw_aload_n X 1 rfl d_S_init_141 rfl ?_
        refine aw_gR X hc_0 in_0 4 (by decide) LK_72 (fun _ _ _ _ h => h) d_S_init_142 (h.mono (fun a142 h => ?_))
        refine aw_iload_n X 0 rfl d_S_init_145 rfl ?_
        refine aw_nO X hc_1 in_1 ty_1 tyok_1 LK_73 LK_74 LK_75 fs_1 fl_1 (Nat.le_of_ble_eq_true rfl) (Nat.le_of_ble_eq_true rfl) d_S_init_146 (h.mono (fun a146 M146 h => ?_))
        refine aw_dup X rfl d_S_init_149 ?_
        obtain ⟨⟨r150, f150, e150, g150⟩, h⟩ := h
        cases e150
        refine aw_cINv X [] (fun ad hlv => t_C_init l hlv h) ⟨va_cnB (host := "PartitionedProcedureStore") 0 X.hts (gd_in LK_code_C_init) rfl rfl rfl (X.hG.2.2.2 _ NW_77) (X.hts _ LK_75) (by decide +kernel) ⟨(Nat.le_of_ble_eq_true rfl), (Nat.le_of_ble_eq_true rfl)⟩, rfl, X.hts _ LK_78⟩ rfl rfl (Nat.le_of_ble_eq_true rfl) d_S_init_150 ⟨(Nat.le_of_ble_eq_true rfl), (Nat.le_of_ble_eq_true rfl)⟩ (fun M150 h => ?_)
        refine aw_sR X d_S_init_153 (h.mono (fun M153 h => ?_))
        refine aw_iinc (y := ((0 + 1) + 1) + 1) (lvn := [(2, _), (0, _), (1, _)]) X 0 rfl d_S_init_154 rfl (by decide) rfl ?_
        refine aw_goto (tgt := 136) X d_S_init_157 (by decide) ?_
        refine aw_iload_n X 0 rfl d_S_init_136 rfl ?_
        refine aw_iconst X (4) (by decide) d_S_init_137 ?_
        refine aw_icmp_ge (tgt := 160) X d_S_init_138 (by decide) (fun c => ?_) (fun c => ?_)
        · have h := h.1 c
          refine aw_lv [1, 2, 0] rfl ?_
          refine aw_widen (ce := 38) (sl := 279) (Nat.le_of_ble_eq_true rfl) (Nat.le_of_ble_eq_true rfl) ?_
          exact sd_S_init_160 X hr hin h
        · have h := h.2 c
          refine aw_aload_n X 1 rfl d_S_init_141 rfl ?_
          refine aw_gR X hc_0 in_0 4 (by decide) LK_72 (fun _ _ _ _ h => h) d_S_init_142 (h.mono (fun a142 h => ?_))
          refine aw_iload_n X 0 rfl d_S_init_145 rfl ?_
          refine aw_nO X hc_1 in_1 ty_1 tyok_1 LK_73 LK_74 LK_75 fs_1 fl_1 (Nat.le_of_ble_eq_true rfl) (Nat.le_of_ble_eq_true rfl) d_S_init_146 (h.mono (fun a146 M146 h => ?_))
          refine aw_dup X rfl d_S_init_149 ?_
          obtain ⟨⟨r150, f150, e150, g150⟩, h⟩ := h
          cases e150
          refine aw_cINv X [] (fun ad hlv => t_C_init l hlv h) ⟨va_cnB (host := "PartitionedProcedureStore") 0 X.hts (gd_in LK_code_C_init) rfl rfl rfl (X.hG.2.2.2 _ NW_77) (X.hts _ LK_75) (by decide +kernel) ⟨(Nat.le_of_ble_eq_true rfl), (Nat.le_of_ble_eq_true rfl)⟩, rfl, X.hts _ LK_78⟩ rfl rfl (Nat.le_of_ble_eq_true rfl) d_S_init_150 ⟨(Nat.le_of_ble_eq_true rfl), (Nat.le_of_ble_eq_true rfl)⟩ (fun M150 h => ?_)
          refine aw_sR X d_S_init_153 (h.mono (fun M153 h => ?_))
          refine aw_iinc (y := (((0 + 1) + 1) + 1) + 1) (lvn := [(2, _), (0, _), (1, _)]) X 0 rfl d_S_init_154 rfl (by decide) rfl ?_
          refine aw_goto (tgt := 136) X d_S_init_157 (by decide) ?_
          refine aw_iload_n X 0 rfl d_S_init_136 rfl ?_
          refine aw_iconst X (4) (by decide) d_S_init_137 ?_
          refine aw_icmp_ge (tgt := 160) X d_S_init_138 (by decide) (fun c => ?_) (fun c => ?_)
          · have h := h.1 c
            refine aw_lv [1, 2, 0] rfl ?_
            exact sd_S_init_160 X hr hin h
          · have h := h.2 c
            refine aw_aload_n X 1 rfl d_S_init_141 rfl ?_
            refine aw_gR X hc_0 in_0 4 (by decide) LK_72 (fun _ _ _ _ h => h) d_S_init_142 (h.mono (fun a142 h => ?_))
            refine aw_iload_n X 0 rfl d_S_init_145 rfl ?_
            refine aw_nO X hc_1 in_1 ty_1 tyok_1 LK_73 LK_74 LK_75 fs_1 fl_1 (Nat.le_of_ble_eq_true rfl) (Nat.le_of_ble_eq_true rfl) d_S_init_146 (h.mono (fun a146 M146 h => ?_))
            refine aw_dup X rfl d_S_init_149 ?_
            obtain ⟨⟨r150, f150, e150, g150⟩, h⟩ := h
            cases e150
            refine aw_cINv X [] (fun ad hlv => t_C_init l hlv h) ⟨va_cnB (host := "PartitionedProcedureStore") 0 X.hts (gd_in LK_code_C_init) rfl rfl rfl (X.hG.2.2.2 _ NW_77) (X.hts _ LK_75) (by decide +kernel) ⟨(Nat.le_of_ble_eq_true rfl), (Nat.le_of_ble_eq_true rfl)⟩, rfl, X.hts _ LK_78⟩ rfl rfl (Nat.le_of_ble_eq_true rfl) d_S_init_150 ⟨(Nat.le_of_ble_eq_true rfl), (Nat.le_of_ble_eq_true rfl)⟩ (fun M150 h => ?_)
            refine aw_sR X d_S_init_153 (h.mono (fun M153 h => ?_))
            refine aw_iinc (y := ((((0 + 1) + 1) + 1) + 1) + 1) (lvn := [(2, _), (0, _), (1, _)]) X 0 rfl d_S_init_154 rfl (by decide) rfl ?_
            refine aw_goto (tgt := 136) X d_S_init_157 (by decide) ?_
            exact h.elim
def wp_S_init (post : wM → Prop) (x0 : Option Ro) (x1 : Int32) (M : wM) : Prop := nn x0 (nA M 6 6 (fun n => ar 4 n (fun _ => none)) (fun a7 M7 => pF M7 x0 0 1 (vR a7) (fun M10 => pF M10 x0 0 2 (vR none) (fun M15 => nA M15 4 4 (fun n => ar 5 n (fun _ => none)) (fun a20 M20 => pF M20 x0 0 4 (vR a20) (fun M23 => nO M23 8 fd_8 (fun a27 M27 => cV M27 a27 8 (wp_A_init (fun M31 => pF M31 x0 0 5 (vR a27) (fun M34 => nO M34 6 fd_6 (fun a38 M38 => cV M38 a38 6 (wp_B_init (fun M42 => pF M42 x0 0 7 (vR a38) (fun M45 => pF M45 x0 0 8 (vI 0) (fun M50 => nO M50 6 fd_6 (fun a54 M54 => cV M54 a54 6 (wp_B_init (fun M58 => pF M58 x0 0 9 (vR a54) (fun M61 => pF M61 x0 0 10 (vI 0) (fun M66 => pF M66 x0 0 11 (vI 0) (fun M71 => pF M71 x0 0 12 (vI 0) (fun M76 => wp_Ma_min (fun a83 M83 => wp_Ma_max (fun a86 M86 => pF M86 x0 0 0 (vI a86) (fun M89 => nO M89 3 fd_3 (fun a93 M93 => gI M93 x0 0 0 (fun a98 => cV M93 a93 3 (wp_R_init (fun M101 => pF M101 x0 0 6 (vR a93) (fun M104 => ((6 : Int32) ≤ (0 : Int32) → wp_S_init_134 post x0 x1 0 M104) ∧ (¬ (6 : Int32) ≤ (0 : Int32) → gR M104 x0 0 1 (fun a116 => nO M104 2 fd_2 (fun a120 M120 => cV M120 a120 2 (wp_P_init (fun M124 => sR M124 a116 0 a120 (fun M127 => ((6 : Int32) ≤ (0 + 1 : Int32) → wp_S_init_134 post x0 x1 (0 + 1) M127) ∧ (¬ (6 : Int32) ≤ (0 + 1 : Int32) → gR M127 x0 0 1 (fun a116 => nO M127 2 fd_2 (fun a120 M120 => cV M120 a120 2 (wp_P_init (fun M124 => sR M124 a116 (0 + 1) a120 (fun M127 => ((6 : Int32) ≤ ((0 + 1) + 1 : Int32) → wp_S_init_134 post x0 x1 ((0 + 1) + 1) M127) ∧ (¬ (6 : Int32) ≤ ((0 + 1) + 1 : Int32) → gR M127 x0 0 1 (fun a116 => nO M127 2 fd_2 (fun a120 M120 => cV M120 a120 2 (wp_P_init (fun M124 => sR M124 a116 ((0 + 1) + 1) a120 (fun M127 => ((6 : Int32) ≤ (((0 + 1) + 1) + 1 : Int32) → wp_S_init_134 post x0 x1 (((0 + 1) + 1) + 1) M127) ∧ (¬ (6 : Int32) ≤ (((0 + 1) + 1) + 1 : Int32) → gR M127 x0 0 1 (fun a116 => nO M127 2 fd_2 (fun a120 M120 => cV M120 a120 2 (wp_P_init (fun M124 => sR M124 a116 (((0 + 1) + 1) + 1) a120 (fun M127 => ((6 : Int32) ≤ ((((0 + 1) + 1) + 1) + 1 : Int32) → wp_S_init_134 post x0 x1 ((((0 + 1) + 1) + 1) + 1) M127) ∧ (¬ (6 : Int32) ≤ ((((0 + 1) + 1) + 1) + 1 : Int32) → gR M127 x0 0 1 (fun a116 => nO M127 2 fd_2 (fun a120 M120 => cV M120 a120 2 (wp_P_init (fun M124 => sR M124 a116 ((((0 + 1) + 1) + 1) + 1) a120 (fun M127 => ((6 : Int32) ≤ (((((0 + 1) + 1) + 1) + 1) + 1 : Int32) → wp_S_init_134 post x0 x1 (((((0 + 1) + 1) + 1) + 1) + 1) M127) ∧ (¬ (6 : Int32) ≤ (((((0 + 1) + 1) + 1) + 1) + 1 : Int32) → gR M127 x0 0 1 (fun a116 => nO M127 2 fd_2 (fun a120 M120 => cV M120 a120 2 (wp_P_init (fun M124 => sR M124 a116 (((((0 + 1) + 1) + 1) + 1) + 1) a120 (fun M127 => ((6 : Int32) ≤ ((((((0 + 1) + 1) + 1) + 1) + 1) + 1 : Int32) → wp_S_init_134 post x0 x1 ((((((0 + 1) + 1) + 1) + 1) + 1) + 1) M127) ∧ (¬ (6 : Int32) ≤ ((((((0 + 1) + 1) + 1) + 1) + 1) + 1 : Int32) → gR M127 x0 0 1 (fun a116 => nO M127 2 fd_2 (fun a120 M120 => cV M120 a120 2 (wp_P_init (fun M124 => sR M124 a116 ((((((0 + 1) + 1) + 1) + 1) + 1) + 1) a120 (fun M127 => False)) a120 M120)))))) a120 M120)))))) a120 M120)))))) a120 M120)))))) a120 M120)))))) a120 M120)))))) a120 M120)))))) a93 a98 M93))))) 1 a83 M83) 4 x1 M76))))) a54 M54))))) a38 M38)))) a27 M27))))))))
set_option maxRecDepth 100000 in
set_option maxHeartbeats 4000000 in
theorem sd_S_init_0 (X : Cx p s m args meth c b_S_init 3 R_S TBL D dA B zE) (hr : meth.sig.returnType = none) (hin : meth.name = y_S_init.name) {post : wM → Prop} {x0 : Option Ro} {x1 : Int32} {M : wM} (h : wp_S_init post x0 x1 M) : AW p l e (headSpec w_S_init rm_S_init).room s m args below meth c (MQ below (QV D dA B zE M0 ad0 post) args s 49 318 (wA B)) D dA B zE 3 ad0 M0 M 0 0 0 [(0, vR x0), (1, vI x1)] [] := by
  unfold wp_S_init at h
  refine aw_aload_n X 0 rfl d_S_init_0 rfl ?_
  obtain ⟨⟨r1, e1⟩, h⟩ := h
  cases e1
  refine aw_objInit X LK_79 LK_1 LK_objcode (Nat.le_of_ble_eq_true rfl) (Nat.le_of_ble_eq_true rfl) d_S_init_1 ?_
  refine aw_aload_n X 0 rfl d_S_init_4 rfl ?_
  refine aw_bipush X (6) (by decide) d_S_init_5 ?_
  refine aw_nAR (t := 4) X rfl (by decide) LK_80 (X.hG.2.2.1.2.2.2.2 _ (by decide)) 6 (by decide) (Nat.le_of_ble_eq_true rfl) (Nat.le_of_ble_eq_true rfl) d_S_init_7 (h.mono (fun a7 M7 h => ?_))
  refine aw_pFF (ty := (.array (.object "PartitionedProcedureStore$Procedure"))) X hc_0 in_0 1 (by decide) ty_0 tyok_0 nm_0 LK_81 (fun _ _ _ _ h => h) rfl hin rfl (by decide +kernel) nfA d_S_init_10 (h.mono (fun M10 h => ?_))
  refine aw_aload_n X 0 rfl d_S_init_13 rfl ?_
  refine aw_null X d_S_init_14 ?_
  refine aw_pF (ty := (.object "PartitionedProcedureStore$Procedure")) X hc_0 in_0 2 (by decide) ty_0 tyok_0 nm_0 LK_82 (fun _ _ _ _ h => h) rfl (by decide +kernel) nfO d_S_init_15 (h.mono (fun M15 h => ?_))
  refine aw_aload_n X 0 rfl d_S_init_18 rfl ?_
  refine aw_iconst X (4) (by decide) d_S_init_19 ?_
  refine aw_nAR (t := 5) X rfl (by decide) LK_73 (X.hG.2.2.1.2.2.2.2 _ (by decide)) 4 (by decide) (Nat.le_of_ble_eq_true rfl) (Nat.le_of_ble_eq_true rfl) d_S_init_20 (h.mono (fun a20 M20 h => ?_))
  refine aw_pFF (ty := (.array (.object "PartitionedProcedureStore$Client"))) X hc_0 in_0 4 (by decide) ty_0 tyok_0 nm_0 LK_72 (fun _ _ _ _ h => h) rfl hin rfl (by decide +kernel) nfA d_S_init_23 (h.mono (fun M23 h => ?_))
  refine aw_aload_n X 0 rfl d_S_init_26 rfl ?_
  refine aw_nO X hc_8 in_8 ty_8 tyok_8 LK_83 LK_41 LK_42 fs_8 fl_8 (Nat.le_of_ble_eq_true rfl) (Nat.le_of_ble_eq_true rfl) d_S_init_27 (h.mono (fun a27 M27 h => ?_))
  refine aw_dup X rfl d_S_init_30 ?_
  obtain ⟨⟨r31, f31, e31, g31⟩, h⟩ := h
  cases e31
  refine aw_cIv X [] (fun ad hlv => t_A_init l hlv h) (cwI 0 X.hts (gd_in LK_code_A_init) rfl rfl rfl (X.hts _ LK_42) (X.hts _ LK_84) (X.hts _ LK_45) rfl (by decide +kernel) ⟨(Nat.le_of_ble_eq_true rfl), (Nat.le_of_ble_eq_true rfl)⟩) rfl rfl (Nat.le_of_ble_eq_true rfl) d_S_init_31 ⟨(Nat.le_of_ble_eq_true rfl), (Nat.le_of_ble_eq_true rfl)⟩ (fun M31 h => ?_)
  refine aw_pFF (ty := (.object "java/util/ArrayList")) X hc_0 in_0 5 (by decide) ty_0 tyok_0 nm_0 LK_85 (fun _ _ _ _ h => h) rfl hin rfl (by decide +kernel) nfO d_S_init_34 (h.mono (fun M34 h => ?_))
  refine aw_aload_n X 0 rfl d_S_init_37 rfl ?_
  refine aw_nO X hc_6 in_6 ty_6 tyok_6 LK_86 LK_26 LK_27 fs_6 fl_6 (Nat.le_of_ble_eq_true rfl) (Nat.le_of_ble_eq_true rfl) d_S_init_38 (h.mono (fun a38 M38 h => ?_))
  refine aw_dup X rfl d_S_init_41 ?_
  obtain ⟨⟨r42, f42, e42, g42⟩, h⟩ := h
  cases e42
  refine aw_cIv X [] (fun ad hlv => t_B_init l hlv h) (cwI 0 X.hts (gd_in LK_code_B_init) rfl rfl rfl (X.hts _ LK_27) (X.hts _ LK_87) (X.hts _ LK_30) rfl (by decide +kernel) ⟨(Nat.le_of_ble_eq_true rfl), (Nat.le_of_ble_eq_true rfl)⟩) rfl rfl (Nat.le_of_ble_eq_true rfl) d_S_init_42 ⟨(Nat.le_of_ble_eq_true rfl), (Nat.le_of_ble_eq_true rfl)⟩ (fun M42 h => ?_)
  refine aw_pFF (ty := (.object "PartitionedProcedureStore$Table")) X hc_0 in_0 7 (by decide) ty_0 tyok_0 nm_0 LK_88 (fun _ _ _ _ h => h) rfl hin rfl (by decide +kernel) nfO d_S_init_45 (h.mono (fun M45 h => ?_))
  refine aw_aload_n X 0 rfl d_S_init_48 rfl ?_
  refine aw_iconst X (0) (by decide) d_S_init_49 ?_
  refine aw_pF (ty := .int) X hc_0 in_0 8 (by decide) ty_0 tyok_0 nm_0 LK_89 (fun _ _ _ _ h => h) rfl (by decide +kernel) (fun _ => ⟨rfl, rfl⟩) d_S_init_50 (h.mono (fun M50 h => ?_))
  refine aw_aload_n X 0 rfl d_S_init_53 rfl ?_
  refine aw_nO X hc_6 in_6 ty_6 tyok_6 LK_86 LK_26 LK_27 fs_6 fl_6 (Nat.le_of_ble_eq_true rfl) (Nat.le_of_ble_eq_true rfl) d_S_init_54 (h.mono (fun a54 M54 h => ?_))
  refine aw_dup X rfl d_S_init_57 ?_
  obtain ⟨⟨r58, f58, e58, g58⟩, h⟩ := h
  cases e58
  refine aw_cIv X [] (fun ad hlv => t_B_init l hlv h) (cwI 0 X.hts (gd_in LK_code_B_init) rfl rfl rfl (X.hts _ LK_27) (X.hts _ LK_87) (X.hts _ LK_30) rfl (by decide +kernel) ⟨(Nat.le_of_ble_eq_true rfl), (Nat.le_of_ble_eq_true rfl)⟩) rfl rfl (Nat.le_of_ble_eq_true rfl) d_S_init_58 ⟨(Nat.le_of_ble_eq_true rfl), (Nat.le_of_ble_eq_true rfl)⟩ (fun M58 h => ?_)
  refine aw_pFF (ty := (.object "PartitionedProcedureStore$Table")) X hc_0 in_0 9 (by decide) ty_0 tyok_0 nm_0 LK_90 (fun _ _ _ _ h => h) rfl hin rfl (by decide +kernel) nfO d_S_init_61 (h.mono (fun M61 h => ?_))
  refine aw_aload_n X 0 rfl d_S_init_64 rfl ?_
  refine aw_iconst X (0) (by decide) d_S_init_65 ?_
  refine aw_pF (ty := .int) X hc_0 in_0 10 (by decide) ty_0 tyok_0 nm_0 LK_91 (fun _ _ _ _ h => h) rfl (by decide +kernel) (fun _ => ⟨rfl, rfl⟩) d_S_init_66 (h.mono (fun M66 h => ?_))
  refine aw_aload_n X 0 rfl d_S_init_69 rfl ?_
  refine aw_iconst X (0) (by decide) d_S_init_70 ?_
  refine aw_pF (ty := .int) X hc_0 in_0 11 (by decide) ty_0 tyok_0 nm_0 LK_92 (fun _ _ _ _ h => h) rfl (by decide +kernel) (fun _ => ⟨rfl, rfl⟩) d_S_init_71 (h.mono (fun M71 h => ?_))
  refine aw_aload_n X 0 rfl d_S_init_74 rfl ?_
  refine aw_iconst X (0) (by decide) d_S_init_75 ?_
  refine aw_pF (ty := .int) X hc_0 in_0 12 (by decide) ty_0 tyok_0 nm_0 LK_93 (fun _ _ _ _ h => h) rfl (by decide +kernel) (fun _ => ⟨rfl, rfl⟩) d_S_init_76 (h.mono (fun M76 h => ?_))
  refine aw_aload_n X 0 rfl d_S_init_79 rfl ?_
  refine aw_iconst X (1) (by decide) d_S_init_80 ?_
  refine aw_iconst X (4) (by decide) d_S_init_81 ?_
  refine aw_iload_n X 1 rfl d_S_init_82 rfl ?_
  refine aw_cSi X [_, _] (fun ad hlv => t_Ma_min l hlv h) (va_cwS 2 X.hts (gd_S2 LK_94 LK_95 LK_96 LK_code_Ma_min) rfl rfl rfl (by decide +kernel) ⟨(Nat.le_of_ble_eq_true rfl), (Nat.le_of_ble_eq_true rfl)⟩) rfl rfl (Nat.le_of_ble_eq_true rfl) d_S_init_83 ⟨(Nat.le_of_ble_eq_true rfl), (Nat.le_of_ble_eq_true rfl)⟩ (fun a83 M83 h => ?_)
  refine aw_cSi X [_, _] (fun ad hlv => t_Ma_max l hlv h) (va_cwS 2 X.hts (gd_S2 LK_98 LK_99 LK_96 LK_code_Ma_max) rfl rfl rfl (by decide +kernel) ⟨(Nat.le_of_ble_eq_true rfl), (Nat.le_of_ble_eq_true rfl)⟩) rfl rfl (Nat.le_of_ble_eq_true rfl) d_S_init_86 ⟨(Nat.le_of_ble_eq_true rfl), (Nat.le_of_ble_eq_true rfl)⟩ (fun a86 M86 h => ?_)
  refine aw_pFF (ty := .int) X hc_0 in_0 0 (by decide) ty_0 tyok_0 nm_0 LK_64 (fun _ _ _ _ h => h) rfl hin rfl (by decide +kernel) (fun _ => ⟨rfl, rfl⟩) d_S_init_89 (h.mono (fun M89 h => ?_))
  refine aw_aload_n X 0 rfl d_S_init_92 rfl ?_
  refine aw_nO X hc_3 in_3 ty_3 tyok_3 LK_101 LK_102 LK_103 fs_3 fl_3 (Nat.le_of_ble_eq_true rfl) (Nat.le_of_ble_eq_true rfl) d_S_init_93 (h.mono (fun a93 M93 h => ?_))
  refine aw_dup X rfl d_S_init_96 ?_
  refine aw_aload_n X 0 rfl d_S_init_97 rfl ?_
  refine aw_gI X hc_0 in_0 0 (by decide) LK_64 (fun _ _ _ _ h => h) d_S_init_98 (h.mono (fun a98 h => ?_))
  obtain ⟨⟨r101, f101, e101, g101⟩, h⟩ := h
  cases e101
  refine aw_cIv X [_] (fun ad hlv => t_R_init l hlv h) (cwI 1 X.hts (gd_in LK_code_R_init) rfl rfl rfl (X.hts _ LK_103) (X.hts _ LK_105) (X.hts _ LK_106) rfl (by decide +kernel) ⟨(Nat.le_of_ble_eq_true rfl), (Nat.le_of_ble_eq_true rfl)⟩) rfl rfl (Nat.le_of_ble_eq_true rfl) d_S_init_101 ⟨(Nat.le_of_ble_eq_true rfl), (Nat.le_of_ble_eq_true rfl)⟩ (fun M101 h => ?_)
  refine aw_pFF (ty := (.object "PartitionedProcedureStore$Runner")) X hc_0 in_0 6 (by decide) ty_0 tyok_0 nm_0 LK_107 (fun _ _ _ _ h => h) rfl hin rfl (by decide +kernel) nfO d_S_init_104 (h.mono (fun M104 h => ?_))
  refine aw_iconst X (0) (by decide) d_S_init_107 ?_
  refine aw_istore_n (lvn := [(2, _), (0, _), (1, _)]) X d_S_init_108 rfl (by decide) rfl ?_
  refine aw_iload_n X 0 rfl d_S_init_109 rfl ?_
  refine aw_bipush X (6) (by decide) d_S_init_110 ?_
  refine aw_icmp_ge (tgt := 134) X d_S_init_112 (by decide) (fun c => ?_) (fun c => ?_)
  · have h := h.1 c
    refine aw_lv [1, 2, 0] rfl ?_
    refine aw_widen (ce := 30) (sl := 235) (Nat.le_of_ble_eq_true rfl) (Nat.le_of_ble_eq_true rfl) ?_
    exact sd_S_init_134 X hr hin h
  · have h := h.2 c
    refine aw_aload_n X 1 rfl d_S_init_115 rfl ?_
    refine aw_gR X hc_0 in_0 1 (by decide) LK_81 (fun _ _ _ _ h => h) d_S_init_116 (h.mono (fun a116 h => ?_))
    refine aw_iload_n X 0 rfl d_S_init_119 rfl ?_
    refine aw_nO X hc_2 in_2 ty_2 tyok_2 LK_80 LK_108 LK_109 fs_2 fl_2 (Nat.le_of_ble_eq_true rfl) (Nat.le_of_ble_eq_true rfl) d_S_init_120 (h.mono (fun a120 M120 h => ?_))
    refine aw_dup X rfl d_S_init_123 ?_
    obtain ⟨⟨r124, f124, e124, g124⟩, h⟩ := h
    cases e124
    refine aw_cINv X [] (fun ad hlv => t_P_init l hlv h) ⟨va_cnB (host := "PartitionedProcedureStore") 0 X.hts (gd_in LK_code_P_init) rfl rfl rfl (X.hG.2.2.2 _ NW_111) (X.hts _ LK_109) (by decide +kernel) ⟨(Nat.le_of_ble_eq_true rfl), (Nat.le_of_ble_eq_true rfl)⟩, rfl, X.hts _ LK_112⟩ rfl rfl (Nat.le_of_ble_eq_true rfl) d_S_init_124 ⟨(Nat.le_of_ble_eq_true rfl), (Nat.le_of_ble_eq_true rfl)⟩ (fun M124 h => ?_)
    refine aw_sR X d_S_init_127 (h.mono (fun M127 h => ?_))
    refine aw_iinc (y := 0 + 1) (lvn := [(2, _), (0, _), (1, _)]) X 0 rfl d_S_init_128 rfl (by decide) rfl ?_
    refine aw_goto (tgt := 109) X d_S_init_131 (by decide) ?_
    refine aw_iload_n X 0 rfl d_S_init_109 rfl ?_
    refine aw_bipush X (6) (by decide) d_S_init_110 ?_
    refine aw_icmp_ge (tgt := 134) X d_S_init_112 (by decide) (fun c => ?_) (fun c => ?_)
    · have h := h.1 c
      refine aw_lv [1, 2, 0] rfl ?_
      refine aw_widen (ce := 30) (sl := 235) (Nat.le_of_ble_eq_true rfl) (Nat.le_of_ble_eq_true rfl) ?_
      exact sd_S_init_134 X hr hin h
    · have h := h.2 c
      refine aw_aload_n X 1 rfl d_S_init_115 rfl ?_
      refine aw_gR X hc_0 in_0 1 (by decide) LK_81 (fun _ _ _ _ h => h) d_S_init_116 (h.mono (fun a116 h => ?_))
      refine aw_iload_n X 0 rfl d_S_init_119 rfl ?_
      refine aw_nO X hc_2 in_2 ty_2 tyok_2 LK_80 LK_108 LK_109 fs_2 fl_2 (Nat.le_of_ble_eq_true rfl) (Nat.le_of_ble_eq_true rfl) d_S_init_120 (h.mono (fun a120 M120 h => ?_))
      refine aw_dup X rfl d_S_init_123 ?_
      obtain ⟨⟨r124, f124, e124, g124⟩, h⟩ := h
      cases e124
      refine aw_cINv X [] (fun ad hlv => t_P_init l hlv h) ⟨va_cnB (host := "PartitionedProcedureStore") 0 X.hts (gd_in LK_code_P_init) rfl rfl rfl (X.hG.2.2.2 _ NW_111) (X.hts _ LK_109) (by decide +kernel) ⟨(Nat.le_of_ble_eq_true rfl), (Nat.le_of_ble_eq_true rfl)⟩, rfl, X.hts _ LK_112⟩ rfl rfl (Nat.le_of_ble_eq_true rfl) d_S_init_124 ⟨(Nat.le_of_ble_eq_true rfl), (Nat.le_of_ble_eq_true rfl)⟩ (fun M124 h => ?_)
      refine aw_sR X d_S_init_127 (h.mono (fun M127 h => ?_))
      refine aw_iinc (y := (0 + 1) + 1) (lvn := [(2, _), (0, _), (1, _)]) X 0 rfl d_S_init_128 rfl (by decide) rfl ?_
      refine aw_goto (tgt := 109) X d_S_init_131 (by decide) ?_
      refine aw_iload_n X 0 rfl d_S_init_109 rfl ?_
      refine aw_bipush X (6) (by decide) d_S_init_110 ?_
      refine aw_icmp_ge (tgt := 134) X d_S_init_112 (by decide) (fun c => ?_) (fun c => ?_)
      · have h := h.1 c
        refine aw_lv [1, 2, 0] rfl ?_
        refine aw_widen (ce := 30) (sl := 235) (Nat.le_of_ble_eq_true rfl) (Nat.le_of_ble_eq_true rfl) ?_
        exact sd_S_init_134 X hr hin h
      · have h := h.2 c
        refine aw_aload_n X 1 rfl d_S_init_115 rfl ?_
        refine aw_gR X hc_0 in_0 1 (by decide) LK_81 (fun _ _ _ _ h => h) d_S_init_116 (h.mono (fun a116 h => ?_))
        refine aw_iload_n X 0 rfl d_S_init_119 rfl ?_
        refine aw_nO X hc_2 in_2 ty_2 tyok_2 LK_80 LK_108 LK_109 fs_2 fl_2 (Nat.le_of_ble_eq_true rfl) (Nat.le_of_ble_eq_true rfl) d_S_init_120 (h.mono (fun a120 M120 h => ?_))
        refine aw_dup X rfl d_S_init_123 ?_
        obtain ⟨⟨r124, f124, e124, g124⟩, h⟩ := h
        cases e124
        refine aw_cINv X [] (fun ad hlv => t_P_init l hlv h) ⟨va_cnB (host := "PartitionedProcedureStore") 0 X.hts (gd_in LK_code_P_init) rfl rfl rfl (X.hG.2.2.2 _ NW_111) (X.hts _ LK_109) (by decide +kernel) ⟨(Nat.le_of_ble_eq_true rfl), (Nat.le_of_ble_eq_true rfl)⟩, rfl, X.hts _ LK_112⟩ rfl rfl (Nat.le_of_ble_eq_true rfl) d_S_init_124 ⟨(Nat.le_of_ble_eq_true rfl), (Nat.le_of_ble_eq_true rfl)⟩ (fun M124 h => ?_)
        refine aw_sR X d_S_init_127 (h.mono (fun M127 h => ?_))
        refine aw_iinc (y := ((0 + 1) + 1) + 1) (lvn := [(2, _), (0, _), (1, _)]) X 0 rfl d_S_init_128 rfl (by decide) rfl ?_
        refine aw_goto (tgt := 109) X d_S_init_131 (by decide) ?_
        refine aw_iload_n X 0 rfl d_S_init_109 rfl ?_
        refine aw_bipush X (6) (by decide) d_S_init_110 ?_
        refine aw_icmp_ge (tgt := 134) X d_S_init_112 (by decide) (fun c => ?_) (fun c => ?_)
        · have h := h.1 c
          refine aw_lv [1, 2, 0] rfl ?_
          refine aw_widen (ce := 30) (sl := 235) (Nat.le_of_ble_eq_true rfl) (Nat.le_of_ble_eq_true rfl) ?_
          exact sd_S_init_134 X hr hin h
        · have h := h.2 c
          refine aw_aload_n X 1 rfl d_S_init_115 rfl ?_
          refine aw_gR X hc_0 in_0 1 (by decide) LK_81 (fun _ _ _ _ h => h) d_S_init_116 (h.mono (fun a116 h => ?_))
          refine aw_iload_n X 0 rfl d_S_init_119 rfl ?_
          refine aw_nO X hc_2 in_2 ty_2 tyok_2 LK_80 LK_108 LK_109 fs_2 fl_2 (Nat.le_of_ble_eq_true rfl) (Nat.le_of_ble_eq_true rfl) d_S_init_120 (h.mono (fun a120 M120 h => ?_))
          refine aw_dup X rfl d_S_init_123 ?_
          obtain ⟨⟨r124, f124, e124, g124⟩, h⟩ := h
          cases e124
          refine aw_cINv X [] (fun ad hlv => t_P_init l hlv h) ⟨va_cnB (host := "PartitionedProcedureStore") 0 X.hts (gd_in LK_code_P_init) rfl rfl rfl (X.hG.2.2.2 _ NW_111) (X.hts _ LK_109) (by decide +kernel) ⟨(Nat.le_of_ble_eq_true rfl), (Nat.le_of_ble_eq_true rfl)⟩, rfl, X.hts _ LK_112⟩ rfl rfl (Nat.le_of_ble_eq_true rfl) d_S_init_124 ⟨(Nat.le_of_ble_eq_true rfl), (Nat.le_of_ble_eq_true rfl)⟩ (fun M124 h => ?_)
          refine aw_sR X d_S_init_127 (h.mono (fun M127 h => ?_))
          refine aw_iinc (y := (((0 + 1) + 1) + 1) + 1) (lvn := [(2, _), (0, _), (1, _)]) X 0 rfl d_S_init_128 rfl (by decide) rfl ?_
          refine aw_goto (tgt := 109) X d_S_init_131 (by decide) ?_
          refine aw_iload_n X 0 rfl d_S_init_109 rfl ?_
          refine aw_bipush X (6) (by decide) d_S_init_110 ?_
          refine aw_icmp_ge (tgt := 134) X d_S_init_112 (by decide) (fun c => ?_) (fun c => ?_)
          · have h := h.1 c
            refine aw_lv [1, 2, 0] rfl ?_
            refine aw_widen (ce := 30) (sl := 235) (Nat.le_of_ble_eq_true rfl) (Nat.le_of_ble_eq_true rfl) ?_
            exact sd_S_init_134 X hr hin h
          · have h := h.2 c
            refine aw_aload_n X 1 rfl d_S_init_115 rfl ?_
            refine aw_gR X hc_0 in_0 1 (by decide) LK_81 (fun _ _ _ _ h => h) d_S_init_116 (h.mono (fun a116 h => ?_))
            refine aw_iload_n X 0 rfl d_S_init_119 rfl ?_
            refine aw_nO X hc_2 in_2 ty_2 tyok_2 LK_80 LK_108 LK_109 fs_2 fl_2 (Nat.le_of_ble_eq_true rfl) (Nat.le_of_ble_eq_true rfl) d_S_init_120 (h.mono (fun a120 M120 h => ?_))
            refine aw_dup X rfl d_S_init_123 ?_
            obtain ⟨⟨r124, f124, e124, g124⟩, h⟩ := h
            cases e124
            refine aw_cINv X [] (fun ad hlv => t_P_init l hlv h) ⟨va_cnB (host := "PartitionedProcedureStore") 0 X.hts (gd_in LK_code_P_init) rfl rfl rfl (X.hG.2.2.2 _ NW_111) (X.hts _ LK_109) (by decide +kernel) ⟨(Nat.le_of_ble_eq_true rfl), (Nat.le_of_ble_eq_true rfl)⟩, rfl, X.hts _ LK_112⟩ rfl rfl (Nat.le_of_ble_eq_true rfl) d_S_init_124 ⟨(Nat.le_of_ble_eq_true rfl), (Nat.le_of_ble_eq_true rfl)⟩ (fun M124 h => ?_)
            refine aw_sR X d_S_init_127 (h.mono (fun M127 h => ?_))
            refine aw_iinc (y := ((((0 + 1) + 1) + 1) + 1) + 1) (lvn := [(2, _), (0, _), (1, _)]) X 0 rfl d_S_init_128 rfl (by decide) rfl ?_
            refine aw_goto (tgt := 109) X d_S_init_131 (by decide) ?_
            refine aw_iload_n X 0 rfl d_S_init_109 rfl ?_
            refine aw_bipush X (6) (by decide) d_S_init_110 ?_
            refine aw_icmp_ge (tgt := 134) X d_S_init_112 (by decide) (fun c => ?_) (fun c => ?_)
            · have h := h.1 c
              refine aw_lv [1, 2, 0] rfl ?_
              refine aw_widen (ce := 30) (sl := 235) (Nat.le_of_ble_eq_true rfl) (Nat.le_of_ble_eq_true rfl) ?_
              exact sd_S_init_134 X hr hin h
            · have h := h.2 c
              refine aw_aload_n X 1 rfl d_S_init_115 rfl ?_
              refine aw_gR X hc_0 in_0 1 (by decide) LK_81 (fun _ _ _ _ h => h) d_S_init_116 (h.mono (fun a116 h => ?_))
              refine aw_iload_n X 0 rfl d_S_init_119 rfl ?_
              refine aw_nO X hc_2 in_2 ty_2 tyok_2 LK_80 LK_108 LK_109 fs_2 fl_2 (Nat.le_of_ble_eq_true rfl) (Nat.le_of_ble_eq_true rfl) d_S_init_120 (h.mono (fun a120 M120 h => ?_))
              refine aw_dup X rfl d_S_init_123 ?_
              obtain ⟨⟨r124, f124, e124, g124⟩, h⟩ := h
              cases e124
              refine aw_cINv X [] (fun ad hlv => t_P_init l hlv h) ⟨va_cnB (host := "PartitionedProcedureStore") 0 X.hts (gd_in LK_code_P_init) rfl rfl rfl (X.hG.2.2.2 _ NW_111) (X.hts _ LK_109) (by decide +kernel) ⟨(Nat.le_of_ble_eq_true rfl), (Nat.le_of_ble_eq_true rfl)⟩, rfl, X.hts _ LK_112⟩ rfl rfl (Nat.le_of_ble_eq_true rfl) d_S_init_124 ⟨(Nat.le_of_ble_eq_true rfl), (Nat.le_of_ble_eq_true rfl)⟩ (fun M124 h => ?_)
              refine aw_sR X d_S_init_127 (h.mono (fun M127 h => ?_))
              refine aw_iinc (y := (((((0 + 1) + 1) + 1) + 1) + 1) + 1) (lvn := [(2, _), (0, _), (1, _)]) X 0 rfl d_S_init_128 rfl (by decide) rfl ?_
              refine aw_goto (tgt := 109) X d_S_init_131 (by decide) ?_
              refine aw_iload_n X 0 rfl d_S_init_109 rfl ?_
              refine aw_bipush X (6) (by decide) d_S_init_110 ?_
              refine aw_icmp_ge (tgt := 134) X d_S_init_112 (by decide) (fun c => ?_) (fun c => ?_)
              · have h := h.1 c
                refine aw_lv [1, 2, 0] rfl ?_
                exact sd_S_init_134 X hr hin h
              · have h := h.2 c
                refine aw_aload_n X 1 rfl d_S_init_115 rfl ?_
                refine aw_gR X hc_0 in_0 1 (by decide) LK_81 (fun _ _ _ _ h => h) d_S_init_116 (h.mono (fun a116 h => ?_))
                refine aw_iload_n X 0 rfl d_S_init_119 rfl ?_
                refine aw_nO X hc_2 in_2 ty_2 tyok_2 LK_80 LK_108 LK_109 fs_2 fl_2 (Nat.le_of_ble_eq_true rfl) (Nat.le_of_ble_eq_true rfl) d_S_init_120 (h.mono (fun a120 M120 h => ?_))
                refine aw_dup X rfl d_S_init_123 ?_
                obtain ⟨⟨r124, f124, e124, g124⟩, h⟩ := h
                cases e124
                refine aw_cINv X [] (fun ad hlv => t_P_init l hlv h) ⟨va_cnB (host := "PartitionedProcedureStore") 0 X.hts (gd_in LK_code_P_init) rfl rfl rfl (X.hG.2.2.2 _ NW_111) (X.hts _ LK_109) (by decide +kernel) ⟨(Nat.le_of_ble_eq_true rfl), (Nat.le_of_ble_eq_true rfl)⟩, rfl, X.hts _ LK_112⟩ rfl rfl (Nat.le_of_ble_eq_true rfl) d_S_init_124 ⟨(Nat.le_of_ble_eq_true rfl), (Nat.le_of_ble_eq_true rfl)⟩ (fun M124 h => ?_)
                refine aw_sR X d_S_init_127 (h.mono (fun M127 h => ?_))
                refine aw_iinc (y := ((((((0 + 1) + 1) + 1) + 1) + 1) + 1) + 1) (lvn := [(2, _), (0, _), (1, _)]) X 0 rfl d_S_init_128 rfl (by decide) rfl ?_
                refine aw_goto (tgt := 109) X d_S_init_131 (by decide) ?_
                exact h.elim
end
theorem t_S_init (l : Launch) {D : va_G} {dA : Nat → ClassId} {B : Nat} {zE : Nat × Nat} {M : wM} {ad : Ro → Nat} {post : wM → Prop} {x0 : Option Ro} {x1 : Int32} (hlv : lvS M [vR x0, vI x1]) (h : wp_S_init post x0 x1 M) : Met l y_S_init w_S_init rm_S_init (PA D dA B zE M ad [vR x0, vI x1]) (QV D dA B zE M ad post) 49 318 (wA B) :=
  AW_start [vR x0, vI x1] [(0, vR x0), (1, vI x1)] hlv (by decide +kernel) rfl (fun _ hw => List.mem_cons_of_mem _ hw) rfl (Nat.le_of_ble_eq_true rfl) (fun p e s m args below meth c X hr hin => sd_S_init_0 X hr hin h)
end
