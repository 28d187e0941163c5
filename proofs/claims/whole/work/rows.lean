section
-- ===== PART A: goes FIRST, ahead of the names: the tables' words, and 'selects' of the private methods out of them =====
/-- a private method of a class that the tables say can be made, by its rows of tables_1 -/
def lw_okq (q : MethodName × Nat) : Prop := (q.1.cls ≠ "java/lang/invoke/MethodHandle" ∧ q.1.cls ≠ "java/lang/invoke/VarHandle") ∧ Cond.instantiable q.1.cls q.2 ∈ tables_1 ∧ Cond.privateMethod q.1 ∈ tables_1 ∧ Cond.instanceMethod q.1 ∈ tables_1
theorem lw_p0 : lw_okq (⟨"java/util/ArrayList", "add", "(Ljava/lang/Object;[Ljava/lang/Object;I)V"⟩, 3) := ⟨⟨by decide +kernel, by decide +kernel⟩, List.mem_of_getElem? (i := 32) (by decide +kernel), List.mem_of_getElem? (i := 295) (by decide +kernel), List.mem_of_getElem? (i := 296) (by decide +kernel)⟩
theorem lw_p1 : lw_okq (⟨"java/util/ArrayList", "grow", "()[Ljava/lang/Object;"⟩, 3) := ⟨⟨by decide +kernel, by decide +kernel⟩, List.mem_of_getElem? (i := 32) (by decide +kernel), List.mem_of_getElem? (i := 299) (by decide +kernel), List.mem_of_getElem? (i := 300) (by decide +kernel)⟩
theorem lw_p2 : lw_okq (⟨"java/util/ArrayList", "grow", "(I)[Ljava/lang/Object;"⟩, 3) := ⟨⟨by decide +kernel, by decide +kernel⟩, List.mem_of_getElem? (i := 32) (by decide +kernel), List.mem_of_getElem? (i := 303) (by decide +kernel), List.mem_of_getElem? (i := 304) (by decide +kernel)⟩
theorem lw_p3 : lw_okq (⟨"PartitionedProcedureStore", "waitAtAllSites", "(LPartitionedProcedureStore$Task;)V"⟩, 13) := ⟨⟨by decide +kernel, by decide +kernel⟩, List.mem_of_getElem? (i := 20) (by decide +kernel), List.mem_of_getElem? (i := 408) (by decide +kernel), List.mem_of_getElem? (i := 409) (by decide +kernel)⟩
theorem lw_p4 : lw_okq (⟨"PartitionedProcedureStore", "comeToMarker", "(I)V"⟩, 13) := ⟨⟨by decide +kernel, by decide +kernel⟩, List.mem_of_getElem? (i := 20) (by decide +kernel), List.mem_of_getElem? (i := 433) (by decide +kernel), List.mem_of_getElem? (i := 434) (by decide +kernel)⟩
theorem lw_p5 : lw_okq (⟨"java/util/ArrayList", "fastRemove", "([Ljava/lang/Object;I)V"⟩, 3) := ⟨⟨by decide +kernel, by decide +kernel⟩, List.mem_of_getElem? (i := 32) (by decide +kernel), List.mem_of_getElem? (i := 445) (by decide +kernel), List.mem_of_getElem? (i := 446) (by decide +kernel)⟩
theorem lw_p6 : lw_okq (⟨"PartitionedProcedureStore", "completeSnapshotIfCopied", "()V"⟩, 13) := ⟨⟨by decide +kernel, by decide +kernel⟩, List.mem_of_getElem? (i := 20) (by decide +kernel), List.mem_of_getElem? (i := 467) (by decide +kernel), List.mem_of_getElem? (i := 468) (by decide +kernel)⟩
theorem lw_p7 : lw_okq (⟨"PartitionedProcedureStore", "dropLogUpTo", "(I)V"⟩, 13) := ⟨⟨by decide +kernel, by decide +kernel⟩, List.mem_of_getElem? (i := 20) (by decide +kernel), List.mem_of_getElem? (i := 476) (by decide +kernel), List.mem_of_getElem? (i := 477) (by decide +kernel)⟩
theorem lw_p8 : lw_okq (⟨"PartitionedProcedureStore", "raiseDurable", "(I)V"⟩, 13) := ⟨⟨by decide +kernel, by decide +kernel⟩, List.mem_of_getElem? (i := 20) (by decide +kernel), List.mem_of_getElem? (i := 482) (by decide +kernel), List.mem_of_getElem? (i := 483) (by decide +kernel)⟩
theorem lw_p9 : lw_okq (⟨"PartitionedProcedureStore", "areAllStalled", "()Z"⟩, 13) := ⟨⟨by decide +kernel, by decide +kernel⟩, List.mem_of_getElem? (i := 20) (by decide +kernel), List.mem_of_getElem? (i := 490) (by decide +kernel), List.mem_of_getElem? (i := 491) (by decide +kernel)⟩
theorem lw_p10 : lw_okq (⟨"PartitionedProcedureStore", "passOnAtAllSites", "()V"⟩, 13) := ⟨⟨by decide +kernel, by decide +kernel⟩, List.mem_of_getElem? (i := 20) (by decide +kernel), List.mem_of_getElem? (i := 494) (by decide +kernel), List.mem_of_getElem? (i := 495) (by decide +kernel)⟩
theorem lw_p11 : lw_okq (⟨"PartitionedProcedureStore", "finish", "(LPartitionedProcedureStore$Task;)V"⟩, 13) := ⟨⟨by decide +kernel, by decide +kernel⟩, List.mem_of_getElem? (i := 20) (by decide +kernel), List.mem_of_getElem? (i := 498) (by decide +kernel), List.mem_of_getElem? (i := 499) (by decide +kernel)⟩
theorem lw_p12 : lw_okq (⟨"PartitionedProcedureStore$Runner", "begin", "(LPartitionedProcedureStore$Task;)V"⟩, 8) := ⟨⟨by decide +kernel, by decide +kernel⟩, List.mem_of_getElem? (i := 87) (by decide +kernel), List.mem_of_getElem? (i := 506) (by decide +kernel), List.mem_of_getElem? (i := 507) (by decide +kernel)⟩
theorem lw_p13 : lw_okq (⟨"PartitionedProcedureStore$Runner", "execute", "(LPartitionedProcedureStore$Statement;)I"⟩, 8) := ⟨⟨by decide +kernel, by decide +kernel⟩, List.mem_of_getElem? (i := 87) (by decide +kernel), List.mem_of_getElem? (i := 518) (by decide +kernel), List.mem_of_getElem? (i := 519) (by decide +kernel)⟩
theorem lw_p14 : lw_okq (⟨"PartitionedProcedureStore$Runner", "readRow", "(LPartitionedProcedureStore$Statement;)I"⟩, 8) := ⟨⟨by decide +kernel, by decide +kernel⟩, List.mem_of_getElem? (i := 87) (by decide +kernel), List.mem_of_getElem? (i := 522) (by decide +kernel), List.mem_of_getElem? (i := 523) (by decide +kernel)⟩
theorem lw_p15 : lw_okq (⟨"PartitionedProcedureStore$Runner", "isPresent", "(I)Z"⟩, 8) := ⟨⟨by decide +kernel, by decide +kernel⟩, List.mem_of_getElem? (i := 87) (by decide +kernel), List.mem_of_getElem? (i := 526) (by decide +kernel), List.mem_of_getElem? (i := 527) (by decide +kernel)⟩
def lw_privs_1 : List (MethodName × Nat) := [(⟨"java/util/ArrayList", "add", "(Ljava/lang/Object;[Ljava/lang/Object;I)V"⟩, 3), (⟨"java/util/ArrayList", "grow", "()[Ljava/lang/Object;"⟩, 3), (⟨"java/util/ArrayList", "grow", "(I)[Ljava/lang/Object;"⟩, 3), (⟨"PartitionedProcedureStore", "waitAtAllSites", "(LPartitionedProcedureStore$Task;)V"⟩, 13), (⟨"PartitionedProcedureStore", "comeToMarker", "(I)V"⟩, 13), (⟨"java/util/ArrayList", "fastRemove", "([Ljava/lang/Object;I)V"⟩, 3), (⟨"PartitionedProcedureStore", "completeSnapshotIfCopied", "()V"⟩, 13), (⟨"PartitionedProcedureStore", "dropLogUpTo", "(I)V"⟩, 13), (⟨"PartitionedProcedureStore", "raiseDurable", "(I)V"⟩, 13), (⟨"PartitionedProcedureStore", "areAllStalled", "()Z"⟩, 13), (⟨"PartitionedProcedureStore", "passOnAtAllSites", "()V"⟩, 13), (⟨"PartitionedProcedureStore", "finish", "(LPartitionedProcedureStore$Task;)V"⟩, 13), (⟨"PartitionedProcedureStore$Runner", "begin", "(LPartitionedProcedureStore$Task;)V"⟩, 8), (⟨"PartitionedProcedureStore$Runner", "execute", "(LPartitionedProcedureStore$Statement;)I"⟩, 8), (⟨"PartitionedProcedureStore$Runner", "readRow", "(LPartitionedProcedureStore$Statement;)I"⟩, 8), (⟨"PartitionedProcedureStore$Runner", "isPresent", "(I)Z"⟩, 8)]
theorem lw_r1 : ∀ q ∈ lw_privs_1, lw_okq q := List.forall_mem_cons.mpr ⟨lw_p0, List.forall_mem_cons.mpr ⟨lw_p1, List.forall_mem_cons.mpr ⟨lw_p2, List.forall_mem_cons.mpr ⟨lw_p3, List.forall_mem_cons.mpr ⟨lw_p4, List.forall_mem_cons.mpr ⟨lw_p5, List.forall_mem_cons.mpr ⟨lw_p6, List.forall_mem_cons.mpr ⟨lw_p7, List.forall_mem_cons.mpr ⟨lw_p8, List.forall_mem_cons.mpr ⟨lw_p9, List.forall_mem_cons.mpr ⟨lw_p10, List.forall_mem_cons.mpr ⟨lw_p11, List.forall_mem_cons.mpr ⟨lw_p12, List.forall_mem_cons.mpr ⟨lw_p13, List.forall_mem_cons.mpr ⟨lw_p14, List.forall_mem_cons.mpr ⟨lw_p15, fun _ h => absurd h List.not_mem_nil⟩⟩⟩⟩⟩⟩⟩⟩⟩⟩⟩⟩⟩⟩⟩⟩
theorem lw_p16 : lw_okq (⟨"PartitionedProcedureStore$Runner", "isReachable", "(I)Z"⟩, 8) := ⟨⟨by decide +kernel, by decide +kernel⟩, List.mem_of_getElem? (i := 87) (by decide +kernel), List.mem_of_getElem? (i := 530) (by decide +kernel), List.mem_of_getElem? (i := 531) (by decide +kernel)⟩
theorem lw_p17 : lw_okq (⟨"PartitionedProcedureStore$Runner", "writeRow", "(IJ)I"⟩, 8) := ⟨⟨by decide +kernel, by decide +kernel⟩, List.mem_of_getElem? (i := 87) (by decide +kernel), List.mem_of_getElem? (i := 535) (by decide +kernel), List.mem_of_getElem? (i := 536) (by decide +kernel)⟩
theorem lw_p18 : lw_okq (⟨"PartitionedProcedureStore$Runner", "loadCell", "(LPartitionedProcedureStore$Statement;)I"⟩, 8) := ⟨⟨by decide +kernel, by decide +kernel⟩, List.mem_of_getElem? (i := 87) (by decide +kernel), List.mem_of_getElem? (i := 539) (by decide +kernel), List.mem_of_getElem? (i := 540) (by decide +kernel)⟩
theorem lw_p19 : lw_okq (⟨"PartitionedProcedureStore$Runner", "storeCell", "(LPartitionedProcedureStore$Statement;)I"⟩, 8) := ⟨⟨by decide +kernel, by decide +kernel⟩, List.mem_of_getElem? (i := 87) (by decide +kernel), List.mem_of_getElem? (i := 544) (by decide +kernel), List.mem_of_getElem? (i := 545) (by decide +kernel)⟩
theorem lw_p20 : lw_okq (⟨"PartitionedProcedureStore$Runner", "putOut", "(I)I"⟩, 8) := ⟨⟨by decide +kernel, by decide +kernel⟩, List.mem_of_getElem? (i := 87) (by decide +kernel), List.mem_of_getElem? (i := 548) (by decide +kernel), List.mem_of_getElem? (i := 549) (by decide +kernel)⟩
theorem lw_p21 : lw_okq (⟨"PartitionedProcedureStore$Runner", "abort", "(I)V"⟩, 8) := ⟨⟨by decide +kernel, by decide +kernel⟩, List.mem_of_getElem? (i := 87) (by decide +kernel), List.mem_of_getElem? (i := 552) (by decide +kernel), List.mem_of_getElem? (i := 553) (by decide +kernel)⟩
theorem lw_p22 : lw_okq (⟨"PartitionedProcedureStore", "dropLogAbove", "(I)V"⟩, 13) := ⟨⟨by decide +kernel, by decide +kernel⟩, List.mem_of_getElem? (i := 20) (by decide +kernel), List.mem_of_getElem? (i := 586) (by decide +kernel), List.mem_of_getElem? (i := 587) (by decide +kernel)⟩
theorem lw_p23 : lw_okq (⟨"PartitionedProcedureStore", "stalledNumber", "()I"⟩, 13) := ⟨⟨by decide +kernel, by decide +kernel⟩, List.mem_of_getElem? (i := 20) (by decide +kernel), List.mem_of_getElem? (i := 625) (by decide +kernel), List.mem_of_getElem? (i := 626) (by decide +kernel)⟩
theorem lw_p24 : lw_okq (⟨"PartitionedProcedureStoreModel", "logged", "()I"⟩, 33) := ⟨⟨by decide +kernel, by decide +kernel⟩, List.mem_of_getElem? (i := 632) (by decide +kernel), List.mem_of_getElem? (i := 758) (by decide +kernel), List.mem_of_getElem? (i := 759) (by decide +kernel)⟩
theorem lw_p25 : lw_okq (⟨"PartitionedProcedureStoreModel", "next", "(I)I"⟩, 33) := ⟨⟨by decide +kernel, by decide +kernel⟩, List.mem_of_getElem? (i := 632) (by decide +kernel), List.mem_of_getElem? (i := 762) (by decide +kernel), List.mem_of_getElem? (i := 763) (by decide +kernel)⟩
theorem lw_p26 : lw_okq (⟨"PartitionedProcedureStoreModel", "waits", "(II)Z"⟩, 33) := ⟨⟨by decide +kernel, by decide +kernel⟩, List.mem_of_getElem? (i := 632) (by decide +kernel), List.mem_of_getElem? (i := 770) (by decide +kernel), List.mem_of_getElem? (i := 771) (by decide +kernel)⟩
theorem lw_p27 : lw_okq (⟨"PartitionedProcedureStoreModel", "partitionOf", "(I)I"⟩, 33) := ⟨⟨by decide +kernel, by decide +kernel⟩, List.mem_of_getElem? (i := 632) (by decide +kernel), List.mem_of_getElem? (i := 774) (by decide +kernel), List.mem_of_getElem? (i := 775) (by decide +kernel)⟩
theorem lw_p28 : lw_okq (⟨"PartitionedProcedureStoreModel", "rowsOf", "(I)I"⟩, 33) := ⟨⟨by decide +kernel, by decide +kernel⟩, List.mem_of_getElem? (i := 632) (by decide +kernel), List.mem_of_getElem? (i := 778) (by decide +kernel), List.mem_of_getElem? (i := 779) (by decide +kernel)⟩
theorem lw_p29 : lw_okq (⟨"PartitionedProcedureStoreModel", "completeIfDone", "()V"⟩, 33) := ⟨⟨by decide +kernel, by decide +kernel⟩, List.mem_of_getElem? (i := 632) (by decide +kernel), List.mem_of_getElem? (i := 782) (by decide +kernel), List.mem_of_getElem? (i := 783) (by decide +kernel)⟩
theorem lw_p30 : lw_okq (⟨"PartitionedProcedureStoreModel", "replay", "(I)V"⟩, 33) := ⟨⟨by decide +kernel, by decide +kernel⟩, List.mem_of_getElem? (i := 632) (by decide +kernel), List.mem_of_getElem? (i := 786) (by decide +kernel), List.mem_of_getElem? (i := 787) (by decide +kernel)⟩
theorem lw_p31 : lw_okq (⟨"PartitionedProcedureStoreModel", "execute", "(I)V"⟩, 33) := ⟨⟨by decide +kernel, by decide +kernel⟩, List.mem_of_getElem? (i := 632) (by decide +kernel), List.mem_of_getElem? (i := 790) (by decide +kernel), List.mem_of_getElem? (i := 791) (by decide +kernel)⟩
def lw_privs_2 : List (MethodName × Nat) := [(⟨"PartitionedProcedureStore$Runner", "isReachable", "(I)Z"⟩, 8), (⟨"PartitionedProcedureStore$Runner", "writeRow", "(IJ)I"⟩, 8), (⟨"PartitionedProcedureStore$Runner", "loadCell", "(LPartitionedProcedureStore$Statement;)I"⟩, 8), (⟨"PartitionedProcedureStore$Runner", "storeCell", "(LPartitionedProcedureStore$Statement;)I"⟩, 8), (⟨"PartitionedProcedureStore$Runner", "putOut", "(I)I"⟩, 8), (⟨"PartitionedProcedureStore$Runner", "abort", "(I)V"⟩, 8), (⟨"PartitionedProcedureStore", "dropLogAbove", "(I)V"⟩, 13), (⟨"PartitionedProcedureStore", "stalledNumber", "()I"⟩, 13), (⟨"PartitionedProcedureStoreModel", "logged", "()I"⟩, 33), (⟨"PartitionedProcedureStoreModel", "next", "(I)I"⟩, 33), (⟨"PartitionedProcedureStoreModel", "waits", "(II)Z"⟩, 33), (⟨"PartitionedProcedureStoreModel", "partitionOf", "(I)I"⟩, 33), (⟨"PartitionedProcedureStoreModel", "rowsOf", "(I)I"⟩, 33), (⟨"PartitionedProcedureStoreModel", "completeIfDone", "()V"⟩, 33), (⟨"PartitionedProcedureStoreModel", "replay", "(I)V"⟩, 33), (⟨"PartitionedProcedureStoreModel", "execute", "(I)V"⟩, 33)]
theorem lw_r2 : ∀ q ∈ lw_privs_2, lw_okq q := List.forall_mem_cons.mpr ⟨lw_p16, List.forall_mem_cons.mpr ⟨lw_p17, List.forall_mem_cons.mpr ⟨lw_p18, List.forall_mem_cons.mpr ⟨lw_p19, List.forall_mem_cons.mpr ⟨lw_p20, List.forall_mem_cons.mpr ⟨lw_p21, List.forall_mem_cons.mpr ⟨lw_p22, List.forall_mem_cons.mpr ⟨lw_p23, List.forall_mem_cons.mpr ⟨lw_p24, List.forall_mem_cons.mpr ⟨lw_p25, List.forall_mem_cons.mpr ⟨lw_p26, List.forall_mem_cons.mpr ⟨lw_p27, List.forall_mem_cons.mpr ⟨lw_p28, List.forall_mem_cons.mpr ⟨lw_p29, List.forall_mem_cons.mpr ⟨lw_p30, List.forall_mem_cons.mpr ⟨lw_p31, fun _ h => absurd h List.not_mem_nil⟩⟩⟩⟩⟩⟩⟩⟩⟩⟩⟩⟩⟩⟩⟩⟩
theorem lw_p32 : lw_okq (⟨"PartitionedProcedureStoreModel", "statement", "(II)Z"⟩, 33) := ⟨⟨by decide +kernel, by decide +kernel⟩, List.mem_of_getElem? (i := 632) (by decide +kernel), List.mem_of_getElem? (i := 794) (by decide +kernel), List.mem_of_getElem? (i := 795) (by decide +kernel)⟩
theorem lw_p33 : lw_okq (⟨"PartitionedProcedureStoreModel", "foreign", "(II)Z"⟩, 33) := ⟨⟨by decide +kernel, by decide +kernel⟩, List.mem_of_getElem? (i := 632) (by decide +kernel), List.mem_of_getElem? (i := 798) (by decide +kernel), List.mem_of_getElem? (i := 799) (by decide +kernel)⟩
theorem lw_p34 : lw_okq (⟨"PartitionedProcedureStoreModel", "put", "(IZI)Z"⟩, 33) := ⟨⟨by decide +kernel, by decide +kernel⟩, List.mem_of_getElem? (i := 632) (by decide +kernel), List.mem_of_getElem? (i := 802) (by decide +kernel), List.mem_of_getElem? (i := 803) (by decide +kernel)⟩
theorem lw_p35 : lw_okq (⟨"PartitionedProcedureStoreModel", "tellClients", "()V"⟩, 33) := ⟨⟨by decide +kernel, by decide +kernel⟩, List.mem_of_getElem? (i := 632) (by decide +kernel), List.mem_of_getElem? (i := 806) (by decide +kernel), List.mem_of_getElem? (i := 807) (by decide +kernel)⟩
theorem lw_p36 : lw_okq (⟨"PartitionedProcedureStoreModel", "stalledAt", "()I"⟩, 33) := ⟨⟨by decide +kernel, by decide +kernel⟩, List.mem_of_getElem? (i := 632) (by decide +kernel), List.mem_of_getElem? (i := 855) (by decide +kernel), List.mem_of_getElem? (i := 856) (by decide +kernel)⟩
def lw_privs_3 : List (MethodName × Nat) := [(⟨"PartitionedProcedureStoreModel", "statement", "(II)Z"⟩, 33), (⟨"PartitionedProcedureStoreModel", "foreign", "(II)Z"⟩, 33), (⟨"PartitionedProcedureStoreModel", "put", "(IZI)Z"⟩, 33), (⟨"PartitionedProcedureStoreModel", "tellClients", "()V"⟩, 33), (⟨"PartitionedProcedureStoreModel", "stalledAt", "()I"⟩, 33)]
theorem lw_r3 : ∀ q ∈ lw_privs_3, lw_okq q := List.forall_mem_cons.mpr ⟨lw_p32, List.forall_mem_cons.mpr ⟨lw_p33, List.forall_mem_cons.mpr ⟨lw_p34, List.forall_mem_cons.mpr ⟨lw_p35, List.forall_mem_cons.mpr ⟨lw_p36, fun _ h => absurd h List.not_mem_nil⟩⟩⟩⟩⟩
def lw_privs : List (MethodName × Nat) := lw_privs_1 ++ (lw_privs_2 ++ (lw_privs_3))
def lw_tbl : List Cond := k2_sels lw_privs ++ tables_1
theorem lw_privs_ok : ∀ q ∈ lw_privs, lw_okq q := by
  show ∀ q ∈ lw_privs_1 ++ (lw_privs_2 ++ (lw_privs_3)), lw_okq q
  exact List.forall_mem_append.mpr ⟨lw_r1, List.forall_mem_append.mpr ⟨lw_r2, lw_r3⟩⟩
/-! names: classes and their fields, array types, the good words of the tables -/
def T_0 : u_T := fun k => match k with
  | 0 => ("PartitionedProcedureStore", "partitions", "I", true)
  | 1 => ("PartitionedProcedureStore", "procedures", "[LPartitionedProcedureStore$Procedure;", true)
  | 2 => ("PartitionedProcedureStore", "draft", "LPartitionedProcedureStore$Procedure;", false)
  | 3 => ("PartitionedProcedureStore", "sites", "[LPartitionedProcedureStore$Site;", true)
  | 4 => ("PartitionedProcedureStore", "clients", "[LPartitionedProcedureStore$Client;", true)
  | 5 => ("PartitionedProcedureStore", "log", "Ljava/util/ArrayList;", true)
  | 6 => ("PartitionedProcedureStore", "runner", "LPartitionedProcedureStore$Runner;", true)
  | 7 => ("PartitionedProcedureStore", "complete", "LPartitionedProcedureStore$Table;", true)
  | 8 => ("PartitionedProcedureStore", "completeMarker", "I", false)
  | 9 => ("PartitionedProcedureStore", "underWay", "LPartitionedProcedureStore$Table;", true)
  | 10 => ("PartitionedProcedureStore", "underWayMarker", "I", false)
  | 11 => ("PartitionedProcedureStore", "lastNumber", "I", false)
  | _ => ("PartitionedProcedureStore", "durable", "I", false)
def ty_0 : Nat → FieldType := fun k => match k with
  | 0 => .int
  | 1 => (.array (.object "PartitionedProcedureStore$Procedure"))
  | 2 => (.object "PartitionedProcedureStore$Procedure")
  | 3 => (.array (.object "PartitionedProcedureStore$Site"))
  | 4 => (.array (.object "PartitionedProcedureStore$Client"))
  | 5 => (.object "java/util/ArrayList")
  | 6 => (.object "PartitionedProcedureStore$Runner")
  | 7 => (.object "PartitionedProcedureStore$Table")
  | 8 => .int
  | 9 => (.object "PartitionedProcedureStore$Table")
  | 10 => .int
  | 11 => .int
  | _ => .int
theorem nm_0 : ∀ a, a < 13 → ∀ b, b < 13 → a ≠ b → (T_0 a).2.1 ≠ (T_0 b).2.1 := by decide +kernel
theorem tyok_0 : ∀ k, k < 13 → parseFieldDescriptor (T_0 k).2.2.1 = some (ty_0 k) := by decide +kernel
def T_1 : u_T := fun k => match k with
  | 0 => ("PartitionedProcedureStore$Client", "state", "I", false)
  | 1 => ("PartitionedProcedureStore$Client", "number", "I", false)
  | 2 => ("PartitionedProcedureStore$Client", "done", "Z", false)
  | 3 => ("PartitionedProcedureStore$Client", "committed", "Z", false)
  | 4 => ("PartitionedProcedureStore$Client", "fault", "I", false)
  | 5 => ("PartitionedProcedureStore$Client", "outputSize", "I", false)
  | _ => ("PartitionedProcedureStore$Client", "outputs", "[I", true)
def ty_1 : Nat → FieldType := fun k => match k with
  | 0 => .int
  | 1 => .int
  | 2 => .boolean
  | 3 => .boolean
  | 4 => .int
  | 5 => .int
  | _ => (.array .int)
theorem nm_1 : ∀ a, a < 7 → ∀ b, b < 7 → a ≠ b → (T_1 a).2.1 ≠ (T_1 b).2.1 := by decide +kernel
theorem tyok_1 : ∀ k, k < 7 → parseFieldDescriptor (T_1 k).2.2.1 = some (ty_1 k) := by decide +kernel
def T_2 : u_T := fun k => match k with
  | 0 => ("PartitionedProcedureStore$Procedure", "statements", "Ljava/util/ArrayList;", true)
  | 1 => ("PartitionedProcedureStore$Procedure", "multi", "Z", false)
  | _ => ("PartitionedProcedureStore$Procedure", "deployed", "Z", false)
def ty_2 : Nat → FieldType := fun k => match k with
  | 0 => (.object "java/util/ArrayList")
  | 1 => .boolean
  | _ => .boolean
theorem nm_2 : ∀ a, a < 3 → ∀ b, b < 3 → a ≠ b → (T_2 a).2.1 ≠ (T_2 b).2.1 := by decide +kernel
theorem tyok_2 : ∀ k, k < 3 → parseFieldDescriptor (T_2 k).2.2.1 = some (ty_2 k) := by decide +kernel
def T_3 : u_T := fun k => match k with
  | 0 => ("PartitionedProcedureStore$Runner", "live", "LPartitionedProcedureStore$Table;", true)
  | 1 => ("PartitionedProcedureStore$Runner", "partitions", "I", true)
  | 2 => ("PartitionedProcedureStore$Runner", "before", "LPartitionedProcedureStore$Table;", true)
  | 3 => ("PartitionedProcedureStore$Runner", "registers", "[I", true)
  | 4 => ("PartitionedProcedureStore$Runner", "home", "I", false)
  | 5 => ("PartitionedProcedureStore$Runner", "outputs", "[I", true)
  | 6 => ("PartitionedProcedureStore$Runner", "outputSize", "I", false)
  | _ => ("PartitionedProcedureStore$Runner", "fault", "I", false)
def ty_3 : Nat → FieldType := fun k => match k with
  | 0 => (.object "PartitionedProcedureStore$Table")
  | 1 => .int
  | 2 => (.object "PartitionedProcedureStore$Table")
  | 3 => (.array .int)
  | 4 => .int
  | 5 => (.array .int)
  | 6 => .int
  | _ => .int
theorem nm_3 : ∀ a, a < 8 → ∀ b, b < 8 → a ≠ b → (T_3 a).2.1 ≠ (T_3 b).2.1 := by decide +kernel
theorem tyok_3 : ∀ k, k < 8 → parseFieldDescriptor (T_3 k).2.2.1 = some (ty_3 k) := by decide +kernel
def T_4 : u_T := fun k => match k with
  | 0 => ("PartitionedProcedureStore$Site", "queue", "Ljava/util/ArrayList;", true)
  | 1 => ("PartitionedProcedureStore$Site", "stalled", "Z", false)
  | 2 => ("PartitionedProcedureStore$Site", "marked", "Z", false)
  | _ => ("PartitionedProcedureStore$Site", "rowsLeft", "I", false)
def ty_4 : Nat → FieldType := fun k => match k with
  | 0 => (.object "java/util/ArrayList")
  | 1 => .boolean
  | 2 => .boolean
  | _ => .int
theorem nm_4 : ∀ a, a < 4 → ∀ b, b < 4 → a ≠ b → (T_4 a).2.1 ≠ (T_4 b).2.1 := by decide +kernel
theorem tyok_4 : ∀ k, k < 4 → parseFieldDescriptor (T_4 k).2.2.1 = some (ty_4 k) := by decide +kernel
def T_5 : u_T := fun k => match k with
  | 0 => ("PartitionedProcedureStore$Statement", "op", "I", true)
  | 1 => ("PartitionedProcedureStore$Statement", "x", "I", true)
  | 2 => ("PartitionedProcedureStore$Statement", "y", "I", true)
  | _ => ("PartitionedProcedureStore$Statement", "z", "I", true)
def ty_5 : Nat → FieldType := fun k => match k with
  | 0 => .int
  | 1 => .int
  | 2 => .int
  | _ => .int
theorem nm_5 : ∀ a, a < 4 → ∀ b, b < 4 → a ≠ b → (T_5 a).2.1 ≠ (T_5 b).2.1 := by decide +kernel
theorem tyok_5 : ∀ k, k < 4 → parseFieldDescriptor (T_5 k).2.2.1 = some (ty_5 k) := by decide +kernel
def T_6 : u_T := fun k => match k with
  | 0 => ("PartitionedProcedureStore$Table", "values", "[J", true)
  | _ => ("PartitionedProcedureStore$Table", "cells", "[I", true)
def ty_6 : Nat → FieldType := fun k => match k with
  | 0 => (.array .long)
  | _ => (.array .int)
theorem nm_6 : ∀ a, a < 2 → ∀ b, b < 2 → a ≠ b → (T_6 a).2.1 ≠ (T_6 b).2.1 := by decide +kernel
theorem tyok_6 : ∀ k, k < 2 → parseFieldDescriptor (T_6 k).2.2.1 = some (ty_6 k) := by decide +kernel
def T_7 : u_T := fun k => match k with
  | 0 => ("PartitionedProcedureStore$Task", "number", "I", true)
  | 1 => ("PartitionedProcedureStore$Task", "client", "I", true)
  | 2 => ("PartitionedProcedureStore$Task", "procedure", "LPartitionedProcedureStore$Procedure;", true)
  | 3 => ("PartitionedProcedureStore$Task", "a", "I", true)
  | 4 => ("PartitionedProcedureStore$Task", "b", "I", true)
  | _ => ("PartitionedProcedureStore$Task", "c", "I", true)
def ty_7 : Nat → FieldType := fun k => match k with
  | 0 => .int
  | 1 => .int
  | 2 => (.object "PartitionedProcedureStore$Procedure")
  | 3 => .int
  | 4 => .int
  | _ => .int
theorem nm_7 : ∀ a, a < 6 → ∀ b, b < 6 → a ≠ b → (T_7 a).2.1 ≠ (T_7 b).2.1 := by decide +kernel
theorem tyok_7 : ∀ k, k < 6 → parseFieldDescriptor (T_7 k).2.2.1 = some (ty_7 k) := by decide +kernel
def T_8 : u_T := fun k => match k with
  | 0 => ("java/util/ArrayList", "elementData", "[Ljava/lang/Object;", false)
  | 1 => ("java/util/ArrayList", "size", "I", false)
  | _ => ("java/util/AbstractList", "modCount", "I", false)
def ty_8 : Nat → FieldType := fun k => match k with
  | 0 => (.array (.object "java/lang/Object"))
  | 1 => .int
  | _ => .int
theorem nm_8 : ∀ a, a < 3 → ∀ b, b < 3 → a ≠ b → (T_8 a).2.1 ≠ (T_8 b).2.1 := by decide +kernel
theorem tyok_8 : ∀ k, k < 3 → parseFieldDescriptor (T_8 k).2.2.1 = some (ty_8 k) := by decide +kernel
def T_9 : u_T := fun k => match k with
  | 0 => ("PartitionedProcedureStoreModel", "sites", "I", true)
  | 1 => ("PartitionedProcedureStoreModel", "there", "[Z", true)
  | 2 => ("PartitionedProcedureStoreModel", "held", "[I", true)
  | 3 => ("PartitionedProcedureStoreModel", "baseThere", "[Z", true)
  | 4 => ("PartitionedProcedureStoreModel", "baseHeld", "[I", true)
  | 5 => ("PartitionedProcedureStoreModel", "oldThere", "[Z", true)
  | 6 => ("PartitionedProcedureStoreModel", "oldHeld", "[I", true)
  | 7 => ("PartitionedProcedureStoreModel", "deployed", "[Z", true)
  | 8 => ("PartitionedProcedureStoreModel", "multi", "[Z", true)
  | 9 => ("PartitionedProcedureStoreModel", "statements", "[I", true)
  | 10 => ("PartitionedProcedureStoreModel", "op", "[I", true)
  | 11 => ("PartitionedProcedureStoreModel", "x", "[I", true)
  | 12 => ("PartitionedProcedureStoreModel", "y", "[I", true)
  | 13 => ("PartitionedProcedureStoreModel", "z", "[I", true)
  | 14 => ("PartitionedProcedureStoreModel", "drafting", "I", false)
  | 15 => ("PartitionedProcedureStoreModel", "last", "I", false)
  | 16 => ("PartitionedProcedureStoreModel", "procedure", "[I", true)
  | 17 => ("PartitionedProcedureStoreModel", "arguments", "[I", true)
  | 18 => ("PartitionedProcedureStoreModel", "done", "[Z", true)
  | 19 => ("PartitionedProcedureStoreModel", "came", "[I", true)
  | 20 => ("PartitionedProcedureStoreModel", "fault", "[I", true)
  | 21 => ("PartitionedProcedureStoreModel", "outs", "[I", true)
  | 22 => ("PartitionedProcedureStoreModel", "out", "[I", true)
  | 23 => ("PartitionedProcedureStoreModel", "durable", "I", false)
  | 24 => ("PartitionedProcedureStoreModel", "complete", "I", false)
  | 25 => ("PartitionedProcedureStoreModel", "underWay", "I", false)
  | 26 => ("PartitionedProcedureStoreModel", "left", "[I", true)
  | 27 => ("PartitionedProcedureStoreModel", "state", "[I", true)
  | 28 => ("PartitionedProcedureStoreModel", "command", "[I", true)
  | 29 => ("PartitionedProcedureStoreModel", "shownOuts", "[I", true)
  | 30 => ("PartitionedProcedureStoreModel", "shownOut", "[I", true)
  | 31 => ("PartitionedProcedureStoreModel", "shownFault", "[I", true)
  | _ => ("PartitionedProcedureStoreModel", "register", "[I", true)
def ty_9 : Nat → FieldType := fun k => match k with
  | 0 => .int
  | 1 => (.array .boolean)
  | 2 => (.array .int)
  | 3 => (.array .boolean)
  | 4 => (.array .int)
  | 5 => (.array .boolean)
  | 6 => (.array .int)
  | 7 => (.array .boolean)
  | 8 => (.array .boolean)
  | 9 => (.array .int)
  | 10 => (.array .int)
  | 11 => (.array .int)
  | 12 => (.array .int)
  | 13 => (.array .int)
  | 14 => .int
  | 15 => .int
  | 16 => (.array .int)
  | 17 => (.array .int)
  | 18 => (.array .boolean)
  | 19 => (.array .int)
  | 20 => (.array .int)
  | 21 => (.array .int)
  | 22 => (.array .int)
  | 23 => .int
  | 24 => .int
  | 25 => .int
  | 26 => (.array .int)
  | 27 => (.array .int)
  | 28 => (.array .int)
  | 29 => (.array .int)
  | 30 => (.array .int)
  | 31 => (.array .int)
  | _ => (.array .int)
theorem nm_9 : ∀ a, a < 33 → ∀ b, b < 33 → a ≠ b → (T_9 a).2.1 ≠ (T_9 b).2.1 := by decide +kernel
theorem tyok_9 : ∀ k, k < 33 → parseFieldDescriptor (T_9 k).2.2.1 = some (ty_9 k) := by decide +kernel
abbrev R_S : String := "PartitionedProcedureStore"
abbrev R_C : String := "PartitionedProcedureStore$Client"
abbrev R_P : String := "PartitionedProcedureStore$Procedure"
abbrev R_R : String := "PartitionedProcedureStore$Runner"
abbrev R_Q : String := "PartitionedProcedureStore$Site"
abbrev R_T : String := "PartitionedProcedureStore$Statement"
abbrev R_B : String := "PartitionedProcedureStore$Table"
abbrev R_K : String := "PartitionedProcedureStore$Task"
abbrev R_A : String := "java/util/ArrayList"
abbrev R_M : String := "PartitionedProcedureStoreModel"
abbrev R_L : String := "PartitionedProcedureStoreLaw"
abbrev R_Ab : String := "java/util/AbstractList"
abbrev R_Ac : String := "java/util/AbstractCollection"
abbrev R_Ar : String := "java/util/Arrays"
abbrev R_Ma : String := "java/lang/Math"
abbrev R_As : String := "jdk/internal/util/ArraysSupport"
abbrev R_Oj : String := "java/util/Objects"
abbrev R_Pc : String := "jdk/internal/util/Preconditions"
abbrev R_Ob : String := "java/lang/Object"
def classes : List vw_C := [("PartitionedProcedureStore", T_0, 13), ("PartitionedProcedureStore$Client", T_1, 7), ("PartitionedProcedureStore$Procedure", T_2, 3), ("PartitionedProcedureStore$Runner", T_3, 8), ("PartitionedProcedureStore$Site", T_4, 4), ("PartitionedProcedureStore$Statement", T_5, 4), ("PartitionedProcedureStore$Table", T_6, 2), ("PartitionedProcedureStore$Task", T_7, 6), ("java/util/ArrayList", T_8, 3), ("PartitionedProcedureStoreModel", T_9, 33)]
set_option maxRecDepth 20000 in
theorem hc_0 : classes[0]? = some ("PartitionedProcedureStore", T_0, 13) := rfl
set_option maxRecDepth 20000 in
theorem hc_1 : classes[1]? = some ("PartitionedProcedureStore$Client", T_1, 7) := rfl
set_option maxRecDepth 20000 in
theorem hc_2 : classes[2]? = some ("PartitionedProcedureStore$Procedure", T_2, 3) := rfl
set_option maxRecDepth 20000 in
theorem hc_3 : classes[3]? = some ("PartitionedProcedureStore$Runner", T_3, 8) := rfl
set_option maxRecDepth 20000 in
theorem hc_4 : classes[4]? = some ("PartitionedProcedureStore$Site", T_4, 4) := rfl
set_option maxRecDepth 20000 in
theorem hc_5 : classes[5]? = some ("PartitionedProcedureStore$Statement", T_5, 4) := rfl
set_option maxRecDepth 20000 in
theorem hc_6 : classes[6]? = some ("PartitionedProcedureStore$Table", T_6, 2) := rfl
set_option maxRecDepth 20000 in
theorem hc_7 : classes[7]? = some ("PartitionedProcedureStore$Task", T_7, 6) := rfl
set_option maxRecDepth 20000 in
theorem hc_8 : classes[8]? = some ("java/util/ArrayList", T_8, 3) := rfl
set_option maxRecDepth 20000 in
theorem hc_9 : classes[9]? = some ("PartitionedProcedureStoreModel", T_9, 33) := rfl
def aT : List FieldType := [.int, .long, .boolean, .object "java/lang/Object", .object "PartitionedProcedureStore$Procedure", .object "PartitionedProcedureStore$Client", .object "PartitionedProcedureStore$Site"]
def TBL : List Cond := lw_tbl.filter goodWord
def nestW : List Cond := [(Cond.methodLinkNest "PartitionedProcedureStore" 76 ⟨"PartitionedProcedureStore$Procedure", "<init>", "()V"⟩ "PartitionedProcedureStore"), (Cond.methodLinkNest "PartitionedProcedureStore" 77 ⟨"PartitionedProcedureStore$Client", "<init>", "()V"⟩ "PartitionedProcedureStore"), (Cond.methodLinkNest "PartitionedProcedureStore" 84 ⟨"PartitionedProcedureStore$Site", "<init>", "()V"⟩ "PartitionedProcedureStore"), (Cond.methodLinkNest "PartitionedProcedureStore$Runner" 144 ⟨"PartitionedProcedureStore", "isWithin", "(II)Z"⟩ "PartitionedProcedureStore"), (Cond.methodLinkNest "PartitionedProcedureStore$Client" 46 ⟨"PartitionedProcedureStore", "isWithin", "(II)Z"⟩ "PartitionedProcedureStore"), (Cond.castable "PartitionedProcedureStore$Statement" "PartitionedProcedureStore$Statement"), (Cond.castable "PartitionedProcedureStore$Task" "PartitionedProcedureStore$Task"), (Cond.declares ⟨"java/lang/Object", "getClass", "()Ljava/lang/Class;"⟩), (Cond.castable "PartitionedProcedureStore" "java/lang/Object"), (Cond.castable "PartitionedProcedureStore$Table" "java/lang/Object"), (Cond.castable "PartitionedProcedureStore$Runner" "java/lang/Object"), (Cond.castable "PartitionedProcedureStore$Procedure" "java/lang/Object"), (Cond.castable "PartitionedProcedureStore$Client" "java/lang/Object"), (Cond.castable "PartitionedProcedureStore$Site" "java/lang/Object"), (Cond.castable "PartitionedProcedureStoreModel" "java/lang/Object"), (Cond.castable "PartitionedProcedureStore$Statement" "java/lang/Object"), (Cond.castable "PartitionedProcedureStore$Task" "java/lang/Object")]
def nestOk (w : Cond) : Bool := match w with
  | .fieldLinkNest .. => true
  | .methodLinkNest .. => true
  | .castable .. => true
  | .declares .. => true
  | _ => false
set_option maxRecDepth 20000 in
theorem nestW_ok : ∀ w ∈ nestW, nestOk w = true := by decide +kernel
set_option maxRecDepth 20000 in
theorem nestW_tab : ∀ w ∈ nestW, w.onTables = true := by decide +kernel
set_option maxRecDepth 20000 in
theorem nestW_in : ∀ w ∈ nestW, w ∈ lw_tbl := by decide +kernel
theorem NW_getClass : Cond.declares ⟨"java/lang/Object", "getClass", "()Ljava/lang/Class;"⟩ ∈ nestW := by decide +kernel
set_option maxRecDepth 20000 in
theorem tb0 {w : Cond} (j : Nat) (h : tables_1_1[j]? = some w) (hg : goodWord w = true) : w ∈ TBL := List.mem_filter.mpr ⟨List.mem_append_right _ (List.mem_append_left _ (List.mem_of_getElem? h)), hg⟩
set_option maxRecDepth 20000 in
theorem tb1 {w : Cond} (j : Nat) (h : tables_1_2[j]? = some w) (hg : goodWord w = true) : w ∈ TBL := List.mem_filter.mpr ⟨List.mem_append_right _ (List.mem_append_right _ (List.mem_append_left _ (List.mem_of_getElem? h))), hg⟩
set_option maxRecDepth 20000 in
theorem tb2 {w : Cond} (j : Nat) (h : tables_1_3[j]? = some w) (hg : goodWord w = true) : w ∈ TBL := List.mem_filter.mpr ⟨List.mem_append_right _ (List.mem_append_right _ (List.mem_append_right _ (List.mem_append_left _ (List.mem_of_getElem? h)))), hg⟩
set_option maxRecDepth 20000 in
theorem tb3 {w : Cond} (j : Nat) (h : tables_1_4[j]? = some w) (hg : goodWord w = true) : w ∈ TBL := List.mem_filter.mpr ⟨List.mem_append_right _ (List.mem_append_right _ (List.mem_append_right _ (List.mem_append_right _ (List.mem_of_getElem? h)))), hg⟩
set_option maxRecDepth 20000 in
theorem tbS {w : Cond} (j : Nat) (h : (k2_sels lw_privs)[j]? = some w) (hg : goodWord w = true) : w ∈ TBL := List.mem_filter.mpr ⟨List.mem_append_left _ (List.mem_of_getElem? h), hg⟩
theorem TBL_lw {w : Cond} (h : w ∈ TBL) : w ∈ lw_tbl := (List.mem_filter.mp h).1
theorem TBL_good {w : Cond} (h : w ∈ TBL) : (w.onTables && w.keeps) = true ∨ ∃ ty, w = .arrayClass ty := good_of_word (List.mem_filter.mp h).2
theorem gd_big {big : List Cond} (hb : ∀ w ∈ TBL, w ∈ big) {ws : List Cond} (h : ∀ w ∈ ws, w ∈ TBL) : GoodIn big ws := fun w hw => ⟨hb w (h w hw), TBL_good (h w hw)⟩
theorem gd_of {ws : List Cond} (h : ∀ w ∈ ws, w ∈ TBL) : GoodIn TBL ws := gd_big (fun _ h => h) h
set_option maxRecDepth 20000 in
theorem in_cons {a : Cond} {ws : List Cond} (ha : a ∈ TBL) (h : ∀ w ∈ ws, w ∈ TBL) : ∀ w ∈ a :: ws, w ∈ TBL := fun w hw => (List.mem_cons.mp hw).elim (fun g => g ▸ ha) (h w)
set_option maxRecDepth 20000 in
theorem in_all : ∀ w ∈ TBL, w ∈ TBL := fun _ h => h
theorem gd_in {y : MethodName} {b : ByteArray} {n : Nat} {r : Option FieldType} (h : Cond.code y b n r ∈ TBL) : GoodIn TBL (Cond.code y b n r :: TBL) := gd_of (in_cons h in_all)
theorem gd_V {own C : String} {i : Nat} {y : MethodName} {b : ByteArray} {n : Nat} {r : Option FieldType} (h1 : Cond.methodLink own i y ∈ TBL) (h2 : Cond.instanceMethod y ∈ TBL) (h3 : Cond.selects C y y ∈ TBL) (h4 : Cond.initialized C ∈ TBL) (h : Cond.code y b n r ∈ TBL) : GoodIn TBL (wsV own i C y (Cond.code y b n r :: TBL)) := gd_of (in_cons h1 (in_cons h2 (in_cons h3 (in_cons h4 (in_cons h in_all)))))
theorem gd_S {own : String} {i : Nat} {y : MethodName} {b : ByteArray} {n : Nat} {r : Option FieldType} (h1 : Cond.methodLink own i y ∈ TBL) (h2 : Cond.static y ∈ TBL) (h4 : Cond.initialized own ∈ TBL) (h : Cond.code y b n r ∈ TBL) : GoodIn TBL (wsS own i y (Cond.code y b n r :: TBL)) := gd_of (in_cons h1 (in_cons h2 (in_cons h4 (in_cons h in_all))))
theorem gd_S2 {own : String} {i : Nat} {y : MethodName} {b : ByteArray} {n : Nat} {r : Option FieldType} (h1 : Cond.methodLink own i y ∈ TBL) (h2 : Cond.static y ∈ TBL) (h4 : Cond.initialized y.cls ∈ TBL) (h : Cond.code y b n r ∈ TBL) : GoodIn TBL (va_wsS own i y (Cond.code y b n r :: TBL)) := gd_of (in_cons h1 (in_cons h2 (in_cons h4 (in_cons h in_all))))
set_option maxRecDepth 20000 in
theorem in_nil : ∀ w ∈ ([] : List Cond), w ∈ TBL := fun _ h => absurd h List.not_mem_nil
set_option maxRecDepth 20000 in
theorem in_0 : ∀ w ∈ u_ws "PartitionedProcedureStore" T_0 13, w ∈ TBL := (in_cons (tb0 212 rfl rfl) (in_cons (tb0 214 rfl rfl) (in_cons (tb0 216 rfl rfl) (in_cons (tb0 218 rfl rfl) (in_cons (tb0 220 rfl rfl) (in_cons (tb0 222 rfl rfl) (in_cons (tb0 224 rfl rfl) (in_cons (tb0 226 rfl rfl) (in_cons (tb0 228 rfl rfl) (in_cons (tb0 230 rfl rfl) (in_cons (tb0 232 rfl rfl) (in_cons (tb0 234 rfl rfl) (in_cons (tb0 236 rfl rfl) in_nil)))))))))))))
set_option maxRecDepth 20000 in
theorem in_1 : ∀ w ∈ u_ws "PartitionedProcedureStore$Client" T_1 7, w ∈ TBL := (in_cons (tb0 158 rfl rfl) (in_cons (tb0 160 rfl rfl) (in_cons (tb0 162 rfl rfl) (in_cons (tb0 164 rfl rfl) (in_cons (tb0 166 rfl rfl) (in_cons (tb0 168 rfl rfl) (in_cons (tb0 170 rfl rfl) in_nil)))))))
set_option maxRecDepth 20000 in
theorem in_2 : ∀ w ∈ u_ws "PartitionedProcedureStore$Procedure" T_2 3, w ∈ TBL := (in_cons (tb0 138 rfl rfl) (in_cons (tb0 140 rfl rfl) (in_cons (tb0 142 rfl rfl) in_nil)))
set_option maxRecDepth 20000 in
theorem in_3 : ∀ w ∈ u_ws "PartitionedProcedureStore$Runner" T_3 8, w ∈ TBL := (in_cons (tb0 106 rfl rfl) (in_cons (tb0 108 rfl rfl) (in_cons (tb0 110 rfl rfl) (in_cons (tb0 112 rfl rfl) (in_cons (tb0 114 rfl rfl) (in_cons (tb0 116 rfl rfl) (in_cons (tb0 118 rfl rfl) (in_cons (tb0 120 rfl rfl) in_nil))))))))
set_option maxRecDepth 20000 in
theorem in_4 : ∀ w ∈ u_ws "PartitionedProcedureStore$Site" T_4 4, w ∈ TBL := (in_cons (tb0 190 rfl rfl) (in_cons (tb0 192 rfl rfl) (in_cons (tb0 194 rfl rfl) (in_cons (tb0 196 rfl rfl) in_nil))))
set_option maxRecDepth 20000 in
theorem in_5 : ∀ w ∈ u_ws "PartitionedProcedureStore$Statement" T_5 4, w ∈ TBL := (in_cons (tb1 41 rfl rfl) (in_cons (tb1 43 rfl rfl) (in_cons (tb1 45 rfl rfl) (in_cons (tb1 47 rfl rfl) in_nil))))
set_option maxRecDepth 20000 in
theorem in_6 : ∀ w ∈ u_ws "PartitionedProcedureStore$Table" T_6 2, w ∈ TBL := (in_cons (tb0 73 rfl rfl) (in_cons (tb0 75 rfl rfl) in_nil))
set_option maxRecDepth 20000 in
theorem in_7 : ∀ w ∈ u_ws "PartitionedProcedureStore$Task" T_7 6, w ∈ TBL := (in_cons (tb1 150 rfl rfl) (in_cons (tb1 152 rfl rfl) (in_cons (tb1 154 rfl rfl) (in_cons (tb1 156 rfl rfl) (in_cons (tb1 158 rfl rfl) (in_cons (tb1 160 rfl rfl) in_nil))))))
set_option maxRecDepth 20000 in
theorem in_8 : ∀ w ∈ u_ws "java/util/ArrayList" T_8 3, w ∈ TBL := (in_cons (tb0 50 rfl rfl) (in_cons (tb0 52 rfl rfl) (in_cons (tb0 54 rfl rfl) in_nil)))
set_option maxRecDepth 20000 in
theorem in_9 : ∀ w ∈ u_ws "PartitionedProcedureStoreModel" T_9 33, w ∈ TBL := (in_cons (tb2 190 rfl rfl) (in_cons (tb2 192 rfl rfl) (in_cons (tb2 194 rfl rfl) (in_cons (tb2 196 rfl rfl) (in_cons (tb2 198 rfl rfl) (in_cons (tb2 200 rfl rfl) (in_cons (tb2 202 rfl rfl) (in_cons (tb2 204 rfl rfl) (in_cons (tb2 206 rfl rfl) (in_cons (tb2 208 rfl rfl) (in_cons (tb2 210 rfl rfl) (in_cons (tb2 212 rfl rfl) (in_cons (tb2 214 rfl rfl) (in_cons (tb2 216 rfl rfl) (in_cons (tb2 218 rfl rfl) (in_cons (tb2 220 rfl rfl) (in_cons (tb2 222 rfl rfl) (in_cons (tb2 224 rfl rfl) (in_cons (tb2 226 rfl rfl) (in_cons (tb2 228 rfl rfl) (in_cons (tb2 230 rfl rfl) (in_cons (tb2 232 rfl rfl) (in_cons (tb2 234 rfl rfl) (in_cons (tb2 236 rfl rfl) (in_cons (tb2 238 rfl rfl) (in_cons (tb3 0 rfl rfl) (in_cons (tb3 2 rfl rfl) (in_cons (tb3 4 rfl rfl) (in_cons (tb3 6 rfl rfl) (in_cons (tb3 8 rfl rfl) (in_cons (tb3 10 rfl rfl) (in_cons (tb3 12 rfl rfl) (in_cons (tb3 14 rfl rfl) in_nil)))))))))))))))))))))))))))))))))
end
section
/-! the world by roles: a role (k, i) holds nothing, or a cell: its address and what it is -/
abbrev wE : Type := Nat → Nat → Option (Nat × va_E)
def w2 (E : wE) (k i : Nat) (x : Option (Nat × va_E)) : wE := fun k' i' => if k' = k ∧ i' = i then x else E k' i'
theorem w2_s {E : wE} {k i : Nat} {x : Option (Nat × va_E)} : w2 E k i x k i = x := by simp [w2]
theorem w2_k {E : wE} {k i k' i' : Nat} {x : Option (Nat × va_E)} (h : k' ≠ k) : w2 E k i x k' i' = E k' i' := by simp [w2, h]
theorem w2_i {E : wE} {k i k' i' : Nat} {x : Option (Nat × va_E)} (h : i' ≠ i) : w2 E k i x k' i' = E k' i' := by simp [w2, h]
theorem w2_w2 {E : wE} {k i : Nat} {x y : Option (Nat × va_E)} : w2 (w2 E k i x) k i y = w2 E k i y := by
  funext a b
  by_cases h : a = k ∧ b = i
  · simp [w2, h]
  · simp [w2, h]
theorem w2_self {E : wE} {k i : Nat} {x : Option (Nat × va_E)} (h : E k i = x) : w2 E k i x = E := by
  funext a b
  by_cases g : a = k ∧ b = i
  · simp [w2, g, h]
  · simp [w2, g]
def wr (D : va_G) (cl : List vw_C) (A : Nat → Prop) (E : wE) (H : Heap) : Prop := ∃ ws : va_W, va_P D cl ws H ∧ va_D A ws ∧ (∀ k i x, E k i = some x → ∃ q : Nat, ws[q]? = some x) ∧ ∀ k i k' i' x y, E k i = some x → E k' i' = some y → x.1 = y.1 → k = k' ∧ i = i'
section WR
variable {D : va_G} {cl : List vw_C} {A : Nat → Prop} {E : wE} {H H1 : Heap} {ws : va_W}
theorem wr_set (hin : ∀ k i x, E k i = some x → ∃ q : Nat, ws[q]? = some x) (hj : ∀ k i k' i' x y, E k i = some x → E k' i' = some y → x.1 = y.1 → k = k' ∧ i = i') {k i q a : Nat} {e0 e1 : va_E} (hE : E k i = some (a, e0)) (hq : ws[q]? = some (a, e0)) (hP : va_P D cl (ws.set q (a, e1)) H1) (hD : va_D A (ws.set q (a, e1))) : wr D cl A (w2 E k i (some (a, e1))) H1 := by
  have hl : q < ws.length := (List.getElem?_eq_some_iff.mp hq).1
  refine ⟨_, hP, hD, fun k' i' x hx => ?_, fun k1 i1 k2 i2 x y hx hy hxy => ?_⟩
  · by_cases h : k' = k ∧ i' = i
    · rw [h.1, h.2, w2_s] at hx
      cases hx
      exact ⟨q, by simp [hl]⟩
    · have hx' : E k' i' = some x := by simpa [w2, h] using hx
      obtain ⟨j, hw⟩ := hin _ _ _ hx'
      refine ⟨j, ?_⟩
      rw [List.getElem?_set_ne, hw]
      intro hjq
      rw [← hjq, hq] at hw
      cases hw
      exact h (hj _ _ _ _ _ _ hx' hE rfl)
  · by_cases h1 : k1 = k ∧ i1 = i
    · rw [h1.1, h1.2, w2_s] at hx
      cases hx
      by_cases h2 : k2 = k ∧ i2 = i
      · exact ⟨h1.1.trans h2.1.symm, h1.2.trans h2.2.symm⟩
      · have hy' : E k2 i2 = some y := by simpa [w2, h2] using hy
        rw [h1.1, h1.2]
        exact hj _ _ _ _ _ _ hE hy' hxy
    · have hx' : E k1 i1 = some x := by simpa [w2, h1] using hx
      by_cases h2 : k2 = k ∧ i2 = i
      · rw [h2.1, h2.2, w2_s] at hy
        cases hy
        rw [h2.1, h2.2]
        exact hj _ _ _ _ _ _ hx' hE hxy
      · have hy' : E k2 i2 = some y := by simpa [w2, h2] using hy
        exact hj _ _ _ _ _ _ hx' hy' hxy
theorem wr_push (hin : ∀ k i x, E k i = some x → ∃ q : Nat, ws[q]? = some x) (hj : ∀ k i k' i' x y, E k i = some x → E k' i' = some y → x.1 = y.1 → k = k' ∧ i = i') {k i a : Nat} {e1 : va_E} (hP : va_P D cl (ws ++ [(a, e1)]) H1) (hD : va_D A (ws ++ [(a, e1)])) : wr D cl A (w2 E k i (some (a, e1))) H1 := by
  have hlast : (ws ++ [(a, e1)])[ws.length]? = some (a, e1) := by simp
  have hmem : ∀ k i x, E k i = some x → ∃ q : Nat, q < ws.length ∧ (ws ++ [(a, e1)])[q]? = some x := fun k i x hx => by
    obtain ⟨q, hq⟩ := hin k i x hx
    have hl := (List.getElem?_eq_some_iff.mp hq).1
    exact ⟨q, hl, by rw [List.getElem?_append_left hl]; exact hq⟩
  have hne : ∀ k i x, E k i = some x → x.1 ≠ a := fun k i x hx hxa => by
    obtain ⟨q, hl, hq⟩ := hmem k i x hx
    have := hD.1 q ws.length x (a, e1) hq hlast hxa
    omega
  refine ⟨_, hP, hD, fun k' i' x hx => ?_, fun k1 i1 k2 i2 x y hx hy hxy => ?_⟩
  · by_cases h : k' = k ∧ i' = i
    · rw [h.1, h.2, w2_s] at hx
      cases hx
      exact ⟨_, hlast⟩
    · have hx' : E k' i' = some x := by simpa [w2, h] using hx
      obtain ⟨q, -, hq⟩ := hmem _ _ _ hx'
      exact ⟨q, hq⟩
  · by_cases h1 : k1 = k ∧ i1 = i
    · by_cases h2 : k2 = k ∧ i2 = i
      · exact ⟨h1.1.trans h2.1.symm, h1.2.trans h2.2.symm⟩
      · rw [h1.1, h1.2, w2_s] at hx
        cases hx
        have hy' : E k2 i2 = some y := by simpa [w2, h2] using hy
        exact absurd hxy.symm (hne _ _ _ hy')
    · have hx' : E k1 i1 = some x := by simpa [w2, h1] using hx
      by_cases h2 : k2 = k ∧ i2 = i
      · rw [h2.1, h2.2, w2_s] at hy
        cases hy
        exact absurd hxy (hne _ _ _ hx')
      · have hy' : E k2 i2 = some y := by simpa [w2, h2] using hy
        exact hj _ _ _ _ _ _ hx' hy' hxy
/-- a role that is given up -/
theorem wr_drop {k i : Nat} (h : wr D cl A E H) : wr D cl A (w2 E k i none) H := by
  obtain ⟨ws, hP, hD, hin, hj⟩ := h
  have hx' : ∀ {k' i' x}, w2 E k i none k' i' = some x → E k' i' = some x := fun {k' i' x} hx => by
    by_cases h : k' = k ∧ i' = i
    · rw [h.1, h.2, w2_s] at hx
      cases hx
    · simpa [w2, h] using hx
  exact ⟨ws, hP, hD, fun k' i' x hx => hin _ _ _ (hx' hx), fun k1 i1 k2 i2 x y hx hy hxy => hj _ _ _ _ _ _ (hx' hx) (hx' hy) hxy⟩
theorem wr_nil : wr D cl A (fun _ _ => none) H := ⟨[], fun _ _ h => by simp at h, ⟨fun i j p q h => by simp at h, fun k q h => by simp at h⟩, fun _ _ _ h => (by cases h), fun _ _ _ _ _ _ h => (by cases h)⟩
theorem wr.inA {k i : Nat} {x : Nat × va_E} (h : wr D cl A E H) (hx : E k i = some x) : A x.1 := by
  obtain ⟨ws, hP, hD, hin, hj⟩ := h
  obtain ⟨q, hq⟩ := hin _ _ _ hx
  exact hD.2 q x hq
theorem wr.lt {k i : Nat} {x : Nat × va_E} (h : wr D cl A E H) (hx : E k i = some x) : x.1 < H.size := by
  obtain ⟨ws, hP, hD, hin, hj⟩ := h
  obtain ⟨q, hq⟩ := hin _ _ _ hx
  exact (hP q x hq).lt
theorem wr.P {k i : Nat} {x : Nat × va_E} (h : wr D cl A E H) (hx : E k i = some x) : va_P D cl [x] H := by
  obtain ⟨ws, hP, hD, hin, hj⟩ := h
  obtain ⟨q, hq⟩ := hin _ _ _ hx
  intro j y hy
  have hz : j < 1 := (List.getElem?_eq_some_iff.mp hy).1
  rw [show j = 0 by omega] at hy
  cases hy
  exact hP q x hq
/-- two roles with one address are one -/
theorem wr.one {k i k' i' a : Nat} {e e' : va_E} (h : wr D cl A E H) (h1 : E k i = some (a, e)) (h2 : E k' i' = some (a, e')) : k = k' ∧ i = i' := by
  obtain ⟨ws, hP, hD, hin, hj⟩ := h
  exact hj _ _ _ _ _ _ h1 h2 rfl
/-- an object's class, for calls and casts -/
theorem wr_recv {s : State} {tys : List (ClassId × FieldType)} {k i a ci : Nat} {q : vw_C} {fs : List Value} (hK : va_K D cl tys s) (h : wr D cl A E H) (hc : cl[ci]? = some q) (he : E k i = some (a, .inr (ci, fs))) : ∃ cell : Cell, H[a]? = some cell ∧ cell.vm.isStatics = false ∧ s.vm.findClass q.1 = some cell.cls := va_recv hK (h.P he) hc (q0 := 0) rfl
end WR
section WRR
variable {p : Program} {l : Launch} {e : Env} {R : Room} {s : State} {m : MethodId} {args : Array Value} {below : List Frame} {meth : Method} {c : Code} {H : Heap} {locs : List Loc} {cells slots : Nat} {Q : State → Prop}
variable {cc : ByteArray} {pc : Nat} {ls : Array Slot} {rest : List Value} {D : va_G} {cl : List vw_C} {A : Nat → Prop} {a : Nat} {tys : List (ClassId × FieldType)} {Ew : wE} {H0 : Heap}
theorem wr_get (hexec : p.tables.exec = Jvm.exec) (hb : c.code = cc) {own ref C : String} {T : u_T} {N ci index : Nat} {Ts : List Cond} (hts : ∀ w ∈ Ts, w.before args s = true) (hin : ∀ w ∈ u_ws C T N, w ∈ Ts) (hown : s.vm.findClass own = some m.cls) (hK : va_K D cl tys s) (hw : wr D cl A Ew H) {fs : List Value} (k_q0 i_q0 : Nat) (he : Ew k_q0 i_q0 = some (a, .inr (ci, fs))) (hc : cl[ci]? = some (C, T, N)) (k : Nat) (hk : k < N) (hlink : (Cond.fieldLink own index ref (T k).2.1 (T k).2.2.1).before args s = true) (hsame : ∀ x, s.fieldFound? (T k).1 (T k).2.1 (T k).2.2.1 = some x → s.fieldFound? ref (T k).2.1 (T k).2.2.1 = some x) {v : Value} (hv : fs[k]? = some v) (hdg : decode cc pc = .ok (.getfield index, 3)) (kk : W p l e R s m args below meth c H locs cells slots Q (F0 m (pc + 3) ls (v :: rest))) :
    W p l e R s m args below meth c H locs cells slots Q (F0 m pc ls (.ref a :: rest)) := by
  obtain ⟨ws, hP, hD, hIn, hJn⟩ := hw
  obtain ⟨q0, he'⟩ := hIn _ _ _ he
  exact va_get hexec hb hts hin hown hK hP q0 he' hc k hk hlink hsame hv hdg (kk)
theorem wr_getN (hexec : p.tables.exec = Jvm.exec) (hb : c.code = cc) {own ref C host : String} {T : u_T} {N ci index : Nat} {Ts : List Cond} (hts : ∀ w ∈ Ts, w.before args s = true) (hin : ∀ w ∈ u_ws C T N, w ∈ Ts) (hown : s.vm.findClass own = some m.cls) (hK : va_K D cl tys s) (hw : wr D cl A Ew H) {fs : List Value} (k_q0 i_q0 : Nat) (he : Ew k_q0 i_q0 = some (a, .inr (ci, fs))) (hc : cl[ci]? = some (C, T, N)) (k : Nat) (hk : k < N) (hlink : (Cond.fieldLinkNest own index ref (T k).2.1 (T k).2.2.1 host).before args s = true) (hsame : ∀ x, s.fieldFound? (T k).1 (T k).2.1 (T k).2.2.1 = some x → s.fieldFound? ref (T k).2.1 (T k).2.2.1 = some x) {v : Value} (hv : fs[k]? = some v) (hdg : decode cc pc = .ok (.getfield index, 3)) (kk : W p l e R s m args below meth c H locs cells slots Q (F0 m (pc + 3) ls (v :: rest))) :
    W p l e R s m args below meth c H locs cells slots Q (F0 m pc ls (.ref a :: rest)) := by
  obtain ⟨ws, hP, hD, hIn, hJn⟩ := hw
  obtain ⟨q0, he'⟩ := hIn _ _ _ he
  exact va_getN hexec hb hts hin hown hK hP q0 he' hc k hk hlink hsame hv hdg (kk)
theorem wr_put (hexec : p.tables.exec = Jvm.exec) (hb : c.code = cc) {own ref C : String} {T : u_T} {N ci index : Nat} {Ts : List Cond} (hts : ∀ w ∈ Ts, w.before args s = true) (hin : ∀ w ∈ u_ws C T N, w ∈ Ts) (ty0 : Nat → FieldType) (hty : ∀ k, k < N → parseFieldDescriptor (T k).2.2.1 = some (ty0 k)) (hnm : ∀ a, a < N → ∀ b, b < N → a ≠ b → (T a).2.1 ≠ (T b).2.1) (hown : s.vm.findClass own = some m.cls) (hK : va_K D cl tys s) (hw : wr D cl A Ew H) (hS0 : va_S A H0 H locs) {fs : List Value} (k_q0 i_q0 : Nat) (he : Ew k_q0 i_q0 = some (a, .inr (ci, fs))) (hc : cl[ci]? = some (C, T, N)) (k : Nat) (hk : k < N) (hlink : (Cond.fieldLink own index ref (T k).2.1 (T k).2.2.1).before args s = true) (hsame : ∀ x, s.fieldFound? (T k).1 (T k).2.1 (T k).2.2.1 = some x → s.fieldFound? ref (T k).2.1 (T k).2.2.1 = some x) (hfin : (T k).2.2.2 = false) {ty : FieldType} {v : Value} (hd : parseFieldDescriptor (T k).2.2.1 = some ty) (hn : narrow ty v = v) (hfit : fits ty v = true) (hl : k < fs.length) (hdg : decode cc pc = .ok (.putfield index, 3)) (kk : ∀ (H1 : Heap) (locs1 : List Loc), wr D cl A (w2 Ew k_q0 i_q0 (some (a, .inr (ci, fs.set k v)))) H1 → va_S A H0 H1 locs1 → W p l e R s m args below meth c H1 locs1 cells slots Q (F0 m (pc + 3) ls rest)) :
    W p l e R s m args below meth c H locs cells slots Q (F0 m pc ls (v :: .ref a :: rest)) := by
  obtain ⟨ws, hP, hD, hIn, hJn⟩ := hw
  obtain ⟨q0, he'⟩ := hIn _ _ _ he
  exact va_put hexec hb hts hin ty0 hty hnm hown hK hP hD hS0 q0 he' hc k hk hlink hsame hfin hd hn hfit hl hdg (fun H1 locs1 hP1 hD1 hS1 => kk H1 locs1 (wr_set hIn hJn he he' hP1 hD1) hS1)
theorem wr_putN (hexec : p.tables.exec = Jvm.exec) (hb : c.code = cc) {own ref C host : String} {T : u_T} {N ci index : Nat} {Ts : List Cond} (hts : ∀ w ∈ Ts, w.before args s = true) (hin : ∀ w ∈ u_ws C T N, w ∈ Ts) (ty0 : Nat → FieldType) (hty : ∀ k, k < N → parseFieldDescriptor (T k).2.2.1 = some (ty0 k)) (hnm : ∀ a, a < N → ∀ b, b < N → a ≠ b → (T a).2.1 ≠ (T b).2.1) (hown : s.vm.findClass own = some m.cls) (hK : va_K D cl tys s) (hw : wr D cl A Ew H) (hS0 : va_S A H0 H locs) {fs : List Value} (k_q0 i_q0 : Nat) (he : Ew k_q0 i_q0 = some (a, .inr (ci, fs))) (hc : cl[ci]? = some (C, T, N)) (k : Nat) (hk : k < N) (hlink : (Cond.fieldLinkNest own index ref (T k).2.1 (T k).2.2.1 host).before args s = true) (hsame : ∀ x, s.fieldFound? (T k).1 (T k).2.1 (T k).2.2.1 = some x → s.fieldFound? ref (T k).2.1 (T k).2.2.1 = some x) (hfin : (T k).2.2.2 = false) {ty : FieldType} {v : Value} (hd : parseFieldDescriptor (T k).2.2.1 = some ty) (hn : narrow ty v = v) (hfit : fits ty v = true) (hl : k < fs.length) (hdg : decode cc pc = .ok (.putfield index, 3)) (kk : ∀ (H1 : Heap) (locs1 : List Loc), wr D cl A (w2 Ew k_q0 i_q0 (some (a, .inr (ci, fs.set k v)))) H1 → va_S A H0 H1 locs1 → W p l e R s m args below meth c H1 locs1 cells slots Q (F0 m (pc + 3) ls rest)) :
    W p l e R s m args below meth c H locs cells slots Q (F0 m pc ls (v :: .ref a :: rest)) := by
  obtain ⟨ws, hP, hD, hIn, hJn⟩ := hw
  obtain ⟨q0, he'⟩ := hIn _ _ _ he
  exact va_putN hexec hb hts hin ty0 hty hnm hown hK hP hD hS0 q0 he' hc k hk hlink hsame hfin hd hn hfit hl hdg (fun H1 locs1 hP1 hD1 hS1 => kk H1 locs1 (wr_set hIn hJn he he' hP1 hD1) hS1)
theorem wr_putF (hexec : p.tables.exec = Jvm.exec) (hb : c.code = cc) {own ref C : String} {T : u_T} {N ci index : Nat} {Ts : List Cond} (hts : ∀ w ∈ Ts, w.before args s = true) (hin : ∀ w ∈ u_ws C T N, w ∈ Ts) (ty0 : Nat → FieldType) (hty : ∀ k, k < N → parseFieldDescriptor (T k).2.2.1 = some (ty0 k)) (hnm : ∀ a, a < N → ∀ b, b < N → a ≠ b → (T a).2.1 ≠ (T b).2.1) (hown : s.vm.findClass own = some m.cls) (hK : va_K D cl tys s) (hw : wr D cl A Ew H) (hS0 : va_S A H0 H locs) {fs : List Value} (k_q0 i_q0 : Nat) (he : Ew k_q0 i_q0 = some (a, .inr (ci, fs))) (hc : cl[ci]? = some (C, T, N)) (k : Nat) (hk : k < N) (hlink : (Cond.fieldLink own index ref (T k).2.1 (T k).2.2.1).before args s = true) (hsame : ∀ x, s.fieldFound? (T k).1 (T k).2.1 (T k).2.2.1 = some x → s.fieldFound? ref (T k).2.1 (T k).2.2.1 = some x) (hfin : (T k).2.2.2 = true) (hin2 : meth.name = "<init>") (hdecl : (T k).1 = own) {ty : FieldType} {v : Value} (hd : parseFieldDescriptor (T k).2.2.1 = some ty) (hn : narrow ty v = v) (hfit : fits ty v = true) (hl : k < fs.length) (hdg : decode cc pc = .ok (.putfield index, 3)) (kk : ∀ (H1 : Heap) (locs1 : List Loc), wr D cl A (w2 Ew k_q0 i_q0 (some (a, .inr (ci, fs.set k v)))) H1 → va_S A H0 H1 locs1 → W p l e R s m args below meth c H1 locs1 cells slots Q (F0 m (pc + 3) ls rest)) :
    W p l e R s m args below meth c H locs cells slots Q (F0 m pc ls (v :: .ref a :: rest)) := by
  obtain ⟨ws, hP, hD, hIn, hJn⟩ := hw
  obtain ⟨q0, he'⟩ := hIn _ _ _ he
  exact va_putF hexec hb hts hin ty0 hty hnm hown hK hP hD hS0 q0 he' hc k hk hlink hsame hfin hin2 hdecl hd hn hfit hl hdg (fun H1 locs1 hP1 hD1 hS1 => kk H1 locs1 (wr_set hIn hJn he he' hP1 hD1) hS1)
theorem wr_iald (hexec : p.tables.exec = Jvm.exec) (hb : c.code = cc) (hK : va_K D cl tys s) (hw : wr D cl A Ew H) (t0 : Nat) {cA : ClassId} {n : Nat} {f : Nat → Int32} (k_q0 i_q0 : Nat) (ha : Ew k_q0 i_q0 = some (a, .inl (cA, n, .inl f))) (ht : tys[t0]? = some (cA, .int)) {i : Int32} (hin : vp_in i n) (hdg : decode cc pc = .ok (.iaload, 1)) (kk : W p l e R s m args below meth c H locs cells slots Q (F0 m (pc + 1) ls (.int (f i.toNatClampNeg) :: rest))) :
    W p l e R s m args below meth c H locs cells slots Q (F0 m pc ls (.int i :: .ref a :: rest)) := by
  obtain ⟨ws, hP, hD, hIn, hJn⟩ := hw
  obtain ⟨q0, ha'⟩ := hIn _ _ _ ha
  exact va_iald hexec hb hK hP q0 t0 ha' ht hin hdg (kk)
theorem wr_bald (hexec : p.tables.exec = Jvm.exec) (hb : c.code = cc) (hK : va_K D cl tys s) (hw : wr D cl A Ew H) (t0 : Nat) {cA : ClassId} {n : Nat} {f : Nat → Int32} (k_q0 i_q0 : Nat) (ha : Ew k_q0 i_q0 = some (a, .inl (cA, n, .inl f))) (ht : tys[t0]? = some (cA, .byte)) {i : Int32} (hin : vp_in i n) (hdg : decode cc pc = .ok (.baload, 1)) (kk : W p l e R s m args below meth c H locs cells slots Q (F0 m (pc + 1) ls (.int (f i.toNatClampNeg) :: rest))) :
    W p l e R s m args below meth c H locs cells slots Q (F0 m pc ls (.int i :: .ref a :: rest)) := by
  obtain ⟨ws, hP, hD, hIn, hJn⟩ := hw
  obtain ⟨q0, ha'⟩ := hIn _ _ _ ha
  exact va_bald hexec hb hK hP q0 t0 ha' ht hin hdg (kk)
theorem wr_zald (hexec : p.tables.exec = Jvm.exec) (hb : c.code = cc) (hK : va_K D cl tys s) (hw : wr D cl A Ew H) (t0 : Nat) {cA : ClassId} {n : Nat} {f : Nat → Int32} (k_q0 i_q0 : Nat) (ha : Ew k_q0 i_q0 = some (a, .inl (cA, n, .inl f))) (ht : tys[t0]? = some (cA, .boolean)) {i : Int32} (hin : vp_in i n) (hdg : decode cc pc = .ok (.baload, 1)) (kk : W p l e R s m args below meth c H locs cells slots Q (F0 m (pc + 1) ls (.int (f i.toNatClampNeg) :: rest))) :
    W p l e R s m args below meth c H locs cells slots Q (F0 m pc ls (.int i :: .ref a :: rest)) := by
  obtain ⟨ws, hP, hD, hIn, hJn⟩ := hw
  obtain ⟨q0, ha'⟩ := hIn _ _ _ ha
  exact va_zald hexec hb hK hP q0 t0 ha' ht hin hdg (kk)
theorem wr_lald (hexec : p.tables.exec = Jvm.exec) (hb : c.code = cc) (hK : va_K D cl tys s) (hw : wr D cl A Ew H) (t0 : Nat) {cA : ClassId} {n : Nat} {f : Nat → Int64} (k_q0 i_q0 : Nat) (ha : Ew k_q0 i_q0 = some (a, .inl (cA, n, .inr (.inl f)))) (ht : tys[t0]? = some (cA, .long)) {i : Int32} (hin : vp_in i n) (hdg : decode cc pc = .ok (.laload, 1)) (kk : W p l e R s m args below meth c H locs cells slots Q (F0 m (pc + 1) ls (.long (f i.toNatClampNeg) :: rest))) :
    W p l e R s m args below meth c H locs cells slots Q (F0 m pc ls (.int i :: .ref a :: rest)) := by
  obtain ⟨ws, hP, hD, hIn, hJn⟩ := hw
  obtain ⟨q0, ha'⟩ := hIn _ _ _ ha
  exact va_lald hexec hb hK hP q0 t0 ha' ht hin hdg (kk)
theorem wr_iast (hexec : p.tables.exec = Jvm.exec) (hb : c.code = cc) (hK : va_K D cl tys s) (hw : wr D cl A Ew H) (hS : va_S A H0 H locs) (t0 : Nat) {cA : ClassId} {n : Nat} {f : Nat → Int32} (k_q0 i_q0 : Nat) (ha : Ew k_q0 i_q0 = some (a, .inl (cA, n, .inl f))) (ht : tys[t0]? = some (cA, .int)) {i : Int32} {x : Int32} (hin : vp_in i n) (hdg : decode cc pc = .ok (.iastore, 1)) (kk : ∀ (H1 : Heap) (locs1 : List Loc), wr D cl A (w2 Ew k_q0 i_q0 (some (a, .inl (cA, n, .inl (upd f i.toNatClampNeg x))))) H1 → va_S A H0 H1 locs1 → W p l e R s m args below meth c H1 locs1 cells slots Q (F0 m (pc + 1) ls rest)) :
    W p l e R s m args below meth c H locs cells slots Q (F0 m pc ls (.int x :: .int i :: .ref a :: rest)) := by
  obtain ⟨ws, hP, hD, hIn, hJn⟩ := hw
  obtain ⟨q0, ha'⟩ := hIn _ _ _ ha
  exact va_iast hexec hb hK hP hD hS q0 t0 ha' ht hin hdg (fun H1 locs1 hP1 hD1 hS1 => kk H1 locs1 (wr_set hIn hJn ha ha' hP1 hD1) hS1)
theorem wr_bast (hexec : p.tables.exec = Jvm.exec) (hb : c.code = cc) (hK : va_K D cl tys s) (hw : wr D cl A Ew H) (hS : va_S A H0 H locs) (t0 : Nat) {cA : ClassId} {n : Nat} {f : Nat → Int32} (k_q0 i_q0 : Nat) (ha : Ew k_q0 i_q0 = some (a, .inl (cA, n, .inl f))) (ht : tys[t0]? = some (cA, .byte)) {i : Int32} {x : Int32} (hin : vp_in i n) (hdg : decode cc pc = .ok (.bastore, 1)) (kk : ∀ (H1 : Heap) (locs1 : List Loc), wr D cl A (w2 Ew k_q0 i_q0 (some (a, .inl (cA, n, .inl (upd f i.toNatClampNeg (vp_nar .byte x)))))) H1 → va_S A H0 H1 locs1 → W p l e R s m args below meth c H1 locs1 cells slots Q (F0 m (pc + 1) ls rest)) :
    W p l e R s m args below meth c H locs cells slots Q (F0 m pc ls (.int x :: .int i :: .ref a :: rest)) := by
  obtain ⟨ws, hP, hD, hIn, hJn⟩ := hw
  obtain ⟨q0, ha'⟩ := hIn _ _ _ ha
  exact va_bast hexec hb hK hP hD hS q0 t0 ha' ht hin hdg (fun H1 locs1 hP1 hD1 hS1 => kk H1 locs1 (wr_set hIn hJn ha ha' hP1 hD1) hS1)
theorem wr_zast (hexec : p.tables.exec = Jvm.exec) (hb : c.code = cc) (hK : va_K D cl tys s) (hw : wr D cl A Ew H) (hS : va_S A H0 H locs) (t0 : Nat) {cA : ClassId} {n : Nat} {f : Nat → Int32} (k_q0 i_q0 : Nat) (ha : Ew k_q0 i_q0 = some (a, .inl (cA, n, .inl f))) (ht : tys[t0]? = some (cA, .boolean)) {i : Int32} {x : Int32} (hin : vp_in i n) (hdg : decode cc pc = .ok (.bastore, 1)) (kk : ∀ (H1 : Heap) (locs1 : List Loc), wr D cl A (w2 Ew k_q0 i_q0 (some (a, .inl (cA, n, .inl (upd f i.toNatClampNeg (vp_nar .boolean x)))))) H1 → va_S A H0 H1 locs1 → W p l e R s m args below meth c H1 locs1 cells slots Q (F0 m (pc + 1) ls rest)) :
    W p l e R s m args below meth c H locs cells slots Q (F0 m pc ls (.int x :: .int i :: .ref a :: rest)) := by
  obtain ⟨ws, hP, hD, hIn, hJn⟩ := hw
  obtain ⟨q0, ha'⟩ := hIn _ _ _ ha
  exact va_zast hexec hb hK hP hD hS q0 t0 ha' ht hin hdg (fun H1 locs1 hP1 hD1 hS1 => kk H1 locs1 (wr_set hIn hJn ha ha' hP1 hD1) hS1)
theorem wr_last (hexec : p.tables.exec = Jvm.exec) (hb : c.code = cc) (hK : va_K D cl tys s) (hw : wr D cl A Ew H) (hS : va_S A H0 H locs) (t0 : Nat) {cA : ClassId} {n : Nat} {f : Nat → Int64} (k_q0 i_q0 : Nat) (ha : Ew k_q0 i_q0 = some (a, .inl (cA, n, .inr (.inl f)))) (ht : tys[t0]? = some (cA, .long)) {i : Int32} {x : Int64} (hin : vp_in i n) (hdg : decode cc pc = .ok (.lastore, 1)) (kk : ∀ (H1 : Heap) (locs1 : List Loc), wr D cl A (w2 Ew k_q0 i_q0 (some (a, .inl (cA, n, .inr (.inl (vp_updL f i.toNatClampNeg x)))))) H1 → va_S A H0 H1 locs1 → W p l e R s m args below meth c H1 locs1 cells slots Q (F0 m (pc + 1) ls rest)) :
    W p l e R s m args below meth c H locs cells slots Q (F0 m pc ls (.long x :: .int i :: .ref a :: rest)) := by
  obtain ⟨ws, hP, hD, hIn, hJn⟩ := hw
  obtain ⟨q0, ha'⟩ := hIn _ _ _ ha
  exact va_last hexec hb hK hP hD hS q0 t0 ha' ht hin hdg (fun H1 locs1 hP1 hD1 hS1 => kk H1 locs1 (wr_set hIn hJn ha ha' hP1 hD1) hS1)
theorem wr_alen (hexec : p.tables.exec = Jvm.exec) (hb : c.code = cc) (hK : va_K D cl tys s) (hw : wr D cl A Ew H) (t0 : Nat) {cA : ClassId} {x : vp_A} (k_q0 i_q0 : Nat) (ha : Ew k_q0 i_q0 = some (a, .inl (cA, x))) {ty : FieldType} (ht : tys[t0]? = some (cA, ty)) {v : Int32} (hv : Int32.ofNat x.1 = v) (hdg : decode cc pc = .ok (.arraylength, 1)) (kk : W p l e R s m args below meth c H locs cells slots Q (F0 m (pc + 1) ls (.int v :: rest))) :
    W p l e R s m args below meth c H locs cells slots Q (F0 m pc ls (.ref a :: rest)) := by
  obtain ⟨ws, hP, hD, hIn, hJn⟩ := hw
  obtain ⟨q0, ha'⟩ := hIn _ _ _ ha
  exact va_alen hexec hb hK hP q0 t0 ha' ht hv hdg (kk)
theorem wr_aldq (hexec : p.tables.exec = Jvm.exec) (hb : c.code = cc) (hK : va_K D cl tys s) (hw : wr D cl A Ew H) (t0 : Nat) {cA : ClassId} {C : String} {n : Nat} {f : Nat → Option Nat} (k_q0 i_q0 : Nat) (ha : Ew k_q0 i_q0 = some (a, .inl (cA, n, .inr (.inr (.inr (.inr f)))))) (ht : tys[t0]? = some (cA, .object C)) {i : Int32} (hin : vp_in i n) (hdg : decode cc pc = .ok (.aaload, 1)) (kk : W p l e R s m args below meth c H locs cells slots Q (F0 m (pc + 1) ls (va_rf (f i.toNatClampNeg) :: rest))) :
    W p l e R s m args below meth c H locs cells slots Q (F0 m pc ls (.int i :: .ref a :: rest)) := by
  obtain ⟨ws, hP, hD, hIn, hJn⟩ := hw
  obtain ⟨q0, ha'⟩ := hIn _ _ _ ha
  exact va_aldq hexec hb hK hP q0 t0 ha' ht hin hdg (kk)
theorem wr_astq (hexec : p.tables.exec = Jvm.exec) (hb : c.code = cc) (hK : va_K D cl tys s) (hw : wr D cl A Ew H) (hS : va_S A H0 H locs) (t0 ci : Nat) {cA : ClassId} {r : vw_C} {n v : Nat} {vs : List Value} {f : Nat → Option Nat} (k_q0 i_q0 : Nat) (ha : Ew k_q0 i_q0 = some (a, .inl (cA, n, .inr (.inr (.inr (.inr f)))))) (ht : tys[t0]? = some (cA, .object r.1)) (k_qk i_qk : Nat) (hv : Ew k_qk i_qk = some (v, .inr (ci, vs))) (hc : cl[ci]? = some r) {i : Int32} (hin : vp_in i n) (hdg : decode cc pc = .ok (.aastore, 1)) (kk : ∀ (H1 : Heap) (locs1 : List Loc), wr D cl A (w2 Ew k_q0 i_q0 (some (a, .inl (cA, n, .inr (.inr (.inr (.inr (va_up f i.toNatClampNeg (some v))))))))) H1 → va_S A H0 H1 locs1 → W p l e R s m args below meth c H1 locs1 cells slots Q (F0 m (pc + 1) ls rest)) :
    W p l e R s m args below meth c H locs cells slots Q (F0 m pc ls (.ref v :: .int i :: .ref a :: rest)) := by
  obtain ⟨ws, hP, hD, hIn, hJn⟩ := hw
  obtain ⟨q0, ha'⟩ := hIn _ _ _ ha
  obtain ⟨qk, hv'⟩ := hIn _ _ _ hv
  exact va_astq hexec hb hK hP hD hS q0 t0 qk ci ha' ht hv' hc hin hdg (fun H1 locs1 hP1 hD1 hS1 => kk H1 locs1 (wr_set hIn hJn ha ha' hP1 hD1) hS1)
theorem wr_astqO (hexec : p.tables.exec = Jvm.exec) (hb : c.code = cc) (hK : va_K D cl tys s) (hw : wr D cl A Ew H) (hS : va_S A H0 H locs) (t0 ci : Nat) {E : String} {cA : ClassId} {r : vw_C} {n v : Nat} {vs : List Value} {f : Nat → Option Nat} (k_q0 i_q0 : Nat) (ha : Ew k_q0 i_q0 = some (a, .inl (cA, n, .inr (.inr (.inr (.inr f)))))) (ht : tys[t0]? = some (cA, .object E)) (hca : va_Nw (.castable r.1 E) s) (k_qk i_qk : Nat) (hv : Ew k_qk i_qk = some (v, .inr (ci, vs))) (hc : cl[ci]? = some r) {i : Int32} (hin : vp_in i n) (hdg : decode cc pc = .ok (.aastore, 1)) (kk : ∀ (H1 : Heap) (locs1 : List Loc), wr D cl A (w2 Ew k_q0 i_q0 (some (a, .inl (cA, n, .inr (.inr (.inr (.inr (va_up f i.toNatClampNeg (some v))))))))) H1 → va_S A H0 H1 locs1 → W p l e R s m args below meth c H1 locs1 cells slots Q (F0 m (pc + 1) ls rest)) :
    W p l e R s m args below meth c H locs cells slots Q (F0 m pc ls (.ref v :: .int i :: .ref a :: rest)) := by
  obtain ⟨ws, hP, hD, hIn, hJn⟩ := hw
  obtain ⟨q0, ha'⟩ := hIn _ _ _ ha
  obtain ⟨qk, hv'⟩ := hIn _ _ _ hv
  exact va_astqO hexec hb hK hP hD hS q0 t0 qk ci ha' ht hca hv' hc hin hdg (fun H1 locs1 hP1 hD1 hS1 => kk H1 locs1 (wr_set hIn hJn ha ha' hP1 hD1) hS1)
theorem wr_astqN (hexec : p.tables.exec = Jvm.exec) (hb : c.code = cc) (hK : va_K D cl tys s) (hw : wr D cl A Ew H) (hS : va_S A H0 H locs) (t0 : Nat) {cA : ClassId} {C : String} {n : Nat} {f : Nat → Option Nat} (k_q0 i_q0 : Nat) (ha : Ew k_q0 i_q0 = some (a, .inl (cA, n, .inr (.inr (.inr (.inr f)))))) (ht : tys[t0]? = some (cA, .object C)) {i : Int32} (hin : vp_in i n) (hdg : decode cc pc = .ok (.aastore, 1)) (kk : ∀ (H1 : Heap) (locs1 : List Loc), wr D cl A (w2 Ew k_q0 i_q0 (some (a, .inl (cA, n, .inr (.inr (.inr (.inr (va_up f i.toNatClampNeg none)))))))) H1 → va_S A H0 H1 locs1 → W p l e R s m args below meth c H1 locs1 cells slots Q (F0 m (pc + 1) ls rest)) :
    W p l e R s m args below meth c H locs cells slots Q (F0 m pc ls (.null :: .int i :: .ref a :: rest)) := by
  obtain ⟨ws, hP, hD, hIn, hJn⟩ := hw
  obtain ⟨q0, ha'⟩ := hIn _ _ _ ha
  exact va_astqN hexec hb hK hP hD hS q0 t0 ha' ht hin hdg (fun H1 locs1 hP1 hD1 hS1 => kk H1 locs1 (wr_set hIn hJn ha ha' hP1 hD1) hS1)
theorem wr_newa0 (hexec : p.tables.exec = Jvm.exec) (hb : c.code = cc) {atype : ArrayType} (harr : (Cond.arrayClass (newarray.typeOf atype)).before args s = true) {ty : FieldType} (hty : newarray.typeOf atype = ty) (hK : va_K D cl tys s) (hw : wr D cl A Ew H) (hS : va_S A H0 H locs) (hA : ∀ q, H0.size ≤ q → A q) {n : Int32} {N' : Nat} {a0 : vp_A} (ha : ∀ cA : ClassId, vp_cell cA a0 = arrV cA N' (fun _ => defaultValue ty)) (hn : ¬ n < 0) (hN : n.toNatClampNeg = N') (hbytes : N' * componentBytes ty ≤ 536870912) (hcells : cells + 1 ≤ R.cells) (hslots : slots + N' ≤ R.slots) (hdg : decode cc pc = .ok (.newarray atype, 2)) (kn jn : Nat) (kk : ∀ (q : Nat) (cA : ClassId) (H1 : Heap), va_K D cl (tys ++ [(cA, ty)]) s → wr D cl A (w2 Ew kn jn (some (q, .inl (cA, a0)))) H1 → va_S A H0 H1 locs → W p l e R s m args below meth c H1 locs (cells + 1) (slots + N') Q (F0 m (pc + 2) ls (.ref q :: rest))) :
    W p l e R s m args below meth c H locs cells slots Q (F0 m pc ls (.int n :: rest)) := by
  obtain ⟨ws, hP, hD, hIn, hJn⟩ := hw
  exact va_newa hexec hb harr hty hK hP hD hS hA ha hn hN hbytes hcells hslots hdg (fun q cA H1 hK1 hP1 hD1 hS1 => kk q cA H1 hK1 (wr_push hIn hJn hP1 hD1) hS1)
theorem wr_newq0 (hexec : p.tables.exec = Jvm.exec) (hb : c.code = cc) {own C : String} {index : Nat} (hown : s.vm.findClass own = some m.cls) (hclink : (Cond.classLink own index C).before args s = true) (hover : va_AO C s) (hK : va_K D cl tys s) (hw : wr D cl A Ew H) (hS : va_S A H0 H locs) (hA : ∀ q, H0.size ≤ q → A q) {n : Int32} {N' : Nat} (hn : ¬ n < 0) (hN : n.toNatClampNeg = N') (hbytes : N' * 4 ≤ 536870912) (hcells : cells + 1 ≤ R.cells) (hslots : slots + N' ≤ R.slots) (hdg : decode cc pc = .ok (.anewarray index, 3)) (kn jn : Nat) (kk : ∀ (q : Nat) (cA : ClassId) (H1 : Heap), va_K D cl (tys ++ [(cA, .object C)]) s → wr D cl A (w2 Ew kn jn (some (q, .inl (cA, N', .inr (.inr (.inr (.inr (fun _ => none)))))))) H1 → va_S A H0 H1 locs → W p l e R s m args below meth c H1 locs (cells + 1) (slots + N') Q (F0 m (pc + 3) ls (.ref q :: rest))) :
    W p l e R s m args below meth c H locs cells slots Q (F0 m pc ls (.int n :: rest)) := by
  obtain ⟨ws, hP, hD, hIn, hJn⟩ := hw
  exact va_newq hexec hb hown hclink hover hK hP hD hS hA hn hN hbytes hcells hslots hdg (fun q cA H1 hK1 hP1 hD1 hS1 => kk q cA H1 hK1 (wr_push hIn hJn hP1 hD1) hS1)
theorem wr_new {c0 : Code} (hexec : p.tables.exec = Jvm.exec) (hb : c0.code = cc) {own C : String} {T : u_T} {N ci index : Nat} {Ts : List Cond} (hts : ∀ w ∈ Ts, w.before args s = true) (hin : ∀ w ∈ u_ws C T N, w ∈ Ts) (ty : Nat → FieldType) (hty : ∀ k, k < N → parseFieldDescriptor (T k).2.2.1 = some (ty k)) (hown : s.vm.findClass own = some m.cls) (hcl : (Cond.classLink own index C).before args s = true) (hinst : (Cond.instantiable C N).before args s = true) (hini : (Cond.initialized C).before args s = true) (hK : va_K D cl tys s) (hw : wr D cl A Ew H) (hS : va_S A H0 H locs) (hA : ∀ q, H0.size ≤ q → A q) (hc : cl[ci]? = some (C, T, N)) {fs : List Value} (hfs : ∀ j, j < N → defaultValue (ty j) = vp_V fs j) (hcells : cells + 1 ≤ R.cells) (hslots : slots + N ≤ R.slots) (hdg : decode cc pc = .ok (.new index, 3)) (kn jn : Nat) (kk : ∀ (q : Nat) (H1 : Heap), wr D cl A (w2 Ew kn jn (some (q, .inr (ci, fs)))) H1 → va_S A H0 H1 locs → W p l e R s m args below meth c0 H1 locs (cells + 1) (slots + N) Q (F0 m (pc + 3) ls (.ref q :: rest))) :
    W p l e R s m args below meth c0 H locs cells slots Q (F0 m pc ls rest) := by
  obtain ⟨ws, hP, hD, hIn, hJn⟩ := hw
  exact va_new hexec hb hts hin ty hty hown hcl hinst hini hK hP hD hS hA hc hfs hcells hslots hdg (fun q H1 hP1 hD1 hS1 => kk q H1 (wr_push hIn hJn hP1 hD1) hS1)
theorem wr_copyi {cc : ByteArray} (hexec : p.tables.exec = Jvm.exec) (hb : c.code = cc) (hml : c.maxLocals = ls.size) {own : String} {index : Nat} (hown : s.vm.findClass own = some m.cls) (hlink : (Cond.methodLink own index arraycopyName).before args s = true) (hnat : (Cond.native arraycopyName).before args s = true) (hstat : (Cond.static arraycopyName).before args s = true) (hini : (Cond.initialized "java/lang/System").before args s = true) (hK : va_K D cl tys s) (hw : wr D cl A Ew H) (hS : va_S A H0 H locs) (t0 t1 : Nat) {a0 : Nat} {c0 c1 : ClassId} {n0 n1 : Nat} {f g : Nat → Int32} {ty : FieldType} (k_q0 i_q0 : Nat) (ha0 : Ew k_q0 i_q0 = some (a0, .inl (c0, n0, .inl f))) (k_q1 i_q1 : Nat) (ha1 : Ew k_q1 i_q1 = some (a, .inl (c1, n1, .inl g))) (ht0 : tys[t0]? = some (c0, ty)) (ht1 : tys[t1]? = some (c1, ty)) (hprim : refKind ty = false) {sp dp n : Int32} (h1 : ¬ sp < 0) (h2 : ¬ dp < 0) (h3 : ¬ n < 0) (h4 : sp.toNatClampNeg + n.toNatClampNeg ≤ n0) (h5 : dp.toNatClampNeg + n.toNatClampNeg ≤ n1) (hfit : ∀ i, i < n.toNatClampNeg → fits ty (.int (f (sp.toNatClampNeg + i))) = true) (hframes : 1 ≤ R.frames) (hlocals : (rest.map fun v => v.category).sum + (nativeFrameWords "java/lang/System" "arraycopy" 5 + 11) ≤ R.locals) (hdg : decode cc pc = .ok (.invokestatic index, 3)) (kk : ∀ (H1 : Heap) (locs1 : List Loc), wr D cl A (w2 Ew k_q1 i_q1 (some (a, .inl (c1, n1, .inl (va_cpy f g sp.toNatClampNeg dp.toNatClampNeg n.toNatClampNeg))))) H1 → va_S A H0 H1 locs1 → W p l e R s m args below meth c H1 locs1 cells slots Q (F0 m (pc + 3) ls rest)) :
    W p l e R s m args below meth c H locs cells slots Q (F0 m pc ls (.int n :: .int dp :: .ref a :: .int sp :: .ref a0 :: rest)) := by
  obtain ⟨ws, hP, hD, hIn, hJn⟩ := hw
  obtain ⟨q0, ha0'⟩ := hIn _ _ _ ha0
  obtain ⟨q1, ha1'⟩ := hIn _ _ _ ha1
  exact va_copyi hexec hb hml hown hlink hnat hstat hini hK hP hD hS q0 q1 t0 t1 ha0' ha1' ht0 ht1 hprim h1 h2 h3 h4 h5 hfit hframes hlocals hdg (fun H1 locs1 hP1 hD1 hS1 => kk H1 locs1 (wr_set hIn hJn ha1 ha1' hP1 hD1) hS1)
theorem wr_copyl {cc : ByteArray} (hexec : p.tables.exec = Jvm.exec) (hb : c.code = cc) (hml : c.maxLocals = ls.size) {own : String} {index : Nat} (hown : s.vm.findClass own = some m.cls) (hlink : (Cond.methodLink own index arraycopyName).before args s = true) (hnat : (Cond.native arraycopyName).before args s = true) (hstat : (Cond.static arraycopyName).before args s = true) (hini : (Cond.initialized "java/lang/System").before args s = true) (hK : va_K D cl tys s) (hw : wr D cl A Ew H) (hS : va_S A H0 H locs) (t0 t1 : Nat) {a0 : Nat} {c0 c1 : ClassId} {n0 n1 : Nat} {f g : Nat → Int64} {ty : FieldType} (k_q0 i_q0 : Nat) (ha0 : Ew k_q0 i_q0 = some (a0, .inl (c0, n0, .inr (.inl f)))) (k_q1 i_q1 : Nat) (ha1 : Ew k_q1 i_q1 = some (a, .inl (c1, n1, .inr (.inl g)))) (ht0 : tys[t0]? = some (c0, ty)) (ht1 : tys[t1]? = some (c1, ty)) (hprim : refKind ty = false) {sp dp n : Int32} (h1 : ¬ sp < 0) (h2 : ¬ dp < 0) (h3 : ¬ n < 0) (h4 : sp.toNatClampNeg + n.toNatClampNeg ≤ n0) (h5 : dp.toNatClampNeg + n.toNatClampNeg ≤ n1) (hfit : ∀ i, i < n.toNatClampNeg → fits ty (.long (f (sp.toNatClampNeg + i))) = true) (hframes : 1 ≤ R.frames) (hlocals : (rest.map fun v => v.category).sum + (nativeFrameWords "java/lang/System" "arraycopy" 5 + 11) ≤ R.locals) (hdg : decode cc pc = .ok (.invokestatic index, 3)) (kk : ∀ (H1 : Heap) (locs1 : List Loc), wr D cl A (w2 Ew k_q1 i_q1 (some (a, .inl (c1, n1, .inr (.inl (va_cpy f g sp.toNatClampNeg dp.toNatClampNeg n.toNatClampNeg)))))) H1 → va_S A H0 H1 locs1 → W p l e R s m args below meth c H1 locs1 cells slots Q (F0 m (pc + 3) ls rest)) :
    W p l e R s m args below meth c H locs cells slots Q (F0 m pc ls (.int n :: .int dp :: .ref a :: .int sp :: .ref a0 :: rest)) := by
  obtain ⟨ws, hP, hD, hIn, hJn⟩ := hw
  obtain ⟨q0, ha0'⟩ := hIn _ _ _ ha0
  obtain ⟨q1, ha1'⟩ := hIn _ _ _ ha1
  exact va_copyl hexec hb hml hown hlink hnat hstat hini hK hP hD hS q0 q1 t0 t1 ha0' ha1' ht0 ht1 hprim h1 h2 h3 h4 h5 hfit hframes hlocals hdg (fun H1 locs1 hP1 hD1 hS1 => kk H1 locs1 (wr_set hIn hJn ha1 ha1' hP1 hD1) hS1)
theorem wr_copyq {cc : ByteArray} (hexec : p.tables.exec = Jvm.exec) (hb : c.code = cc) (hml : c.maxLocals = ls.size) {own : String} {index : Nat} (hown : s.vm.findClass own = some m.cls) (hlink : (Cond.methodLink own index arraycopyName).before args s = true) (hnat : (Cond.native arraycopyName).before args s = true) (hstat : (Cond.static arraycopyName).before args s = true) (hini : (Cond.initialized "java/lang/System").before args s = true) (hK : va_K D cl tys s) (hw : wr D cl A Ew H) (hS : va_S A H0 H locs) (t0 t1 : Nat) {a0 : Nat} {c0 c1 : ClassId} {n0 n1 : Nat} {f g : Nat → Option Nat} {E0 E1 C : String} (k_q0 i_q0 : Nat) (ha0 : Ew k_q0 i_q0 = some (a0, .inl (c0, n0, .inr (.inr (.inr (.inr f)))))) (k_q1 i_q1 : Nat) (ha1 : Ew k_q1 i_q1 = some (a, .inl (c1, n1, .inr (.inr (.inr (.inr g)))))) (ht0 : tys[t0]? = some (c0, .object E0)) (ht1 : tys[t1]? = some (c1, .object E1)) {sp dp n : Int32} (h1 : ¬ sp < 0) (h2 : ¬ dp < 0) (h3 : ¬ n < 0) (h4 : sp.toNatClampNeg + n.toNatClampNeg ≤ n0) (h5 : dp.toNatClampNeg + n.toNatClampNeg ≤ n1) (hel : ∀ i : Nat, i < n.toNatClampNeg → ∀ y : Nat, f (sp.toNatClampNeg + i) = some y → ∃ cellV : Cell, H[y]? = some cellV ∧ cellV.vm.isStatics = false ∧ s.vm.findClass C = some cellV.cls) (hasg : ∀ comp c0 : ClassId, s.vm.findClass E1 = some comp → s.vm.findClass C = some c0 → s.vm.assignable c0 comp = true) (hframes : 1 ≤ R.frames) (hlocals : (rest.map fun v => v.category).sum + (nativeFrameWords "java/lang/System" "arraycopy" 5 + 11) ≤ R.locals) (hdg : decode cc pc = .ok (.invokestatic index, 3)) (kk : ∀ (H1 : Heap) (locs1 : List Loc), wr D cl A (w2 Ew k_q1 i_q1 (some (a, .inl (c1, n1, .inr (.inr (.inr (.inr (va_cpy f g sp.toNatClampNeg dp.toNatClampNeg n.toNatClampNeg)))))))) H1 → va_S A H0 H1 locs1 → W p l e R s m args below meth c H1 locs1 cells slots Q (F0 m (pc + 3) ls rest)) :
    W p l e R s m args below meth c H locs cells slots Q (F0 m pc ls (.int n :: .int dp :: .ref a :: .int sp :: .ref a0 :: rest)) := by
  obtain ⟨ws, hP, hD, hIn, hJn⟩ := hw
  obtain ⟨q0, ha0'⟩ := hIn _ _ _ ha0
  obtain ⟨q1, ha1'⟩ := hIn _ _ _ ha1
  exact va_copyq hexec hb hml hown hlink hnat hstat hini hK hP hD hS q0 q1 t0 t1 ha0' ha1' ht0 ht1 h1 h2 h3 h4 h5 hel hasg hframes hlocals hdg (fun H1 locs1 hP1 hD1 hS1 => kk H1 locs1 (wr_set hIn hJn ha1 ha1' hP1 hD1) hS1)
end WRR
end
section
/-! abstract values: ints, longs, references to roles; abstract cells; the abstract heap -/
abbrev Ro : Type := Nat × Nat
abbrev AV : Type := Int32 ⊕ Int64 ⊕ Option Ro
abbrev AC : Type := (Nat → Int32) ⊕ (Nat → Int64) ⊕ (Nat → Option Ro)
abbrev AE : Type := (Nat × List AV) ⊕ (Nat × Nat × AC)
abbrev wM : Type := Ro → Option AE
abbrev vI (x : Int32) : AV := Sum.inl x
abbrev vL (x : Int64) : AV := Sum.inr (Sum.inl x)
abbrev vR (x : Option Ro) : AV := Sum.inr (Sum.inr x)
abbrev ob (ci : Nat) (fs : List AV) : AE := Sum.inl (ci, fs)
abbrev ai (t n : Nat) (f : Nat → Int32) : AE := Sum.inr (t, n, Sum.inl f)
abbrev al (t n : Nat) (f : Nat → Int64) : AE := Sum.inr (t, n, Sum.inr (Sum.inl f))
abbrev ar (t n : Nat) (f : Nat → Option Ro) : AE := Sum.inr (t, n, Sum.inr (Sum.inr f))
def up (M : wM) (r : Ro) (e : AE) : wM := fun q => if q = r then some e else M q
theorem up_s {M : wM} {r : Ro} {e : AE} : up M r e r = some e := by simp [up]
theorem up_n {M : wM} {r q : Ro} {e : AE} (h : q ≠ r) : up M r e q = M q := by simp [up, h]
theorem up_up {M : wM} {r : Ro} {e e' : AE} : up (up M r e) r e' = up M r e' := by
  funext q
  by_cases h : q = r <;> simp [up, h]
theorem up_id {M : wM} {r : Ro} {e : AE} (h : M r = some e) : up M r e = M := by
  funext q
  by_cases g : q = r
  · rw [g, up_s, h]
  · rw [up_n g]
theorem up_ex {M : wM} {r q : Ro} {e e' : AE} (h : q ≠ r) : up (up M r e) q e' = up (up M q e') r e := by
  funext z
  by_cases g : z = r
  · have : z ≠ q := fun k => h (k.symm.trans g)
    rw [up_n this, g, up_s, up_s]
  · by_cases g2 : z = q
    · rw [g2, up_s, up_n h, up_s]
    · rw [up_n g2, up_n g, up_n g, up_n g2]
def cv (ad : Ro → Nat) (v : AV) : Value := match v with
  | .inl x => .int x
  | .inr (.inl x) => .long x
  | .inr (.inr r) => va_rf (r.map ad)
def acat (v : AV) : Nat := match v with
  | .inl _ => 1
  | .inr (.inl _) => 2
  | .inr (.inr _) => 1
theorem cv_cat (ad : Ro → Nat) (v : AV) : (cv ad v).category = acat v := by
  rcases v with x | x | r
  · rfl
  · rfl
  · cases r <;> rfl
def cvA (ad : Ro → Nat) (f : AC) : (Nat → Int32) ⊕ (Nat → Int64) ⊕ (Nat → UInt32) ⊕ (Nat → UInt64) ⊕ (Nat → Option Nat) := match f with
  | .inl f => .inl f
  | .inr (.inl f) => .inr (.inl f)
  | .inr (.inr f) => .inr (.inr (.inr (.inr (fun j => (f j).map ad))))
def cvE (dA : Nat → ClassId) (ad : Ro → Nat) (e : AE) : va_E := match e with
  | .inl o => .inr (o.1, o.2.map (cv ad))
  | .inr a => .inl (dA a.1, a.2.1, cvA ad a.2.2)
def cW (dA : Nat → ClassId) (ad : Ro → Nat) (M : wM) : wE := fun k i => if k < 90 then (M (k, i)).map (fun e => (ad (k, i), cvE dA ad e)) else none
/-- a reference is to a role that is there -/
def lv1 (M : wM) (v : AV) : Prop := ∀ r, v = vR (some r) → M r ≠ none
def okE (M : wM) (e : AE) : Prop := match e with
  | .inl o => ∀ v ∈ o.2, lv1 M v
  | .inr a => a.1 < aT.length ∧ match a.2.2 with
    | .inl _ => True
    | .inr (.inl _) => True
    | .inr (.inr f) => ∀ j, lv1 M (vR (f j))
def eE : AE := ar 3 0 (fun _ => none)
def eM : AE := ai 99 0 (fun _ => 0)
def clM (M : wM) : Prop := ∀ r e, M r = some e → (okE M e ∧ r.1 < 90) ∨ (r = (90, 0) ∧ e = eE) ∨ (r = (91, 0) ∧ e = eM)
def wA (B : Nat) : Nat → Prop := fun q => B ≤ q
def WA (D : va_G) (dA : Nat → ClassId) (B : Nat) (zE : Nat × Nat) (ad : Ro → Nat) (M : wM) (H : Heap) : Prop := wr D classes (wA B) (cW dA ad M) H ∧ clM M ∧ (ad (90, 0) = zE.1 ∧ ad (91, 0) = zE.2) ∧ (M (90, 0) = some eE ∧ M (91, 0) = some eM)
def tysA (dA : Nat → ClassId) : List (ClassId × FieldType) := aT.mapIdx (fun t ty => (dA t, ty))
theorem tysA_at {dA : Nat → ClassId} {t : Nat} {ty : FieldType} (h : aT[t]? = some ty) : (tysA dA)[t]? = some (dA t, ty) := by
  unfold tysA
  rw [List.getElem?_mapIdx, h]
  rfl
def xt (M : wM) (ad ad' : Ro → Nat) : Prop := ∀ r, M r ≠ none → ad' r = ad r
def sb (M M' : wM) : Prop := ∀ r, M r ≠ none → M' r ≠ none
theorem sb_rf {M : wM} : sb M M := fun _ h => h
theorem sb_up {M M' : wM} {r : Ro} {e : AE} (h : sb M M') : sb M (up M' r e) := fun q hq => by
  by_cases g : q = r
  · rw [g, up_s]
    exact fun k => nomatch k
  · rw [up_n g]
    exact h q hq
theorem sb_up1 {M : wM} {r : Ro} {e : AE} : sb M (up M r e) := sb_up sb_rf
theorem sb_tr {M M1 M2 : wM} (h : sb M M1) (h1 : sb M1 M2) : sb M M2 := fun q hq => h1 q (h q hq)
theorem lv1_I {M : wM} {x : Int32} : lv1 M (vI x) := fun _ h => nomatch h
theorem lv1_L {M : wM} {x : Int64} : lv1 M (vL x) := fun _ h => nomatch h
theorem lv1_N {M : wM} : lv1 M (vR none) := fun _ h => nomatch h
theorem lv1_R {M : wM} {r : Ro} {e : AE} (h : M r = some e) : lv1 M (vR (some r)) := fun q hq => by
  cases hq
  rw [h]
  exact fun k => nomatch k
theorem lv1.sb {M M' : wM} {v : AV} (h : lv1 M v) (hs : sb M M') : lv1 M' v := fun r hr => hs r (h r hr)
theorem okE.sb {M M' : wM} {e : AE} (h : okE M e) (hs : sb M M') : okE M' e := by
  rcases e with x | ⟨t, n, f | f | f⟩
  · exact fun v hv => (h v hv).sb hs
  · exact h
  · exact h
  · exact ⟨h.1, fun j => (h.2 j).sb hs⟩
theorem clM.up {M : wM} {r : Ro} {e : AE} (h : clM M) (hr : r.1 < 90) (he : okE (up M r e) e) : clM (up M r e) := fun q x hq => by
  by_cases g : q = r
  · rw [g, up_s] at hq
    cases hq
    exact Or.inl ⟨he, g ▸ hr⟩
  · rw [up_n g] at hq
    rcases h q x hq with k | k
    · exact Or.inl ⟨k.1.sb sb_up1, k.2⟩
    · exact Or.inr k
theorem clM.ok {M : wM} {r : Ro} {e : AE} (h : clM M) (hM : M r = some e) (hr : r.1 < 90) : okE M e := by
  rcases h r e hM with k | k | k
  · exact k.1
  · rw [k.1] at hr
    exact absurd hr (by decide)
  · rw [k.1] at hr
    exact absurd hr (by decide)
theorem clM.okO {M : wM} {r : Ro} {ci : Nat} {fs : List AV} (h : clM M) (hM : M r = some (ob ci fs)) : okE M (ob ci fs) ∧ r.1 < 90 := by
  rcases h r _ hM with k | k | k
  · exact k
  · exact nomatch k.2
  · exact nomatch k.2
theorem cv_xt {M : wM} {ad ad' : Ro → Nat} (hx : xt M ad ad') {v : AV} (hv : lv1 M v) : cv ad' v = cv ad v := by
  rcases v with x | x | r
  · rfl
  · rfl
  · cases r with
    | none => rfl
    | some r => show va_rf (some (ad' r)) = va_rf (some (ad r)); rw [hx r (hv r rfl)]
theorem cvs_xt {M : wM} {ad ad' : Ro → Nat} (hx : xt M ad ad') {st : List AV} (hv : ∀ v ∈ st, lv1 M v) : st.map (cv ad') = st.map (cv ad) := List.map_congr_left (fun v h => cv_xt hx (hv v h))
theorem cvE_xt {dA : Nat → ClassId} {M : wM} {ad ad' : Ro → Nat} (hx : xt M ad ad') {e : AE} (h : okE M e) : cvE dA ad' e = cvE dA ad e := by
  rcases e with o | ⟨t, n, f | f | f⟩
  · show Sum.inr (o.1, o.2.map (cv ad')) = Sum.inr (o.1, o.2.map (cv ad))
    rw [cvs_xt hx h]
  · rfl
  · rfl
  · show Sum.inl (dA t, n, Sum.inr (Sum.inr (Sum.inr (Sum.inr (fun j => (f j).map ad'))))) = Sum.inl (dA t, n, Sum.inr (Sum.inr (Sum.inr (Sum.inr (fun j => (f j).map ad)))))
    have : (fun j => (f j).map ad') = fun j => (f j).map ad := funext fun j => by
      cases hj : f j with
      | none => rfl
      | some r => show some (ad' r) = some (ad r); rw [hx r (h.2 j r (by rw [hj]))]
    rw [this]
theorem cW_at {dA : Nat → ClassId} {ad : Ro → Nat} {M : wM} {r : Ro} {e : AE} (hr : r.1 < 90) (h : M r = some e) : cW dA ad M r.1 r.2 = some (ad r, cvE dA ad e) := by
  unfold cW
  rw [if_pos hr]
  show (M r).map _ = _
  rw [h]
  rfl
theorem cW_up {dA : Nat → ClassId} {ad : Ro → Nat} {M : wM} {r : Ro} {e : AE} (hr : r.1 < 90) : w2 (cW dA ad M) r.1 r.2 (some (ad r, cvE dA ad e)) = cW dA ad (up M r e) := by
  funext k i
  by_cases h : k = r.1 ∧ i = r.2
  · rw [h.1, h.2, w2_s, cW_at hr up_s]
  · have hn : (k, i) ≠ r := fun q => h ⟨congrArg Prod.fst q, congrArg Prod.snd q⟩
    simp [w2, h, cW, up_n hn]
/-- a new cell at q: the roles' addresses with one more -/
def adN (ad : Ro → Nat) (r : Ro) (q : Nat) : Ro → Nat := fun z => if z = r then q else ad z
theorem adN_xt {M : wM} {ad : Ro → Nat} {r : Ro} {q : Nat} (h : M r = none) : xt M ad (adN ad r q) := fun z hz => by
  unfold adN
  rw [if_neg (fun k : z = r => hz (by rw [k]; exact h))]
theorem adN_s {ad : Ro → Nat} {r : Ro} {q : Nat} : adN ad r q r = q := by simp [adN]
theorem cW_new {dA : Nat → ClassId} {ad : Ro → Nat} {M : wM} {r : Ro} {q : Nat} {e : AE} (hc : clM M) (hn : M r = none) (hr : r.1 < 90) : w2 (cW dA ad M) r.1 r.2 (some (q, cvE dA (adN ad r q) e)) = cW dA (adN ad r q) (up M r e) := by
  funext k i
  by_cases h : k = r.1 ∧ i = r.2
  · rw [h.1, h.2, w2_s, cW_at hr up_s, adN_s]
  · have hne : (k, i) ≠ r := fun q => h ⟨congrArg Prod.fst q, congrArg Prod.snd q⟩
    unfold w2 cW
    rw [if_neg h, up_n hne]
    by_cases hk : k < 90
    · rw [if_pos hk, if_pos hk]
      cases hm : M (k, i) with
      | none => rfl
      | some x =>
        show some (ad (k, i), cvE dA ad x) = some (adN ad r q (k, i), cvE dA (adN ad r q) x)
        rw [cvE_xt (adN_xt hn) (hc.ok hm hk), adN_xt hn (k, i) (by rw [hm]; exact fun z => nomatch z)]
    · rw [if_neg hk, if_neg hk]
def lvL (M : wM) (lv : List (Nat × AV)) : Prop := ∀ q ∈ lv, lv1 M q.2
def lvS (M : wM) (st : List AV) : Prop := ∀ v ∈ st, lv1 M v
theorem lvS.hd {M : wM} {v : AV} {st : List AV} (h : lvS M (v :: st)) : lv1 M v := h v List.mem_cons_self
theorem lvS.tl {M : wM} {v : AV} {st : List AV} (h : lvS M (v :: st)) : lvS M st := fun x hx => h x (List.mem_cons_of_mem _ hx)
theorem lvS.cn {M : wM} {v : AV} {st : List AV} (h : lvS M st) (hv : lv1 M v) : lvS M (v :: st) := fun x hx => by
  rcases List.mem_cons.mp hx with rfl | hx
  · exact hv
  · exact h x hx
theorem lvS.ni {M : wM} {x : Int32} {st : List AV} (h : lvS M st) : lvS M (vI x :: st) := h.cn lv1_I
theorem lvS.nl {M : wM} {x : Int64} {st : List AV} (h : lvS M st) : lvS M (vL x :: st) := h.cn lv1_L
theorem lvS.sb {M M' : wM} {st : List AV} (h : lvS M st) (hs : sb M M') : lvS M' st := fun v hv => (h v hv).sb hs
theorem lvL.sb {M M' : wM} {lv : List (Nat × AV)} (h : lvL M lv) (hs : sb M M') : lvL M' lv := fun v hv => (h v hv).sb hs
theorem lvS_nil {M : wM} : lvS M [] := fun _ h => nomatch h
theorem lvS_of {M : wM} {st : List AV} (hd : ∀ v ∈ st, lv1 M v) : lvS M st := hd
abbrev cvL (ad : Ro → Nat) (lv : List (Nat × AV)) : List (Nat × Value) := lv.map fun q => (q.1, cv ad q.2)
theorem cvL_at {ad : Ro → Nat} {lv : List (Nat × AV)} {j i : Nat} {v : AV} (h : lv[j]? = some (i, v)) : (cvL ad lv)[j]? = some (i, cv ad v) := by
  rw [List.getElem?_map, h]
  rfl
theorem cvL_xt {M : wM} {ad ad' : Ro → Nat} (hx : xt M ad ad') {lv : List (Nat × AV)} (hv : lvL M lv) : cvL ad' lv = cvL ad lv := List.map_congr_left (fun q h => by rw [cv_xt hx (hv q h)])
theorem cvL_f1 {ad : Ro → Nat} {lv : List (Nat × AV)} {i : Nat} : (cvL ad lv).filter (fun q => !(q.1 == i) && !(q.1 + 1 == i && q.2.category == 2)) = cvL ad (lv.filter (fun q => !(q.1 == i) && !(q.1 + 1 == i && acat q.2 == 2))) := by
  rw [List.filter_map]
  congr 1
  congr 1
  funext q
  simp only [Function.comp, cv_cat]
theorem cvL_f2 {ad : Ro → Nat} {lv : List (Nat × AV)} {i : Nat} : (cvL ad lv).filter (fun q => !(q.1 == i) && (!(q.1 == i + 1) && !(q.1 + 1 == i && q.2.category == 2))) = cvL ad (lv.filter (fun q => !(q.1 == i) && (!(q.1 == i + 1) && !(q.1 + 1 == i && acat q.2 == 2)))) := by
  rw [List.filter_map]
  congr 1
  congr 1
  funext q
  simp only [Function.comp, cv_cat]
theorem lvL_st {M : wM} {lv lvn : List (Nat × AV)} {i : Nat} {v : AV} {g : Nat × AV → Bool} (h : lvL M lv) (hv : lv1 M v) (hl : (i, v) :: lv.filter g = lvn) : lvL M lvn := by
  subst hl
  intro q hq
  rcases List.mem_cons.mp hq with rfl | hq
  · exact hv
  · exact h q (List.mem_filter.mp hq).1
/-- the static empty array of lists -/
def gsC : String := "java/util/ArrayList"
def gsN : String := "DEFAULTCAPACITY_EMPTY_ELEMENTDATA"
def gsD : String := "[Ljava/lang/Object;"
def gStat (B : Nat) (zE : Nat × Nat) (s : State) : Prop := va_Z gsC gsN gsD (.ref zE.1) (wA B) s s.heap ∧ va_T (.object "java/lang/Object") zE.1 0 (fun _ => .null) (wA B) s s.heap ∧ va_Mi gsD zE.2 s ∧ ¬ wA B zE.2
theorem gStat_call {B : Nat} {zE : Nat × Nat} {s U : State} {H : Heap} {locs : List Loc} (h : gStat B zE s) (hS : va_S (wA B) s.heap H locs) (hU : U.heap = H) (hW : s.WarmedH U.vm) : gStat B zE U := by
  subst hU
  exact ⟨va_Z.moved hW.alike (h.1.kept hS.2.1), va_T.moved hW.alike (h.2.1.kept hS.2.1), va_Mi.moved hW.alike h.2.2.1, h.2.2.2⟩
theorem gStat_blind {B : Nat} {zE : Nat × Nat} {U : State} (h : gStat B zE U) (a : Array Value) (g : JFrame) (mk : MethodId) : gStat B zE (U.calling g mk a) := ⟨va_Z.moved (u := U) (U := U.calling g mk a) (Vm.Alike.refl U.vm) h.1, va_T.moved (u := U) (U := U.calling g mk a) (Vm.Alike.refl U.vm) h.2.1, va_Mi.moved (u := U) (U := U.calling g mk a) (Vm.Alike.refl U.vm) h.2.2.1, h.2.2.2⟩
theorem gStat_out {B : Nat} {zE : Nat × Nat} {s : State} (h : gStat B zE s) : ¬ wA B zE.1 ∧ ¬ wA B zE.2 := ⟨h.2.1.out, h.2.2.2⟩
/-- what a state must hold beside the roles: the classes, the static array, the words of nests and casts -/
def gP (D : va_G) (dA : Nat → ClassId) (B : Nat) (zE : Nat × Nat) (s : State) : Prop := va_K D classes (tysA dA) s ∧ B ≤ s.heap.size ∧ gStat B zE s ∧ ∀ w ∈ nestW, va_Nw w s
theorem nest_warm {s U : State} (hW : s.WarmedH U.vm) {w : Cond} (hw : nestOk w = true) (h : va_Nw w s) : va_Nw w U := by
  cases w <;> first | (simp [nestOk] at hw; done) | exact va_Nw.warmF hW h | exact va_Nw.warmM hW h | exact va_Nw.warmC hW h | exact va_Nw.warmD hW h
theorem gP.call {D : va_G} {dA : Nat → ClassId} {B : Nat} {zE : Nat × Nat} {s U : State} {H : Heap} {locs : List Loc} (h : gP D dA B zE s) (hS : va_S (wA B) s.heap H locs) (hU : U.heap = H) (hW : s.WarmedH U.vm) : gP D dA B zE U := by
  obtain ⟨hK, hB, hst, hN⟩ := h
  refine ⟨va_K.moved hW.alike hK, ?_, gStat_call hst hS hU hW, fun w hw => nest_warm hW (nestW_ok w hw) (hN w hw)⟩
  rw [hU]
  exact Nat.le_trans hB hS.1
theorem gP.blind {D : va_G} {dA : Nat → ClassId} {B : Nat} {zE : Nat × Nat} {U : State} (h : gP D dA B zE U) (a : Array Value) (g : JFrame) (mk : MethodId) : gP D dA B zE (U.calling g mk a) := by
  obtain ⟨hK, hB, hst, hN⟩ := h
  exact ⟨va_K.moved (u := U) (U := U.calling g mk a) (Vm.Alike.refl U.vm) hK, hB, gStat_blind hst a g mk, fun w hw => va_Nw.same (nestW_tab w hw) (rfl : U.vm = (U.calling g mk a).vm) (hN w hw)⟩
def Cx (p : Program) (s : State) (m : MethodId) (args : Array Value) (meth : Method) (c : Code) (cc : ByteArray) (nL : Nat) (own : String) (Ts : List Cond) (D : va_G) (dA : Nat → ClassId) (B : Nat) (zE : Nat × Nat) : Prop :=
  p.tables.exec = Jvm.exec ∧ c.code = cc ∧ c.maxLocals = nL ∧ s.vm.findClass own = some m.cls ∧ (∀ w ∈ Ts, w.before args s = true) ∧ gP D dA B zE s ∧ meth.locks = false
def AW (p : Program) (l : Launch) (e : Env) (R : Room) (s : State) (m : MethodId) (args : Array Value) (below : List Frame) (meth : Method) (c : Code) (Q : State → Prop) (D : va_G) (dA : Nat → ClassId) (B : Nat) (zE : Nat × Nat) (nL : Nat) (ad0 : Ro → Nat) (M0 M : wM) (cells slots pc : Nat) (lv : List (Nat × AV)) (st : List AV) : Prop :=
  ∀ (ad : Ro → Nat) (H : Heap) (locs : List Loc) (ls : Array Slot), xt M0 ad0 ad → sb M0 M → WA D dA B zE ad M H → va_S (wA B) s.heap H locs → lv_has ls nL (cvL ad lv) → lvL M lv → lvS M st → W p l e R s m args below meth c H locs cells slots Q (F0 m pc ls (st.map (cv ad)))
section AWR
variable {p : Program} {l : Launch} {e : Env} {R : Room} {s : State} {m : MethodId} {args : Array Value} {below : List Frame} {meth : Method} {c : Code} {Q : State → Prop} {D : va_G} {dA : Nat → ClassId} {B : Nat} {zE : Nat × Nat} {nL : Nat} {ad0 : Ro → Nat} {M0 M : wM} {cells slots pc : Nat} {lv lvn : List (Nat × AV)} {st : List AV} {cc : ByteArray} {own : String} {Ts : List Cond}

theorem aw_iconst (X : Cx p s m args meth c cc nL own Ts D dA B zE) {n : Int} (v : Int32) (hv : Int32.ofInt n = v) (hd : decode cc pc = .ok (.iconst n, 1)) (k : AW p l e R s m args below meth c Q D dA B zE nL ad0 M0 M cells slots (pc + 1) lv (vI v :: st)) : AW p l e R s m args below meth c Q D dA B zE nL ad0 M0 M cells slots pc lv (st) :=
  fun ad H locs ls h1 h2 h3 h4 h5 h6 h7 => lv_iconst X.1 X.2.1 hd hv (k ad H locs ls h1 h2 h3 h4 h5 h6 h7.ni)
theorem aw_bipush (X : Cx p s m args meth c cc nL own Ts D dA B zE) {n : Int} (v : Int32) (hv : (Int8.ofInt n).toInt32 = v) (hd : decode cc pc = .ok (.bipush n, 2)) (k : AW p l e R s m args below meth c Q D dA B zE nL ad0 M0 M cells slots (pc + 2) lv (vI v :: st)) : AW p l e R s m args below meth c Q D dA B zE nL ad0 M0 M cells slots pc lv (st) :=
  fun ad H locs ls h1 h2 h3 h4 h5 h6 h7 => lv_bipush X.1 X.2.1 hd hv (k ad H locs ls h1 h2 h3 h4 h5 h6 h7.ni)
theorem aw_sipush (X : Cx p s m args meth c cc nL own Ts D dA B zE) {n : Int} (v : Int32) (hv : (Int16.ofInt n).toInt32 = v) (hd : decode cc pc = .ok (.sipush n, 3)) (k : AW p l e R s m args below meth c Q D dA B zE nL ad0 M0 M cells slots (pc + 3) lv (vI v :: st)) : AW p l e R s m args below meth c Q D dA B zE nL ad0 M0 M cells slots pc lv (st) :=
  fun ad H locs ls h1 h2 h3 h4 h5 h6 h7 => lv_sipush X.1 X.2.1 hd hv (k ad H locs ls h1 h2 h3 h4 h5 h6 h7.ni)
theorem aw_lconst (X : Cx p s m args meth c cc nL own Ts D dA B zE) {n : Fin 2} (v : Int64) (hv : Int64.ofNat (n : Nat) = v) (hd : decode cc pc = .ok (.lconst n, 1)) (k : AW p l e R s m args below meth c Q D dA B zE nL ad0 M0 M cells slots (pc + 1) lv (vL v :: st)) : AW p l e R s m args below meth c Q D dA B zE nL ad0 M0 M cells slots pc lv (st) :=
  fun ad H locs ls h1 h2 h3 h4 h5 h6 h7 => lv_lconst X.1 X.2.1 hd hv (k ad H locs ls h1 h2 h3 h4 h5 h6 h7.nl)
theorem aw_null (X : Cx p s m args meth c cc nL own Ts D dA B zE)  (hd : decode cc pc = .ok (.aconst_null, 1)) (k : AW p l e R s m args below meth c Q D dA B zE nL ad0 M0 M cells slots (pc + 1) lv (vR none :: st)) : AW p l e R s m args below meth c Q D dA B zE nL ad0 M0 M cells slots pc lv (st) :=
  fun ad H locs ls h1 h2 h3 h4 h5 h6 h7 => lv_null X.1 X.2.1 hd (k ad H locs ls h1 h2 h3 h4 h5 h6 (h7.cn lv1_N))
theorem aw_iadd (X : Cx p s m args meth c cc nL own Ts D dA B zE) {x y : Int32} (hd : decode cc pc = .ok (.iadd, 1)) (k : AW p l e R s m args below meth c Q D dA B zE nL ad0 M0 M cells slots (pc + 1) lv (vI (x + y) :: st)) : AW p l e R s m args below meth c Q D dA B zE nL ad0 M0 M cells slots pc lv (vI y :: vI x :: st) :=
  fun ad H locs ls h1 h2 h3 h4 h5 h6 h7 => lv_iadd X.1 X.2.1 hd (k ad H locs ls h1 h2 h3 h4 h5 h6 h7.tl.tl.ni)
theorem aw_isub (X : Cx p s m args meth c cc nL own Ts D dA B zE) {x y : Int32} (hd : decode cc pc = .ok (.isub, 1)) (k : AW p l e R s m args below meth c Q D dA B zE nL ad0 M0 M cells slots (pc + 1) lv (vI (x - y) :: st)) : AW p l e R s m args below meth c Q D dA B zE nL ad0 M0 M cells slots pc lv (vI y :: vI x :: st) :=
  fun ad H locs ls h1 h2 h3 h4 h5 h6 h7 => lv_isub X.1 X.2.1 hd (k ad H locs ls h1 h2 h3 h4 h5 h6 h7.tl.tl.ni)
theorem aw_imul (X : Cx p s m args meth c cc nL own Ts D dA B zE) {x y : Int32} (hd : decode cc pc = .ok (.imul, 1)) (k : AW p l e R s m args below meth c Q D dA B zE nL ad0 M0 M cells slots (pc + 1) lv (vI (x * y) :: st)) : AW p l e R s m args below meth c Q D dA B zE nL ad0 M0 M cells slots pc lv (vI y :: vI x :: st) :=
  fun ad H locs ls h1 h2 h3 h4 h5 h6 h7 => lv_imul X.1 X.2.1 hd (k ad H locs ls h1 h2 h3 h4 h5 h6 h7.tl.tl.ni)
theorem aw_iand (X : Cx p s m args meth c cc nL own Ts D dA B zE) {x y : Int32} (hd : decode cc pc = .ok (.iand, 1)) (k : AW p l e R s m args below meth c Q D dA B zE nL ad0 M0 M cells slots (pc + 1) lv (vI (x &&& y) :: st)) : AW p l e R s m args below meth c Q D dA B zE nL ad0 M0 M cells slots pc lv (vI y :: vI x :: st) :=
  fun ad H locs ls h1 h2 h3 h4 h5 h6 h7 => lv_iand X.1 X.2.1 hd (k ad H locs ls h1 h2 h3 h4 h5 h6 h7.tl.tl.ni)
theorem aw_ior (X : Cx p s m args meth c cc nL own Ts D dA B zE) {x y : Int32} (hd : decode cc pc = .ok (.ior, 1)) (k : AW p l e R s m args below meth c Q D dA B zE nL ad0 M0 M cells slots (pc + 1) lv (vI (x ||| y) :: st)) : AW p l e R s m args below meth c Q D dA B zE nL ad0 M0 M cells slots pc lv (vI y :: vI x :: st) :=
  fun ad H locs ls h1 h2 h3 h4 h5 h6 h7 => lv_ior X.1 X.2.1 hd (k ad H locs ls h1 h2 h3 h4 h5 h6 h7.tl.tl.ni)
theorem aw_ixor (X : Cx p s m args meth c cc nL own Ts D dA B zE) {x y : Int32} (hd : decode cc pc = .ok (.ixor, 1)) (k : AW p l e R s m args below meth c Q D dA B zE nL ad0 M0 M cells slots (pc + 1) lv (vI (x ^^^ y) :: st)) : AW p l e R s m args below meth c Q D dA B zE nL ad0 M0 M cells slots pc lv (vI y :: vI x :: st) :=
  fun ad H locs ls h1 h2 h3 h4 h5 h6 h7 => lv_ixor X.1 X.2.1 hd (k ad H locs ls h1 h2 h3 h4 h5 h6 h7.tl.tl.ni)
theorem aw_ishl (X : Cx p s m args meth c cc nL own Ts D dA B zE) {x y : Int32} (hd : decode cc pc = .ok (.ishl, 1)) (k : AW p l e R s m args below meth c Q D dA B zE nL ad0 M0 M cells slots (pc + 1) lv (vI (x <<< (y &&& 31)) :: st)) : AW p l e R s m args below meth c Q D dA B zE nL ad0 M0 M cells slots pc lv (vI y :: vI x :: st) :=
  fun ad H locs ls h1 h2 h3 h4 h5 h6 h7 => lv_ishl X.1 X.2.1 hd (k ad H locs ls h1 h2 h3 h4 h5 h6 h7.tl.tl.ni)
theorem aw_ishr (X : Cx p s m args meth c cc nL own Ts D dA B zE) {x y : Int32} (hd : decode cc pc = .ok (.ishr, 1)) (k : AW p l e R s m args below meth c Q D dA B zE nL ad0 M0 M cells slots (pc + 1) lv (vI (x >>> (y &&& 31)) :: st)) : AW p l e R s m args below meth c Q D dA B zE nL ad0 M0 M cells slots pc lv (vI y :: vI x :: st) :=
  fun ad H locs ls h1 h2 h3 h4 h5 h6 h7 => lv_ishr X.1 X.2.1 hd (k ad H locs ls h1 h2 h3 h4 h5 h6 h7.tl.tl.ni)
theorem aw_ladd (X : Cx p s m args meth c cc nL own Ts D dA B zE) {x y : Int64} (hd : decode cc pc = .ok (.ladd, 1)) (k : AW p l e R s m args below meth c Q D dA B zE nL ad0 M0 M cells slots (pc + 1) lv (vL (x + y) :: st)) : AW p l e R s m args below meth c Q D dA B zE nL ad0 M0 M cells slots pc lv (vL y :: vL x :: st) :=
  fun ad H locs ls h1 h2 h3 h4 h5 h6 h7 => lv_ladd X.1 X.2.1 hd (k ad H locs ls h1 h2 h3 h4 h5 h6 h7.tl.tl.nl)
theorem aw_lsub (X : Cx p s m args meth c cc nL own Ts D dA B zE) {x y : Int64} (hd : decode cc pc = .ok (.lsub, 1)) (k : AW p l e R s m args below meth c Q D dA B zE nL ad0 M0 M cells slots (pc + 1) lv (vL (x - y) :: st)) : AW p l e R s m args below meth c Q D dA B zE nL ad0 M0 M cells slots pc lv (vL y :: vL x :: st) :=
  fun ad H locs ls h1 h2 h3 h4 h5 h6 h7 => lv_lsub X.1 X.2.1 hd (k ad H locs ls h1 h2 h3 h4 h5 h6 h7.tl.tl.nl)
theorem aw_lmul (X : Cx p s m args meth c cc nL own Ts D dA B zE) {x y : Int64} (hd : decode cc pc = .ok (.lmul, 1)) (k : AW p l e R s m args below meth c Q D dA B zE nL ad0 M0 M cells slots (pc + 1) lv (vL (x * y) :: st)) : AW p l e R s m args below meth c Q D dA B zE nL ad0 M0 M cells slots pc lv (vL y :: vL x :: st) :=
  fun ad H locs ls h1 h2 h3 h4 h5 h6 h7 => lv_lmul X.1 X.2.1 hd (k ad H locs ls h1 h2 h3 h4 h5 h6 h7.tl.tl.nl)
theorem aw_land (X : Cx p s m args meth c cc nL own Ts D dA B zE) {x y : Int64} (hd : decode cc pc = .ok (.land, 1)) (k : AW p l e R s m args below meth c Q D dA B zE nL ad0 M0 M cells slots (pc + 1) lv (vL (x &&& y) :: st)) : AW p l e R s m args below meth c Q D dA B zE nL ad0 M0 M cells slots pc lv (vL y :: vL x :: st) :=
  fun ad H locs ls h1 h2 h3 h4 h5 h6 h7 => lv_land X.1 X.2.1 hd (k ad H locs ls h1 h2 h3 h4 h5 h6 h7.tl.tl.nl)
theorem aw_lor (X : Cx p s m args meth c cc nL own Ts D dA B zE) {x y : Int64} (hd : decode cc pc = .ok (.lor, 1)) (k : AW p l e R s m args below meth c Q D dA B zE nL ad0 M0 M cells slots (pc + 1) lv (vL (x ||| y) :: st)) : AW p l e R s m args below meth c Q D dA B zE nL ad0 M0 M cells slots pc lv (vL y :: vL x :: st) :=
  fun ad H locs ls h1 h2 h3 h4 h5 h6 h7 => lv_lor X.1 X.2.1 hd (k ad H locs ls h1 h2 h3 h4 h5 h6 h7.tl.tl.nl)
theorem aw_lxor (X : Cx p s m args meth c cc nL own Ts D dA B zE) {x y : Int64} (hd : decode cc pc = .ok (.lxor, 1)) (k : AW p l e R s m args below meth c Q D dA B zE nL ad0 M0 M cells slots (pc + 1) lv (vL (x ^^^ y) :: st)) : AW p l e R s m args below meth c Q D dA B zE nL ad0 M0 M cells slots pc lv (vL y :: vL x :: st) :=
  fun ad H locs ls h1 h2 h3 h4 h5 h6 h7 => lv_lxor X.1 X.2.1 hd (k ad H locs ls h1 h2 h3 h4 h5 h6 h7.tl.tl.nl)
theorem aw_irem (X : Cx p s m args meth c cc nL own Ts D dA B zE) {x y : Int32} (hne : ¬ y = 0) (hd : decode cc pc = .ok (.irem, 1)) (k : AW p l e R s m args below meth c Q D dA B zE nL ad0 M0 M cells slots (pc + 1) lv (vI (x - x / y * y) :: st)) : AW p l e R s m args below meth c Q D dA B zE nL ad0 M0 M cells slots pc lv (vI y :: vI x :: st) :=
  fun ad H locs ls h1 h2 h3 h4 h5 h6 h7 => lv_irem X.1 X.2.1 hd hne (k ad H locs ls h1 h2 h3 h4 h5 h6 h7.tl.tl.ni)
theorem aw_idiv (X : Cx p s m args meth c cc nL own Ts D dA B zE) {x y : Int32} (hne : ¬ y = 0) (hd : decode cc pc = .ok (.idiv, 1)) (k : AW p l e R s m args below meth c Q D dA B zE nL ad0 M0 M cells slots (pc + 1) lv (vI (x / y) :: st)) : AW p l e R s m args below meth c Q D dA B zE nL ad0 M0 M cells slots pc lv (vI y :: vI x :: st) :=
  fun ad H locs ls h1 h2 h3 h4 h5 h6 h7 => lv_idiv X.1 X.2.1 hd hne (k ad H locs ls h1 h2 h3 h4 h5 h6 h7.tl.tl.ni)
theorem aw_ineg (X : Cx p s m args meth c cc nL own Ts D dA B zE) {x : Int32} (hd : decode cc pc = .ok (.ineg, 1)) (k : AW p l e R s m args below meth c Q D dA B zE nL ad0 M0 M cells slots (pc + 1) lv (vI (-x) :: st)) : AW p l e R s m args below meth c Q D dA B zE nL ad0 M0 M cells slots pc lv (vI x :: st) :=
  fun ad H locs ls h1 h2 h3 h4 h5 h6 h7 => lv_ineg X.1 X.2.1 hd (k ad H locs ls h1 h2 h3 h4 h5 h6 h7.tl.ni)
theorem aw_iushr (X : Cx p s m args meth c cc nL own Ts D dA B zE) {x y : Int32} (hd : decode cc pc = .ok (.iushr, 1)) (k : AW p l e R s m args below meth c Q D dA B zE nL ad0 M0 M cells slots (pc + 1) lv (vI (x.toUInt32 >>> (y.toUInt32 &&& Int32.toUInt32 31)).toInt32 :: st)) : AW p l e R s m args below meth c Q D dA B zE nL ad0 M0 M cells slots pc lv (vI y :: vI x :: st) :=
  fun ad H locs ls h1 h2 h3 h4 h5 h6 h7 => lv_iushr X.1 X.2.1 hd rfl (k ad H locs ls h1 h2 h3 h4 h5 h6 h7.tl.tl.ni)
theorem aw_i2l (X : Cx p s m args meth c cc nL own Ts D dA B zE) {x : Int32} (hd : decode cc pc = .ok (.i2l, 1)) (k : AW p l e R s m args below meth c Q D dA B zE nL ad0 M0 M cells slots (pc + 1) lv (vL x.toInt64 :: st)) : AW p l e R s m args below meth c Q D dA B zE nL ad0 M0 M cells slots pc lv (vI x :: st) :=
  fun ad H locs ls h1 h2 h3 h4 h5 h6 h7 => lv_i2l X.1 X.2.1 hd rfl (k ad H locs ls h1 h2 h3 h4 h5 h6 h7.tl.nl)
theorem aw_l2i (X : Cx p s m args meth c cc nL own Ts D dA B zE) {x : Int64} (hd : decode cc pc = .ok (.l2i, 1)) (k : AW p l e R s m args below meth c Q D dA B zE nL ad0 M0 M cells slots (pc + 1) lv (vI x.toInt32 :: st)) : AW p l e R s m args below meth c Q D dA B zE nL ad0 M0 M cells slots pc lv (vL x :: st) :=
  fun ad H locs ls h1 h2 h3 h4 h5 h6 h7 => lv_l2i X.1 X.2.1 hd rfl (k ad H locs ls h1 h2 h3 h4 h5 h6 h7.tl.ni)
theorem aw_i2b (X : Cx p s m args meth c cc nL own Ts D dA B zE) {x : Int32} (hd : decode cc pc = .ok (.i2b, 1)) (k : AW p l e R s m args below meth c Q D dA B zE nL ad0 M0 M cells slots (pc + 1) lv (vI x.toInt8.toInt32 :: st)) : AW p l e R s m args below meth c Q D dA B zE nL ad0 M0 M cells slots pc lv (vI x :: st) :=
  fun ad H locs ls h1 h2 h3 h4 h5 h6 h7 => lv_i2b X.1 X.2.1 hd rfl (k ad H locs ls h1 h2 h3 h4 h5 h6 h7.tl.ni)
theorem aw_lcmp (X : Cx p s m args meth c cc nL own Ts D dA B zE) {x y : Int64} (hd : decode cc pc = .ok (.lcmp, 1)) (k : AW p l e R s m args below meth c Q D dA B zE nL ad0 M0 M cells slots (pc + 1) lv (vI (lg_cmp x y) :: st)) : AW p l e R s m args below meth c Q D dA B zE nL ad0 M0 M cells slots pc lv (vL y :: vL x :: st) :=
  fun ad H locs ls h1 h2 h3 h4 h5 h6 h7 => W.lcmp X.1 X.2.1 hd (k ad H locs ls h1 h2 h3 h4 h5 h6 h7.tl.tl.ni)
theorem aw_dup (X : Cx p s m args meth c cc nL own Ts D dA B zE) {v : AV} (hv : acat v = 1) (hd : decode cc pc = .ok (.dup, 1)) (k : AW p l e R s m args below meth c Q D dA B zE nL ad0 M0 M cells slots (pc + 1) lv (v :: v :: st)) : AW p l e R s m args below meth c Q D dA B zE nL ad0 M0 M cells slots pc lv (v :: st) :=
  fun ad H locs ls h1 h2 h3 h4 h5 h6 h7 => lv_dup X.1 X.2.1 hd ((cv_cat ad v).trans hv) (k ad H locs ls h1 h2 h3 h4 h5 h6 (h7.cn h7.hd))
theorem aw_pop (X : Cx p s m args meth c cc nL own Ts D dA B zE) {v : AV} (hv : acat v = 1) (hd : decode cc pc = .ok (.pop, 1)) (k : AW p l e R s m args below meth c Q D dA B zE nL ad0 M0 M cells slots (pc + 1) lv (st)) : AW p l e R s m args below meth c Q D dA B zE nL ad0 M0 M cells slots pc lv (v :: st) :=
  fun ad H locs ls h1 h2 h3 h4 h5 h6 h7 => lv_pop X.1 X.2.1 hd ((cv_cat ad v).trans hv) (k ad H locs ls h1 h2 h3 h4 h5 h6 h7.tl)
theorem aw_dup_x1 (X : Cx p s m args meth c cc nL own Ts D dA B zE) {v w : AV} (hv : acat v = 1) (hw : acat w = 1) (hd : decode cc pc = .ok (.dup_x1, 1)) (k : AW p l e R s m args below meth c Q D dA B zE nL ad0 M0 M cells slots (pc + 1) lv (v :: w :: v :: st)) : AW p l e R s m args below meth c Q D dA B zE nL ad0 M0 M cells slots pc lv (v :: w :: st) :=
  fun ad H locs ls h1 h2 h3 h4 h5 h6 h7 => lv_dup_x1 X.1 X.2.1 hd ((cv_cat ad v).trans hv) ((cv_cat ad w).trans hw) (k ad H locs ls h1 h2 h3 h4 h5 h6 (((h7.tl.tl.cn h7.hd).cn h7.tl.hd).cn h7.hd))
theorem aw_dup_x2 (X : Cx p s m args meth c cc nL own Ts D dA B zE) {v w u : AV} (hv : acat v = 1) (hw : acat w = 1) (hu : acat u = 1) (hd : decode cc pc = .ok (.dup_x2, 1)) (k : AW p l e R s m args below meth c Q D dA B zE nL ad0 M0 M cells slots (pc + 1) lv (v :: w :: u :: v :: st)) : AW p l e R s m args below meth c Q D dA B zE nL ad0 M0 M cells slots pc lv (v :: w :: u :: st) :=
  fun ad H locs ls h1 h2 h3 h4 h5 h6 h7 => lv_dup_x2 X.1 X.2.1 hd ((cv_cat ad v).trans hv) ((cv_cat ad w).trans hw) ((cv_cat ad u).trans hu) (k ad H locs ls h1 h2 h3 h4 h5 h6 ((((h7.tl.tl.tl.cn h7.hd).cn h7.tl.tl.hd).cn h7.tl.hd).cn h7.hd))
theorem aw_dup2 (X : Cx p s m args meth c cc nL own Ts D dA B zE) {v w : AV} (hv : acat v = 1) (hw : acat w = 1) (hd : decode cc pc = .ok (.dup2, 1)) (k : AW p l e R s m args below meth c Q D dA B zE nL ad0 M0 M cells slots (pc + 1) lv (v :: w :: v :: w :: st)) : AW p l e R s m args below meth c Q D dA B zE nL ad0 M0 M cells slots pc lv (v :: w :: st) :=
  fun ad H locs ls h1 h2 h3 h4 h5 h6 h7 => lv_dup2_11 X.1 X.2.1 hd ((cv_cat ad v).trans hv) ((cv_cat ad w).trans hw) (k ad H locs ls h1 h2 h3 h4 h5 h6 ((h7.cn h7.tl.hd).cn h7.hd))
theorem aw_dup2L (X : Cx p s m args meth c cc nL own Ts D dA B zE) {v : AV} (hv : acat v = 2) (hd : decode cc pc = .ok (.dup2, 1)) (k : AW p l e R s m args below meth c Q D dA B zE nL ad0 M0 M cells slots (pc + 1) lv (v :: v :: st)) : AW p l e R s m args below meth c Q D dA B zE nL ad0 M0 M cells slots pc lv (v :: st) :=
  fun ad H locs ls h1 h2 h3 h4 h5 h6 h7 => lv_dup2_2 X.1 X.2.1 hd ((cv_cat ad v).trans hv) (k ad H locs ls h1 h2 h3 h4 h5 h6 (h7.cn h7.hd))
theorem aw_iload_n (X : Cx p s m args meth c cc nL own Ts D dA B zE) {n : Fin 4} {i : Nat} {x : Int32} (j : Nat) (hj : lv[j]? = some (i, vI x)) (hd : decode cc pc = .ok (.iload_n n, 1)) (hi : (n : Nat) = i) (k : AW p l e R s m args below meth c Q D dA B zE nL ad0 M0 M cells slots (pc + 1) lv (vI x :: st)) : AW p l e R s m args below meth c Q D dA B zE nL ad0 M0 M cells slots pc lv st :=
  fun ad H locs ls h1 h2 h3 h4 h5 h6 h7 => lv_iload_n X.1 X.2.1 hd hi (lv_at h5 j (cvL_at hj)) (k ad H locs ls h1 h2 h3 h4 h5 h6 h7.ni)
theorem aw_iload (X : Cx p s m args meth c cc nL own Ts D dA B zE) {i : Nat} {x : Int32} (j : Nat) (hj : lv[j]? = some (i, vI x)) (hd : decode cc pc = .ok (.iload i, 2)) (k : AW p l e R s m args below meth c Q D dA B zE nL ad0 M0 M cells slots (pc + 2) lv (vI x :: st)) : AW p l e R s m args below meth c Q D dA B zE nL ad0 M0 M cells slots pc lv st :=
  fun ad H locs ls h1 h2 h3 h4 h5 h6 h7 => lv_iload X.1 X.2.1 hd (lv_at h5 j (cvL_at hj)) (k ad H locs ls h1 h2 h3 h4 h5 h6 h7.ni)
theorem aw_lload_n (X : Cx p s m args meth c cc nL own Ts D dA B zE) {n : Fin 4} {i : Nat} {x : Int64} (j : Nat) (hj : lv[j]? = some (i, vL x)) (hd : decode cc pc = .ok (.lload_n n, 1)) (hi : (n : Nat) = i) (k : AW p l e R s m args below meth c Q D dA B zE nL ad0 M0 M cells slots (pc + 1) lv (vL x :: st)) : AW p l e R s m args below meth c Q D dA B zE nL ad0 M0 M cells slots pc lv st :=
  fun ad H locs ls h1 h2 h3 h4 h5 h6 h7 => lv_lload_n X.1 X.2.1 hd hi (lv_at h5 j (cvL_at hj)) (k ad H locs ls h1 h2 h3 h4 h5 h6 h7.nl)
theorem aw_lload (X : Cx p s m args meth c cc nL own Ts D dA B zE) {i : Nat} {x : Int64} (j : Nat) (hj : lv[j]? = some (i, vL x)) (hd : decode cc pc = .ok (.lload i, 2)) (k : AW p l e R s m args below meth c Q D dA B zE nL ad0 M0 M cells slots (pc + 2) lv (vL x :: st)) : AW p l e R s m args below meth c Q D dA B zE nL ad0 M0 M cells slots pc lv st :=
  fun ad H locs ls h1 h2 h3 h4 h5 h6 h7 => lv_lload X.1 X.2.1 hd (lv_at h5 j (cvL_at hj)) (k ad H locs ls h1 h2 h3 h4 h5 h6 h7.nl)
theorem aw_aload_n (X : Cx p s m args meth c cc nL own Ts D dA B zE) {n : Fin 4} {i : Nat} {x : Option Ro} (j : Nat) (hj : lv[j]? = some (i, vR x)) (hd : decode cc pc = .ok (.aload_n n, 1)) (hi : (n : Nat) = i) (k : AW p l e R s m args below meth c Q D dA B zE nL ad0 M0 M cells slots (pc + 1) lv (vR x :: st)) : AW p l e R s m args below meth c Q D dA B zE nL ad0 M0 M cells slots pc lv st := by
  intro ad H locs ls h1 h2 h3 h4 h5 h6 h7
  have hq := lv_at h5 j (cvL_at hj)
  have hk := k ad H locs ls h1 h2 h3 h4 h5 h6 (h7.cn (h6 _ (List.mem_of_getElem? hj)))
  cases x with
  | none => exact lv_aload_nN X.1 X.2.1 hd hi hq hk
  | some r => exact lv_aload_n X.1 X.2.1 hd hi hq hk
theorem aw_aload (X : Cx p s m args meth c cc nL own Ts D dA B zE) {i : Nat} {x : Option Ro} (j : Nat) (hj : lv[j]? = some (i, vR x)) (hd : decode cc pc = .ok (.aload i, 2)) (k : AW p l e R s m args below meth c Q D dA B zE nL ad0 M0 M cells slots (pc + 2) lv (vR x :: st)) : AW p l e R s m args below meth c Q D dA B zE nL ad0 M0 M cells slots pc lv st := by
  intro ad H locs ls h1 h2 h3 h4 h5 h6 h7
  have hq := lv_at h5 j (cvL_at hj)
  have hk := k ad H locs ls h1 h2 h3 h4 h5 h6 (h7.cn (h6 _ (List.mem_of_getElem? hj)))
  cases x with
  | none => exact lv_aloadN X.1 X.2.1 hd hq hk
  | some r => exact lv_aload X.1 X.2.1 hd hq hk
theorem aw_istore_n (X : Cx p s m args meth c cc nL own Ts D dA B zE) {n : Fin 4} {i : Nat} {x : Int32} (hd : decode cc pc = .ok (.istore_n n, 1)) (hi : (n : Nat) = i) (hn : i < nL) (hl : (i, vI x) :: lv.filter (fun q => !(q.1 == i) && !(q.1 + 1 == i && acat q.2 == 2)) = lvn) (k : AW p l e R s m args below meth c Q D dA B zE nL ad0 M0 M cells slots (pc + 1) lvn st) : AW p l e R s m args below meth c Q D dA B zE nL ad0 M0 M cells slots pc lv (vI x :: st) :=
  fun ad H locs ls h1 h2 h3 h4 h5 h6 h7 => lv_istore_n X.1 X.2.1 hd hi h5 hn (by rw [cvL_f1, ← hl]; rfl) (fun ls1 hl1 => k ad H locs ls1 h1 h2 h3 h4 hl1 (lvL_st h6 h7.hd hl) h7.tl)
theorem aw_istore (X : Cx p s m args meth c cc nL own Ts D dA B zE) {i : Nat} {x : Int32} (hd : decode cc pc = .ok (.istore i, 2)) (hn : i < nL) (hl : (i, vI x) :: lv.filter (fun q => !(q.1 == i) && !(q.1 + 1 == i && acat q.2 == 2)) = lvn) (k : AW p l e R s m args below meth c Q D dA B zE nL ad0 M0 M cells slots (pc + 2) lvn st) : AW p l e R s m args below meth c Q D dA B zE nL ad0 M0 M cells slots pc lv (vI x :: st) :=
  fun ad H locs ls h1 h2 h3 h4 h5 h6 h7 => lv_istore X.1 X.2.1 hd h5 hn (by rw [cvL_f1, ← hl]; rfl) (fun ls1 hl1 => k ad H locs ls1 h1 h2 h3 h4 hl1 (lvL_st h6 h7.hd hl) h7.tl)
theorem aw_lstore_n (X : Cx p s m args meth c cc nL own Ts D dA B zE) {n : Fin 4} {i : Nat} {x : Int64} (hd : decode cc pc = .ok (.lstore_n n, 1)) (hi : (n : Nat) = i) (hn : i + 1 < nL) (hl : (i, vL x) :: lv.filter (fun q => !(q.1 == i) && (!(q.1 == i + 1) && !(q.1 + 1 == i && acat q.2 == 2))) = lvn) (k : AW p l e R s m args below meth c Q D dA B zE nL ad0 M0 M cells slots (pc + 1) lvn st) : AW p l e R s m args below meth c Q D dA B zE nL ad0 M0 M cells slots pc lv (vL x :: st) :=
  fun ad H locs ls h1 h2 h3 h4 h5 h6 h7 => lv_lstore_n X.1 X.2.1 hd hi h5 hn (by rw [cvL_f2, ← hl]; rfl) (fun ls1 hl1 => k ad H locs ls1 h1 h2 h3 h4 hl1 (lvL_st h6 h7.hd hl) h7.tl)
theorem aw_lstore (X : Cx p s m args meth c cc nL own Ts D dA B zE) {i : Nat} {x : Int64} (hd : decode cc pc = .ok (.lstore i, 2)) (hn : i + 1 < nL) (hl : (i, vL x) :: lv.filter (fun q => !(q.1 == i) && (!(q.1 == i + 1) && !(q.1 + 1 == i && acat q.2 == 2))) = lvn) (k : AW p l e R s m args below meth c Q D dA B zE nL ad0 M0 M cells slots (pc + 2) lvn st) : AW p l e R s m args below meth c Q D dA B zE nL ad0 M0 M cells slots pc lv (vL x :: st) :=
  fun ad H locs ls h1 h2 h3 h4 h5 h6 h7 => lv_lstore X.1 X.2.1 hd h5 hn (by rw [cvL_f2, ← hl]; rfl) (fun ls1 hl1 => k ad H locs ls1 h1 h2 h3 h4 hl1 (lvL_st h6 h7.hd hl) h7.tl)
theorem aw_astore_n (X : Cx p s m args meth c cc nL own Ts D dA B zE) {n : Fin 4} {i : Nat} {x : Option Ro} (hd : decode cc pc = .ok (.astore_n n, 1)) (hi : (n : Nat) = i) (hn : i < nL) (hl : (i, vR x) :: lv.filter (fun q => !(q.1 == i) && !(q.1 + 1 == i && acat q.2 == 2)) = lvn) (k : AW p l e R s m args below meth c Q D dA B zE nL ad0 M0 M cells slots (pc + 1) lvn st) : AW p l e R s m args below meth c Q D dA B zE nL ad0 M0 M cells slots pc lv (vR x :: st) := by
  intro ad H locs ls h1 h2 h3 h4 h5 h6 h7
  have hk := fun ls1 hl1 => k ad H locs ls1 h1 h2 h3 h4 hl1 (lvL_st h6 h7.hd hl) h7.tl
  cases x with
  | none => exact lv_astore_nN X.1 X.2.1 hd hi h5 hn (by rw [cvL_f1, ← hl]; rfl) hk
  | some r => exact lv_astore_n X.1 X.2.1 hd hi h5 hn (by rw [cvL_f1, ← hl]; rfl) hk
theorem aw_astore (X : Cx p s m args meth c cc nL own Ts D dA B zE) {i : Nat} {x : Option Ro} (hd : decode cc pc = .ok (.astore i, 2)) (hn : i < nL) (hl : (i, vR x) :: lv.filter (fun q => !(q.1 == i) && !(q.1 + 1 == i && acat q.2 == 2)) = lvn) (k : AW p l e R s m args below meth c Q D dA B zE nL ad0 M0 M cells slots (pc + 2) lvn st) : AW p l e R s m args below meth c Q D dA B zE nL ad0 M0 M cells slots pc lv (vR x :: st) := by
  intro ad H locs ls h1 h2 h3 h4 h5 h6 h7
  have hk := fun ls1 hl1 => k ad H locs ls1 h1 h2 h3 h4 hl1 (lvL_st h6 h7.hd hl) h7.tl
  cases x with
  | none => exact lv_astoreN X.1 X.2.1 hd h5 hn (by rw [cvL_f1, ← hl]; rfl) hk
  | some r => exact lv_astore X.1 X.2.1 hd h5 hn (by rw [cvL_f1, ← hl]; rfl) hk
theorem aw_iinc (X : Cx p s m args meth c cc nL own Ts D dA B zE) {i : Nat} {n : Int} {x y : Int32} (j : Nat) (hj : lv[j]? = some (i, vI x)) (hd : decode cc pc = .ok (.iinc i n, 3)) (hv : x + Int32.ofInt n = y) (hn : i < nL) (hl : (i, vI y) :: lv.filter (fun q => !(q.1 == i) && !(q.1 + 1 == i && acat q.2 == 2)) = lvn) (k : AW p l e R s m args below meth c Q D dA B zE nL ad0 M0 M cells slots (pc + 3) lvn st) : AW p l e R s m args below meth c Q D dA B zE nL ad0 M0 M cells slots pc lv st :=
  fun ad H locs ls h1 h2 h3 h4 h5 h6 h7 => lv_iinc X.1 X.2.1 hd h5 (cvL_at hj) hv hn (by rw [cvL_f1, ← hl]; rfl) (fun ls1 hl1 => k ad H locs ls1 h1 h2 h3 h4 hl1 (lvL_st h6 lv1_I hl) h7)
theorem lvL_pick {M : wM} {lv lvn : List (Nat × AV)} (ks : List Nat) (h : lvL M lv) (hl : ks.filterMap (fun k => lv[k]?) = lvn) : lvL M lvn := by
  subst hl
  intro q hq
  obtain ⟨k, -, hk⟩ := List.mem_filterMap.mp hq
  exact h q (List.mem_of_getElem? hk)
theorem aw_lv (ks : List Nat) (hl : ks.filterMap (fun k => lv[k]?) = lvn) (k : AW p l e R s m args below meth c Q D dA B zE nL ad0 M0 M cells slots pc lvn st) : AW p l e R s m args below meth c Q D dA B zE nL ad0 M0 M cells slots pc lv st :=
  fun ad H locs ls h1 h2 h3 h4 h5 h6 h7 => k ad H locs ls h1 h2 h3 h4 (lv_sub h5 ks (by
    rw [← hl]
    unfold lv_pick cvL
    rw [List.map_filterMap]
    congr 1
    funext k
    rw [List.getElem?_map])) (lvL_pick ks h6 hl) h7
theorem aw_widen {ce sl : Nat} (hc : cells ≤ ce) (hs : slots ≤ sl) (k : AW p l e R s m args below meth c Q D dA B zE nL ad0 M0 M ce sl pc lv st) : AW p l e R s m args below meth c Q D dA B zE nL ad0 M0 M cells slots pc lv st :=
  fun ad H locs ls h1 h2 h3 h4 h5 h6 h7 => W.widen hc hs (k ad H locs ls h1 h2 h3 h4 h5 h6 h7)
theorem aw_M {M' : wM} (h : M = M') (k : AW p l e R s m args below meth c Q D dA B zE nL ad0 M0 M' cells slots pc lv st) : AW p l e R s m args below meth c Q D dA B zE nL ad0 M0 M cells slots pc lv st := h ▸ k
theorem aw_icmp_eq (X : Cx p s m args meth c cc nL own Ts D dA B zE) {x y : Int32} {off : Int} {tgt : Nat} (hd : decode cc pc = .ok (.if_icmp .eq off, 3)) (ht : (pc : Int) + off = (tgt : Int)) (kt : x = y → AW p l e R s m args below meth c Q D dA B zE nL ad0 M0 M cells slots tgt lv st) (kf : ¬ x = y → AW p l e R s m args below meth c Q D dA B zE nL ad0 M0 M cells slots (pc + 3) lv st) : AW p l e R s m args below meth c Q D dA B zE nL ad0 M0 M cells slots pc lv (vI y :: vI x :: st) :=
  fun ad H locs ls h1 h2 h3 h4 h5 h6 h7 => lv_icmp_eq X.1 X.2.1 hd ht (fun q => kt q ad H locs ls h1 h2 h3 h4 h5 h6 h7.tl.tl) (fun q => kf q ad H locs ls h1 h2 h3 h4 h5 h6 h7.tl.tl)
theorem aw_icmp_ne (X : Cx p s m args meth c cc nL own Ts D dA B zE) {x y : Int32} {off : Int} {tgt : Nat} (hd : decode cc pc = .ok (.if_icmp .ne off, 3)) (ht : (pc : Int) + off = (tgt : Int)) (kt : ¬ x = y → AW p l e R s m args below meth c Q D dA B zE nL ad0 M0 M cells slots tgt lv st) (kf : x = y → AW p l e R s m args below meth c Q D dA B zE nL ad0 M0 M cells slots (pc + 3) lv st) : AW p l e R s m args below meth c Q D dA B zE nL ad0 M0 M cells slots pc lv (vI y :: vI x :: st) :=
  fun ad H locs ls h1 h2 h3 h4 h5 h6 h7 => lv_icmp_ne X.1 X.2.1 hd ht (fun q => kt q ad H locs ls h1 h2 h3 h4 h5 h6 h7.tl.tl) (fun q => kf q ad H locs ls h1 h2 h3 h4 h5 h6 h7.tl.tl)
theorem aw_icmp_lt (X : Cx p s m args meth c cc nL own Ts D dA B zE) {x y : Int32} {off : Int} {tgt : Nat} (hd : decode cc pc = .ok (.if_icmp .lt off, 3)) (ht : (pc : Int) + off = (tgt : Int)) (kt : x < y → AW p l e R s m args below meth c Q D dA B zE nL ad0 M0 M cells slots tgt lv st) (kf : ¬ x < y → AW p l e R s m args below meth c Q D dA B zE nL ad0 M0 M cells slots (pc + 3) lv st) : AW p l e R s m args below meth c Q D dA B zE nL ad0 M0 M cells slots pc lv (vI y :: vI x :: st) :=
  fun ad H locs ls h1 h2 h3 h4 h5 h6 h7 => lv_icmp_lt X.1 X.2.1 hd ht (fun q => kt q ad H locs ls h1 h2 h3 h4 h5 h6 h7.tl.tl) (fun q => kf q ad H locs ls h1 h2 h3 h4 h5 h6 h7.tl.tl)
theorem aw_icmp_ge (X : Cx p s m args meth c cc nL own Ts D dA B zE) {x y : Int32} {off : Int} {tgt : Nat} (hd : decode cc pc = .ok (.if_icmp .ge off, 3)) (ht : (pc : Int) + off = (tgt : Int)) (kt : y ≤ x → AW p l e R s m args below meth c Q D dA B zE nL ad0 M0 M cells slots tgt lv st) (kf : ¬ y ≤ x → AW p l e R s m args below meth c Q D dA B zE nL ad0 M0 M cells slots (pc + 3) lv st) : AW p l e R s m args below meth c Q D dA B zE nL ad0 M0 M cells slots pc lv (vI y :: vI x :: st) :=
  fun ad H locs ls h1 h2 h3 h4 h5 h6 h7 => lv_icmp_ge X.1 X.2.1 hd ht (fun q => kt q ad H locs ls h1 h2 h3 h4 h5 h6 h7.tl.tl) (fun q => kf q ad H locs ls h1 h2 h3 h4 h5 h6 h7.tl.tl)
theorem aw_icmp_gt (X : Cx p s m args meth c cc nL own Ts D dA B zE) {x y : Int32} {off : Int} {tgt : Nat} (hd : decode cc pc = .ok (.if_icmp .gt off, 3)) (ht : (pc : Int) + off = (tgt : Int)) (kt : y < x → AW p l e R s m args below meth c Q D dA B zE nL ad0 M0 M cells slots tgt lv st) (kf : ¬ y < x → AW p l e R s m args below meth c Q D dA B zE nL ad0 M0 M cells slots (pc + 3) lv st) : AW p l e R s m args below meth c Q D dA B zE nL ad0 M0 M cells slots pc lv (vI y :: vI x :: st) :=
  fun ad H locs ls h1 h2 h3 h4 h5 h6 h7 => lv_icmp_gt X.1 X.2.1 hd ht (fun q => kt q ad H locs ls h1 h2 h3 h4 h5 h6 h7.tl.tl) (fun q => kf q ad H locs ls h1 h2 h3 h4 h5 h6 h7.tl.tl)
theorem aw_icmp_le (X : Cx p s m args meth c cc nL own Ts D dA B zE) {x y : Int32} {off : Int} {tgt : Nat} (hd : decode cc pc = .ok (.if_icmp .le off, 3)) (ht : (pc : Int) + off = (tgt : Int)) (kt : x ≤ y → AW p l e R s m args below meth c Q D dA B zE nL ad0 M0 M cells slots tgt lv st) (kf : ¬ x ≤ y → AW p l e R s m args below meth c Q D dA B zE nL ad0 M0 M cells slots (pc + 3) lv st) : AW p l e R s m args below meth c Q D dA B zE nL ad0 M0 M cells slots pc lv (vI y :: vI x :: st) :=
  fun ad H locs ls h1 h2 h3 h4 h5 h6 h7 => lv_icmp_le X.1 X.2.1 hd ht (fun q => kt q ad H locs ls h1 h2 h3 h4 h5 h6 h7.tl.tl) (fun q => kf q ad H locs ls h1 h2 h3 h4 h5 h6 h7.tl.tl)
theorem aw_if_eq (X : Cx p s m args meth c cc nL own Ts D dA B zE) {x : Int32} {off : Int} {tgt : Nat} (hd : decode cc pc = .ok (.ifCond .eq off, 3)) (ht : (pc : Int) + off = (tgt : Int)) (kt : x = 0 → AW p l e R s m args below meth c Q D dA B zE nL ad0 M0 M cells slots tgt lv st) (kf : ¬ x = 0 → AW p l e R s m args below meth c Q D dA B zE nL ad0 M0 M cells slots (pc + 3) lv st) : AW p l e R s m args below meth c Q D dA B zE nL ad0 M0 M cells slots pc lv (vI x :: st) :=
  fun ad H locs ls h1 h2 h3 h4 h5 h6 h7 => lv_if_eq X.1 X.2.1 hd ht (fun q => kt q ad H locs ls h1 h2 h3 h4 h5 h6 h7.tl) (fun q => kf q ad H locs ls h1 h2 h3 h4 h5 h6 h7.tl)
theorem aw_if_ne (X : Cx p s m args meth c cc nL own Ts D dA B zE) {x : Int32} {off : Int} {tgt : Nat} (hd : decode cc pc = .ok (.ifCond .ne off, 3)) (ht : (pc : Int) + off = (tgt : Int)) (kt : ¬ x = 0 → AW p l e R s m args below meth c Q D dA B zE nL ad0 M0 M cells slots tgt lv st) (kf : x = 0 → AW p l e R s m args below meth c Q D dA B zE nL ad0 M0 M cells slots (pc + 3) lv st) : AW p l e R s m args below meth c Q D dA B zE nL ad0 M0 M cells slots pc lv (vI x :: st) :=
  fun ad H locs ls h1 h2 h3 h4 h5 h6 h7 => lv_if_ne X.1 X.2.1 hd ht (fun q => kt q ad H locs ls h1 h2 h3 h4 h5 h6 h7.tl) (fun q => kf q ad H locs ls h1 h2 h3 h4 h5 h6 h7.tl)
theorem aw_if_lt (X : Cx p s m args meth c cc nL own Ts D dA B zE) {x : Int32} {off : Int} {tgt : Nat} (hd : decode cc pc = .ok (.ifCond .lt off, 3)) (ht : (pc : Int) + off = (tgt : Int)) (kt : x < 0 → AW p l e R s m args below meth c Q D dA B zE nL ad0 M0 M cells slots tgt lv st) (kf : ¬ x < 0 → AW p l e R s m args below meth c Q D dA B zE nL ad0 M0 M cells slots (pc + 3) lv st) : AW p l e R s m args below meth c Q D dA B zE nL ad0 M0 M cells slots pc lv (vI x :: st) :=
  fun ad H locs ls h1 h2 h3 h4 h5 h6 h7 => lv_if_lt X.1 X.2.1 hd ht (fun q => kt q ad H locs ls h1 h2 h3 h4 h5 h6 h7.tl) (fun q => kf q ad H locs ls h1 h2 h3 h4 h5 h6 h7.tl)
theorem aw_if_ge (X : Cx p s m args meth c cc nL own Ts D dA B zE) {x : Int32} {off : Int} {tgt : Nat} (hd : decode cc pc = .ok (.ifCond .ge off, 3)) (ht : (pc : Int) + off = (tgt : Int)) (kt : 0 ≤ x → AW p l e R s m args below meth c Q D dA B zE nL ad0 M0 M cells slots tgt lv st) (kf : ¬ 0 ≤ x → AW p l e R s m args below meth c Q D dA B zE nL ad0 M0 M cells slots (pc + 3) lv st) : AW p l e R s m args below meth c Q D dA B zE nL ad0 M0 M cells slots pc lv (vI x :: st) :=
  fun ad H locs ls h1 h2 h3 h4 h5 h6 h7 => lv_if_ge X.1 X.2.1 hd ht (fun q => kt q ad H locs ls h1 h2 h3 h4 h5 h6 h7.tl) (fun q => kf q ad H locs ls h1 h2 h3 h4 h5 h6 h7.tl)
theorem aw_if_gt (X : Cx p s m args meth c cc nL own Ts D dA B zE) {x : Int32} {off : Int} {tgt : Nat} (hd : decode cc pc = .ok (.ifCond .gt off, 3)) (ht : (pc : Int) + off = (tgt : Int)) (kt : 0 < x → AW p l e R s m args below meth c Q D dA B zE nL ad0 M0 M cells slots tgt lv st) (kf : ¬ 0 < x → AW p l e R s m args below meth c Q D dA B zE nL ad0 M0 M cells slots (pc + 3) lv st) : AW p l e R s m args below meth c Q D dA B zE nL ad0 M0 M cells slots pc lv (vI x :: st) :=
  fun ad H locs ls h1 h2 h3 h4 h5 h6 h7 => lv_if_gt X.1 X.2.1 hd ht (fun q => kt q ad H locs ls h1 h2 h3 h4 h5 h6 h7.tl) (fun q => kf q ad H locs ls h1 h2 h3 h4 h5 h6 h7.tl)
theorem aw_if_le (X : Cx p s m args meth c cc nL own Ts D dA B zE) {x : Int32} {off : Int} {tgt : Nat} (hd : decode cc pc = .ok (.ifCond .le off, 3)) (ht : (pc : Int) + off = (tgt : Int)) (kt : x ≤ 0 → AW p l e R s m args below meth c Q D dA B zE nL ad0 M0 M cells slots tgt lv st) (kf : ¬ x ≤ 0 → AW p l e R s m args below meth c Q D dA B zE nL ad0 M0 M cells slots (pc + 3) lv st) : AW p l e R s m args below meth c Q D dA B zE nL ad0 M0 M cells slots pc lv (vI x :: st) :=
  fun ad H locs ls h1 h2 h3 h4 h5 h6 h7 => lv_if_le X.1 X.2.1 hd ht (fun q => kt q ad H locs ls h1 h2 h3 h4 h5 h6 h7.tl) (fun q => kf q ad H locs ls h1 h2 h3 h4 h5 h6 h7.tl)
theorem aw_goto (X : Cx p s m args meth c cc nL own Ts D dA B zE) {off : Int} {tgt : Nat} (hd : decode cc pc = .ok (.goto off, 3)) (ht : (pc : Int) + off = (tgt : Int)) (k : AW p l e R s m args below meth c Q D dA B zE nL ad0 M0 M cells slots tgt lv st) : AW p l e R s m args below meth c Q D dA B zE nL ad0 M0 M cells slots pc lv st :=
  fun ad H locs ls h1 h2 h3 h4 h5 h6 h7 => lv_goto X.1 X.2.1 hd ht (k ad H locs ls h1 h2 h3 h4 h5 h6 h7)
theorem aw_ifnull (X : Cx p s m args meth c cc nL own Ts D dA B zE) {x : Option Ro} {off : Int} {tgt : Nat} (hd : decode cc pc = .ok (.ifnull off, 3)) (ht : (pc : Int) + off = (tgt : Int)) (kt : x = none → AW p l e R s m args below meth c Q D dA B zE nL ad0 M0 M cells slots tgt lv st) (kf : ¬ x = none → AW p l e R s m args below meth c Q D dA B zE nL ad0 M0 M cells slots (pc + 3) lv st) : AW p l e R s m args below meth c Q D dA B zE nL ad0 M0 M cells slots pc lv (vR x :: st) := by
  intro ad H locs ls h1 h2 h3 h4 h5 h6 h7
  cases x with
  | none => exact lv_ifnullN X.1 X.2.1 hd ht (kt rfl ad H locs ls h1 h2 h3 h4 h5 h6 h7.tl)
  | some r => exact lv_ifnull X.1 X.2.1 hd (kf (fun q => nomatch q) ad H locs ls h1 h2 h3 h4 h5 h6 h7.tl)
theorem aw_ifnonnull (X : Cx p s m args meth c cc nL own Ts D dA B zE) {x : Option Ro} {off : Int} {tgt : Nat} (hd : decode cc pc = .ok (.ifnonnull off, 3)) (ht : (pc : Int) + off = (tgt : Int)) (kt : ¬ x = none → AW p l e R s m args below meth c Q D dA B zE nL ad0 M0 M cells slots tgt lv st) (kf : x = none → AW p l e R s m args below meth c Q D dA B zE nL ad0 M0 M cells slots (pc + 3) lv st) : AW p l e R s m args below meth c Q D dA B zE nL ad0 M0 M cells slots pc lv (vR x :: st) := by
  intro ad H locs ls h1 h2 h3 h4 h5 h6 h7
  cases x with
  | none => exact lv_ifnonnullN X.1 X.2.1 hd (kf rfl ad H locs ls h1 h2 h3 h4 h5 h6 h7.tl)
  | some r => exact lv_ifnonnull X.1 X.2.1 hd ht (kt (fun q => nomatch q) ad H locs ls h1 h2 h3 h4 h5 h6 h7.tl)
theorem aw_tableIn (X : Cx p s m args meth c cc nL own Ts D dA B zE) {dflt lo hi : Int} {offs : Array Int} {len : Nat} {x y : Int32} {off : Int} {tgt : Nat} (hd : decode cc pc = .ok (.tableswitch dflt lo hi offs, len)) (hxy : x = y) (hq1 : ¬ y.toInt < lo) (hq2 : ¬ hi < y.toInt) (ho : offs[(y.toInt - lo).toNat]? = some off) (ht : (pc : Int) + off = (tgt : Int)) (k : AW p l e R s m args below meth c Q D dA B zE nL ad0 M0 M cells slots tgt lv st) : AW p l e R s m args below meth c Q D dA B zE nL ad0 M0 M cells slots pc lv (vI x :: st) := by
  subst hxy
  exact fun ad H locs ls h1 h2 h3 h4 h5 h6 h7 => lv_tableIn X.1 X.2.1 hd hq1 hq2 ho ht (k ad H locs ls h1 h2 h3 h4 h5 h6 h7.tl)
theorem aw_tableOut (X : Cx p s m args meth c cc nL own Ts D dA B zE) {dflt lo hi : Int} {offs : Array Int} {len : Nat} {x : Int32} {tgt : Nat} (hd : decode cc pc = .ok (.tableswitch dflt lo hi offs, len)) (h : x.toInt < lo ∨ hi < x.toInt) (ht : (pc : Int) + dflt = (tgt : Int)) (k : AW p l e R s m args below meth c Q D dA B zE nL ad0 M0 M cells slots tgt lv st) : AW p l e R s m args below meth c Q D dA B zE nL ad0 M0 M cells slots pc lv (vI x :: st) :=
  fun ad H locs ls h1 h2 h3 h4 h5 h6 h7 => lv_tableOut X.1 X.2.1 hd h ht (k ad H locs ls h1 h2 h3 h4 h5 h6 h7.tl)
theorem aw_lookup (X : Cx p s m args meth c cc nL own Ts D dA B zE) {dflt : Int} {ps : Array (Int × Int)} {len : Nat} {x : Int32} {off : Int} {tgt : Nat} (hd : decode cc pc = .ok (.lookupswitch dflt ps, len)) (hp : (ps.toList.zip (ps.toList.drop 1)).all (fun (a, next) => a.1 < next.1) = true) (ho : Op.lookupswitch.offset ps.toList dflt x.toInt = off) (ht : (pc : Int) + off = (tgt : Int)) (k : AW p l e R s m args below meth c Q D dA B zE nL ad0 M0 M cells slots tgt lv st) : AW p l e R s m args below meth c Q D dA B zE nL ad0 M0 M cells slots pc lv (vI x :: st) :=
  fun ad H locs ls h1 h2 h3 h4 h5 h6 h7 => lv_lookup X.1 X.2.1 hd hp ho ht (k ad H locs ls h1 h2 h3 h4 h5 h6 h7.tl)
theorem aw_ldc (X : Cx p s m args meth c cc nL own Ts D dA B zE) {index : Nat} {v : Int32} (hc : Cond.constant own index v ∈ Ts) (hd : decode cc pc = .ok (.ldc index, 2)) (k : AW p l e R s m args below meth c Q D dA B zE nL ad0 M0 M cells slots (pc + 2) lv (vI v :: st)) : AW p l e R s m args below meth c Q D dA B zE nL ad0 M0 M cells slots pc lv st :=
  fun ad H locs ls h1 h2 h3 h4 h5 h6 h7 => lv_ldc X.1 X.2.1 X.2.2.2.1 (X.2.2.2.2.1 _ hc) hd (k ad H locs ls h1 h2 h3 h4 h5 h6 h7.ni)
theorem aw_ldc2 (X : Cx p s m args meth c cc nL own Ts D dA B zE) {index : Nat} {v : Int64} (hc : Cond.constantLong own index v ∈ Ts) (hd : decode cc pc = .ok (.ldc2_w index, 3)) (k : AW p l e R s m args below meth c Q D dA B zE nL ad0 M0 M cells slots (pc + 3) lv (vL v :: st)) : AW p l e R s m args below meth c Q D dA B zE nL ad0 M0 M cells slots pc lv st :=
  fun ad H locs ls h1 h2 h3 h4 h5 h6 h7 => lv_ldc2 X.1 X.2.1 X.2.2.2.1 (X.2.2.2.2.1 _ hc) hd (k ad H locs ls h1 h2 h3 h4 h5 h6 h7.nl)

end AWR
end
section
section AW2
variable {p : Program} {l : Launch} {e : Env} {R : Room} {s : State} {m : MethodId} {args : Array Value} {below : List Frame} {meth : Method} {c : Code} {Q : State → Prop} {D : va_G} {dA : Nat → ClassId} {B : Nat} {zE : Nat × Nat} {nL : Nat} {ad0 : Ro → Nat} {M0 M : wM} {cells slots pc : Nat} {lv lvn : List (Nat × AV)} {st : List AV} {cc : ByteArray} {own : String} {Ts : List Cond}

theorem Cx.hK (X : Cx p s m args meth c cc nL own Ts D dA B zE) : va_K D classes (tysA dA) s := X.2.2.2.2.2.1.1
theorem Cx.hts (X : Cx p s m args meth c cc nL own Ts D dA B zE) : ∀ w ∈ Ts, w.before args s = true := X.2.2.2.2.1
theorem Cx.hown (X : Cx p s m args meth c cc nL own Ts D dA B zE) : s.vm.findClass own = some m.cls := X.2.2.2.1
theorem Cx.hG (X : Cx p s m args meth c cc nL own Ts D dA B zE) : gP D dA B zE s := X.2.2.2.2.2.1
theorem Cx.hlk (X : Cx p s m args meth c cc nL own Ts D dA B zE) : meth.locks = false := X.2.2.2.2.2.2
theorem Cx.hA (X : Cx p s m args meth c cc nL own Ts D dA B zE) : ∀ q, s.heap.size ≤ q → wA B q := fun _ h => Nat.le_trans X.hG.2.1 h
theorem WA.ro {ad : Ro → Nat} {H : Heap} {r : Ro} {ci : Nat} {fs : List AV} (h : WA D dA B zE ad M H) (hM : M r = some (ob ci fs)) : r.1 < 90 := (h.2.1.okO hM).2
theorem WA.ra {ad : Ro → Nat} {H : Heap} {r : Ro} {t n : Nat} {f : AC} (h : WA D dA B zE ad M H) (hM : M r = some (.inr (t, n, f))) (hn : 0 < n) : r.1 < 90 := by
  rcases h.2.1 r _ hM with k | k | k
  · exact k.2
  · have := k.2
    cases this
    exact absurd hn (by decide)
  · have := k.2
    cases this
    exact absurd hn (by decide)
theorem vp_in.pos {x : Int32} {n : Nat} (h : vp_in x n) : 0 < n := by
  rcases Nat.eq_zero_or_pos n with g | g
  · exact absurd (Or.inr (by omega)) h
  · exact g
theorem WA.put {ad : Ro → Nat} {H H1 : Heap} {r : Ro} {e1 : AE} (h : WA D dA B zE ad M H) (hr : r.1 < 90) (hok : okE (up M r e1) e1) (hw : wr D classes (wA B) (w2 (cW dA ad M) r.1 r.2 (some (ad r, cvE dA ad e1))) H1) : WA D dA B zE ad (up M r e1) H1 := by
  rw [cW_up hr] at hw
  refine ⟨hw, h.2.1.up hr hok, h.2.2.1, ?_, ?_⟩
  · rw [up_n (fun q => by rw [← q] at hr; exact absurd hr (by decide))]
    exact h.2.2.2.1
  · rw [up_n (fun q => by rw [← q] at hr; exact absurd hr (by decide))]
    exact h.2.2.2.2
theorem WA.new {ad : Ro → Nat} {H H1 : Heap} {r : Ro} {q : Nat} {e1 : AE} (h : WA D dA B zE ad M H) (hn : M r = none) (hr : r.1 < 90) (hok : okE (up M r e1) e1) (hw : wr D classes (wA B) (w2 (cW dA ad M) r.1 r.2 (some (q, cvE dA (adN ad r q) e1))) H1) : WA D dA B zE (adN ad r q) (up M r e1) H1 := by
  rw [cW_new h.2.1 hn hr] at hw
  have hne : ((90, 0) : Ro) ≠ r := fun q => by rw [← q] at hr; exact absurd hr (by decide)
  have hne1 : ((91, 0) : Ro) ≠ r := fun q => by rw [← q] at hr; exact absurd hr (by decide)
  refine ⟨hw, h.2.1.up hr hok, ⟨?_, ?_⟩, ?_, ?_⟩
  · rw [adN_xt (q := q) hn (90, 0) (by rw [h.2.2.2.1]; exact fun z => nomatch z)]
    exact h.2.2.1.1
  · rw [adN_xt (q := q) hn (91, 0) (by rw [h.2.2.2.2]; exact fun z => nomatch z)]
    exact h.2.2.1.2
  · rw [up_n hne]
    exact h.2.2.2.1
  · rw [up_n hne1]
    exact h.2.2.2.2
theorem okE_set {ci k : Nat} {fs : List AV} {v : AV} {r : Ro} (hM : okE M (ob ci fs)) (hv : lv1 M v) : okE (up M r (ob ci (fs.set k v))) (ob ci (fs.set k v)) := fun w hw => by
  rcases List.mem_or_eq_of_mem_set hw with g | g
  · exact (hM w g).sb sb_up1
  · rw [g]
    exact hv.sb sb_up1
/-- the heap's steps, as the method's text has them -/
def gI (M : wM) (o : Option Ro) (ci k : Nat) (K : Int32 → Prop) : Prop := ∃ (r : Ro) (fs : List AV) (x : Int32), o = some r ∧ M r = some (ob ci fs) ∧ fs[k]? = some (vI x) ∧ K x
def gL (M : wM) (o : Option Ro) (ci k : Nat) (K : Int64 → Prop) : Prop := ∃ (r : Ro) (fs : List AV) (x : Int64), o = some r ∧ M r = some (ob ci fs) ∧ fs[k]? = some (vL x) ∧ K x
def gR (M : wM) (o : Option Ro) (ci k : Nat) (K : Option Ro → Prop) : Prop := ∃ (r : Ro) (fs : List AV) (x : Option Ro), o = some r ∧ M r = some (ob ci fs) ∧ fs[k]? = some (vR x) ∧ K x
def pF (M : wM) (o : Option Ro) (ci k : Nat) (v : AV) (K : wM → Prop) : Prop := ∃ (r : Ro) (fs : List AV), o = some r ∧ M r = some (ob ci fs) ∧ k < fs.length ∧ K (up M r (ob ci (fs.set k v)))
def pZ (M : wM) (o : Option Ro) (ci k : Nat) (x : Int32) (K : wM → Prop) : Prop := (x = 0 ∨ x = 1) ∧ pF M o ci k (vI x) K
def lI (M : wM) (o : Option Ro) (x : Int32) (K : Int32 → Prop) : Prop := ∃ (r : Ro) (n : Nat) (f : Nat → Int32), o = some r ∧ M r = some (ai 0 n f) ∧ vp_in x n ∧ K (f x.toNatClampNeg)
def lZ (M : wM) (o : Option Ro) (x : Int32) (K : Int32 → Prop) : Prop := ∃ (r : Ro) (n : Nat) (f : Nat → Int32), o = some r ∧ M r = some (ai 2 n f) ∧ vp_in x n ∧ K (f x.toNatClampNeg)
def lL (M : wM) (o : Option Ro) (x : Int32) (K : Int64 → Prop) : Prop := ∃ (r : Ro) (n : Nat) (f : Nat → Int64), o = some r ∧ M r = some (al 1 n f) ∧ vp_in x n ∧ K (f x.toNatClampNeg)
def lR (M : wM) (o : Option Ro) (x : Int32) (K : Option Ro → Prop) : Prop := ∃ (r : Ro) (t n : Nat) (f : Nat → Option Ro) (C : String), o = some r ∧ M r = some (ar t n f) ∧ aT[t]? = some (.object C) ∧ vp_in x n ∧ K (f x.toNatClampNeg)
def sI (M : wM) (o : Option Ro) (x v : Int32) (K : wM → Prop) : Prop := ∃ (r : Ro) (n : Nat) (f : Nat → Int32), o = some r ∧ M r = some (ai 0 n f) ∧ vp_in x n ∧ K (up M r (ai 0 n (upd f x.toNatClampNeg v)))
def sZ (M : wM) (o : Option Ro) (x v : Int32) (K : wM → Prop) : Prop := ∃ (r : Ro) (n : Nat) (f : Nat → Int32), o = some r ∧ M r = some (ai 2 n f) ∧ vp_in x n ∧ K (up M r (ai 2 n (upd f x.toNatClampNeg (vp_nar .boolean v))))
def sL (M : wM) (o : Option Ro) (x : Int32) (v : Int64) (K : wM → Prop) : Prop := ∃ (r : Ro) (n : Nat) (f : Nat → Int64), o = some r ∧ M r = some (al 1 n f) ∧ vp_in x n ∧ K (up M r (al 1 n (vp_updL f x.toNatClampNeg v)))
/-- an object of class ci may stand in an array of type t -/
def asg (t ci : Nat) : Prop := ∃ (q : vw_C) (E : String), classes[ci]? = some q ∧ aT[t]? = some (.object E) ∧ (E = q.1 ∨ Cond.castable q.1 E ∈ nestW)
def sR (M : wM) (o : Option Ro) (x : Int32) (v : Option Ro) (K : wM → Prop) : Prop := ∃ (r : Ro) (t n : Nat) (f : Nat → Option Ro) (C : String), o = some r ∧ M r = some (ar t n f) ∧ aT[t]? = some (.object C) ∧ vp_in x n ∧ (∀ q, v = some q → ∃ ci fs, M q = some (ob ci fs) ∧ asg t ci) ∧ K (up M r (ar t n (va_up f x.toNatClampNeg v)))
def aN (M : wM) (o : Option Ro) (K : Int32 → Prop) : Prop := ∃ (r : Ro) (t n : Nat) (f : AC), o = some r ∧ M r = some (.inr (t, n, f)) ∧ t ≠ 99 ∧ K (nI n)
def nA (M : wM) (x : Int32) (bd : Nat) (e : Nat → AE) (K : Option Ro → wM → Prop) : Prop := ¬ x < 0 ∧ x.toNatClampNeg ≤ bd ∧ ∃ r : Ro, r.1 < 90 ∧ M r = none ∧ K (some r) (up M r (e x.toNatClampNeg))
def nO (M : wM) (ci : Nat) (fs : List AV) (K : Option Ro → wM → Prop) : Prop := ∃ r : Ro, r.1 < 90 ∧ M r = none ∧ K (some r) (up M r (ob ci fs))
def ck (M : wM) (o : Option Ro) (ci : Nat) (K : Prop) : Prop := (∀ r, o = some r → ∃ fs, M r = some (ob ci fs)) ∧ K
def cV (M : wM) (o : Option Ro) (ci : Nat) (K : Prop) : Prop := (∃ r fs, o = some r ∧ M r = some (ob ci fs)) ∧ K
def cpI (M : wM) (o1 : Option Ro) (sp : Int32) (o2 : Option Ro) (dp n : Int32) (K : wM → Prop) : Prop := ∃ (r1 r2 : Ro) (n1 n2 : Nat) (f g : Nat → Int32), o1 = some r1 ∧ o2 = some r2 ∧ M r1 = some (ai 0 n1 f) ∧ M r2 = some (ai 0 n2 g) ∧ ¬ sp < 0 ∧ ¬ dp < 0 ∧ ¬ n < 0 ∧ sp.toNatClampNeg + n.toNatClampNeg ≤ n1 ∧ dp.toNatClampNeg + n.toNatClampNeg ≤ n2 ∧ 0 < n1 ∧ 0 < n2 ∧ K (up M r2 (ai 0 n2 (va_cpy f g sp.toNatClampNeg dp.toNatClampNeg n.toNatClampNeg)))
def cpL (M : wM) (o1 : Option Ro) (sp : Int32) (o2 : Option Ro) (dp n : Int32) (K : wM → Prop) : Prop := ∃ (r1 r2 : Ro) (n1 n2 : Nat) (f g : Nat → Int64), o1 = some r1 ∧ o2 = some r2 ∧ M r1 = some (al 1 n1 f) ∧ M r2 = some (al 1 n2 g) ∧ ¬ sp < 0 ∧ ¬ dp < 0 ∧ ¬ n < 0 ∧ sp.toNatClampNeg + n.toNatClampNeg ≤ n1 ∧ dp.toNatClampNeg + n.toNatClampNeg ≤ n2 ∧ 0 < n1 ∧ 0 < n2 ∧ K (up M r2 (al 1 n2 (va_cpy f g sp.toNatClampNeg dp.toNatClampNeg n.toNatClampNeg)))
def cpR (M : wM) (o1 : Option Ro) (sp : Int32) (o2 : Option Ro) (dp n : Int32) (K : wM → Prop) : Prop := ∃ (r1 r2 : Ro) (t1 t2 n1 n2 ci : Nat) (f g : Nat → Option Ro) (q : vw_C) (E1 E2 : String), o1 = some r1 ∧ o2 = some r2 ∧ M r1 = some (ar t1 n1 f) ∧ M r2 = some (ar t2 n2 g) ∧ aT[t1]? = some (.object E1) ∧ aT[t2]? = some (.object E2) ∧ classes[ci]? = some q ∧ Cond.castable q.1 E2 ∈ nestW ∧ ¬ sp < 0 ∧ ¬ dp < 0 ∧ ¬ n < 0 ∧ sp.toNatClampNeg + n.toNatClampNeg ≤ n1 ∧ dp.toNatClampNeg + n.toNatClampNeg ≤ n2 ∧ 0 < n1 ∧ 0 < n2 ∧ (∀ i, i < n.toNatClampNeg → ∀ r, f (sp.toNatClampNeg + i) = some r → ∃ fs, M r = some (ob ci fs)) ∧ K (up M r2 (ar t2 n2 (va_cpy f g sp.toNatClampNeg dp.toNatClampNeg n.toNatClampNeg)))

theorem aw_gI (X : Cx p s m args meth c cc nL own Ts D dA B zE) {ci : Nat} {C : String} {T : u_T} {N : Nat} (hc : classes[ci]? = some (C, T, N)) (hin : ∀ w ∈ u_ws C T N, w ∈ Ts) {index : Nat} {ref : String} (k : Nat) (hk : k < N) (hl : Cond.fieldLink own index ref (T k).2.1 (T k).2.2.1 ∈ Ts) (hsm : ∀ (a : Array Value) (u : State), (∀ w ∈ Ts, w.before a u = true) → ∀ x, u.fieldFound? (T k).1 (T k).2.1 (T k).2.2.1 = some x → u.fieldFound? ref (T k).2.1 (T k).2.2.1 = some x) (hd : decode cc pc = .ok (.getfield index, 3)) {o : Option Ro} (h : gI M o ci k (fun x => AW p l e R s m args below meth c Q D dA B zE nL ad0 M0 M cells slots (pc + 3) lv (vI x :: st))) : AW p l e R s m args below meth c Q D dA B zE nL ad0 M0 M cells slots pc lv (vR o :: st) := by
  obtain ⟨r, fs, x, rfl, hM, hv, kk⟩ := h
  intro ad H locs ls h1 h2 h3 h4 h5 h6 h7
  exact wr_get X.1 X.2.1 X.hts hin X.hown X.hK h3.1 r.1 r.2 (cW_at (h3.ro hM) hM) hc k hk (X.hts _ hl) (hsm _ _ X.hts) (by rw [List.getElem?_map, hv]; rfl) hd (kk ad H locs ls h1 h2 h3 h4 h5 h6 h7.tl.ni)
theorem aw_gIN (X : Cx p s m args meth c cc nL own Ts D dA B zE) {ci : Nat} {C : String} {T : u_T} {N : Nat} (hc : classes[ci]? = some (C, T, N)) (hin : ∀ w ∈ u_ws C T N, w ∈ Ts) {index : Nat} {ref : String} (k : Nat) (hk : k < N) {host : String} (hl : Cond.fieldLinkNest own index ref (T k).2.1 (T k).2.2.1 host ∈ nestW) (hsm : ∀ (a : Array Value) (u : State), (∀ w ∈ Ts, w.before a u = true) → ∀ x, u.fieldFound? (T k).1 (T k).2.1 (T k).2.2.1 = some x → u.fieldFound? ref (T k).2.1 (T k).2.2.1 = some x) (hd : decode cc pc = .ok (.getfield index, 3)) {o : Option Ro} (h : gI M o ci k (fun x => AW p l e R s m args below meth c Q D dA B zE nL ad0 M0 M cells slots (pc + 3) lv (vI x :: st))) : AW p l e R s m args below meth c Q D dA B zE nL ad0 M0 M cells slots pc lv (vR o :: st) := by
  obtain ⟨r, fs, x, rfl, hM, hv, kk⟩ := h
  intro ad H locs ls h1 h2 h3 h4 h5 h6 h7
  exact wr_getN X.1 X.2.1 X.hts hin X.hown X.hK h3.1 r.1 r.2 (cW_at (h3.ro hM) hM) hc k hk ((X.hG.2.2.2 _ hl).use (nestW_tab _ hl)) (hsm _ _ X.hts) (by rw [List.getElem?_map, hv]; rfl) hd (kk ad H locs ls h1 h2 h3 h4 h5 h6 h7.tl.ni)
theorem aw_gL (X : Cx p s m args meth c cc nL own Ts D dA B zE) {ci : Nat} {C : String} {T : u_T} {N : Nat} (hc : classes[ci]? = some (C, T, N)) (hin : ∀ w ∈ u_ws C T N, w ∈ Ts) {index : Nat} {ref : String} (k : Nat) (hk : k < N) (hl : Cond.fieldLink own index ref (T k).2.1 (T k).2.2.1 ∈ Ts) (hsm : ∀ (a : Array Value) (u : State), (∀ w ∈ Ts, w.before a u = true) → ∀ x, u.fieldFound? (T k).1 (T k).2.1 (T k).2.2.1 = some x → u.fieldFound? ref (T k).2.1 (T k).2.2.1 = some x) (hd : decode cc pc = .ok (.getfield index, 3)) {o : Option Ro} (h : gL M o ci k (fun x => AW p l e R s m args below meth c Q D dA B zE nL ad0 M0 M cells slots (pc + 3) lv (vL x :: st))) : AW p l e R s m args below meth c Q D dA B zE nL ad0 M0 M cells slots pc lv (vR o :: st) := by
  obtain ⟨r, fs, x, rfl, hM, hv, kk⟩ := h
  intro ad H locs ls h1 h2 h3 h4 h5 h6 h7
  exact wr_get X.1 X.2.1 X.hts hin X.hown X.hK h3.1 r.1 r.2 (cW_at (h3.ro hM) hM) hc k hk (X.hts _ hl) (hsm _ _ X.hts) (by rw [List.getElem?_map, hv]; rfl) hd (kk ad H locs ls h1 h2 h3 h4 h5 h6 h7.tl.nl)
theorem aw_gLN (X : Cx p s m args meth c cc nL own Ts D dA B zE) {ci : Nat} {C : String} {T : u_T} {N : Nat} (hc : classes[ci]? = some (C, T, N)) (hin : ∀ w ∈ u_ws C T N, w ∈ Ts) {index : Nat} {ref : String} (k : Nat) (hk : k < N) {host : String} (hl : Cond.fieldLinkNest own index ref (T k).2.1 (T k).2.2.1 host ∈ nestW) (hsm : ∀ (a : Array Value) (u : State), (∀ w ∈ Ts, w.before a u = true) → ∀ x, u.fieldFound? (T k).1 (T k).2.1 (T k).2.2.1 = some x → u.fieldFound? ref (T k).2.1 (T k).2.2.1 = some x) (hd : decode cc pc = .ok (.getfield index, 3)) {o : Option Ro} (h : gL M o ci k (fun x => AW p l e R s m args below meth c Q D dA B zE nL ad0 M0 M cells slots (pc + 3) lv (vL x :: st))) : AW p l e R s m args below meth c Q D dA B zE nL ad0 M0 M cells slots pc lv (vR o :: st) := by
  obtain ⟨r, fs, x, rfl, hM, hv, kk⟩ := h
  intro ad H locs ls h1 h2 h3 h4 h5 h6 h7
  exact wr_getN X.1 X.2.1 X.hts hin X.hown X.hK h3.1 r.1 r.2 (cW_at (h3.ro hM) hM) hc k hk ((X.hG.2.2.2 _ hl).use (nestW_tab _ hl)) (hsm _ _ X.hts) (by rw [List.getElem?_map, hv]; rfl) hd (kk ad H locs ls h1 h2 h3 h4 h5 h6 h7.tl.nl)
theorem aw_gR (X : Cx p s m args meth c cc nL own Ts D dA B zE) {ci : Nat} {C : String} {T : u_T} {N : Nat} (hc : classes[ci]? = some (C, T, N)) (hin : ∀ w ∈ u_ws C T N, w ∈ Ts) {index : Nat} {ref : String} (k : Nat) (hk : k < N) (hl : Cond.fieldLink own index ref (T k).2.1 (T k).2.2.1 ∈ Ts) (hsm : ∀ (a : Array Value) (u : State), (∀ w ∈ Ts, w.before a u = true) → ∀ x, u.fieldFound? (T k).1 (T k).2.1 (T k).2.2.1 = some x → u.fieldFound? ref (T k).2.1 (T k).2.2.1 = some x) (hd : decode cc pc = .ok (.getfield index, 3)) {o : Option Ro} (h : gR M o ci k (fun x => AW p l e R s m args below meth c Q D dA B zE nL ad0 M0 M cells slots (pc + 3) lv (vR x :: st))) : AW p l e R s m args below meth c Q D dA B zE nL ad0 M0 M cells slots pc lv (vR o :: st) := by
  obtain ⟨r, fs, x, rfl, hM, hv, kk⟩ := h
  intro ad H locs ls h1 h2 h3 h4 h5 h6 h7
  exact wr_get X.1 X.2.1 X.hts hin X.hown X.hK h3.1 r.1 r.2 (cW_at (h3.ro hM) hM) hc k hk (X.hts _ hl) (hsm _ _ X.hts) (by rw [List.getElem?_map, hv]; rfl) hd (kk ad H locs ls h1 h2 h3 h4 h5 h6 (h7.tl.cn ((h3.2.1.okO hM).1 _ (List.mem_of_getElem? hv))))
theorem aw_gRN (X : Cx p s m args meth c cc nL own Ts D dA B zE) {ci : Nat} {C : String} {T : u_T} {N : Nat} (hc : classes[ci]? = some (C, T, N)) (hin : ∀ w ∈ u_ws C T N, w ∈ Ts) {index : Nat} {ref : String} (k : Nat) (hk : k < N) {host : String} (hl : Cond.fieldLinkNest own index ref (T k).2.1 (T k).2.2.1 host ∈ nestW) (hsm : ∀ (a : Array Value) (u : State), (∀ w ∈ Ts, w.before a u = true) → ∀ x, u.fieldFound? (T k).1 (T k).2.1 (T k).2.2.1 = some x → u.fieldFound? ref (T k).2.1 (T k).2.2.1 = some x) (hd : decode cc pc = .ok (.getfield index, 3)) {o : Option Ro} (h : gR M o ci k (fun x => AW p l e R s m args below meth c Q D dA B zE nL ad0 M0 M cells slots (pc + 3) lv (vR x :: st))) : AW p l e R s m args below meth c Q D dA B zE nL ad0 M0 M cells slots pc lv (vR o :: st) := by
  obtain ⟨r, fs, x, rfl, hM, hv, kk⟩ := h
  intro ad H locs ls h1 h2 h3 h4 h5 h6 h7
  exact wr_getN X.1 X.2.1 X.hts hin X.hown X.hK h3.1 r.1 r.2 (cW_at (h3.ro hM) hM) hc k hk ((X.hG.2.2.2 _ hl).use (nestW_tab _ hl)) (hsm _ _ X.hts) (by rw [List.getElem?_map, hv]; rfl) hd (kk ad H locs ls h1 h2 h3 h4 h5 h6 (h7.tl.cn ((h3.2.1.okO hM).1 _ (List.mem_of_getElem? hv))))
theorem aw_pF (X : Cx p s m args meth c cc nL own Ts D dA B zE) {ci : Nat} {C : String} {T : u_T} {N : Nat} (hc : classes[ci]? = some (C, T, N)) (hin : ∀ w ∈ u_ws C T N, w ∈ Ts) {index : Nat} {ref : String} (k : Nat) (hk : k < N) (ty0 : Nat → FieldType) (hty : ∀ k, k < N → parseFieldDescriptor (T k).2.2.1 = some (ty0 k)) (hnm : ∀ a, a < N → ∀ b, b < N → a ≠ b → (T a).2.1 ≠ (T b).2.1) (hl : Cond.fieldLink own index ref (T k).2.1 (T k).2.2.1 ∈ Ts) (hsm : ∀ (a : Array Value) (u : State), (∀ w ∈ Ts, w.before a u = true) → ∀ x, u.fieldFound? (T k).1 (T k).2.1 (T k).2.2.1 = some x → u.fieldFound? ref (T k).2.1 (T k).2.2.1 = some x) (hfin : (T k).2.2.2 = false) {ty : FieldType} {v : AV} (hdt : parseFieldDescriptor (T k).2.2.1 = some ty) (hnf : ∀ ad : Ro → Nat, narrow ty (cv ad v) = cv ad v ∧ fits ty (cv ad v) = true) (hd : decode cc pc = .ok (.putfield index, 3)) {o : Option Ro} (h : pF M o ci k v (fun M' => AW p l e R s m args below meth c Q D dA B zE nL ad0 M0 M' cells slots (pc + 3) lv st)) : AW p l e R s m args below meth c Q D dA B zE nL ad0 M0 M cells slots pc lv (v :: vR o :: st) := by
  obtain ⟨r, fs, rfl, hM, hv, kk⟩ := h
  intro ad H locs ls h1 h2 h3 h4 h5 h6 h7
  refine wr_put X.1 X.2.1 X.hts hin ty0 hty hnm X.hown X.hK h3.1 h4 r.1 r.2 (cW_at (h3.ro hM) hM) hc k hk (X.hts _ hl) (hsm _ _ X.hts) hfin hdt (hnf ad).1 (hnf ad).2 (by rw [List.length_map]; exact hv) hd (fun H1 locs1 hw hS => ?_)
  refine kk ad H1 locs1 ls h1 (sb_up h2) (h3.put (h3.ro hM) (okE_set (h3.2.1.okO hM).1 h7.hd) ?_) hS h5 (h6.sb sb_up1) (h7.tl.tl.sb sb_up1)
  show wr D classes (wA B) (w2 (cW dA ad M) r.1 r.2 (some (ad r, Sum.inr (ci, (fs.set k v).map (cv ad))))) H1
  rw [List.map_set]
  exact hw
theorem aw_pFN (X : Cx p s m args meth c cc nL own Ts D dA B zE) {ci : Nat} {C : String} {T : u_T} {N : Nat} (hc : classes[ci]? = some (C, T, N)) (hin : ∀ w ∈ u_ws C T N, w ∈ Ts) {index : Nat} {ref : String} (k : Nat) (hk : k < N) (ty0 : Nat → FieldType) (hty : ∀ k, k < N → parseFieldDescriptor (T k).2.2.1 = some (ty0 k)) (hnm : ∀ a, a < N → ∀ b, b < N → a ≠ b → (T a).2.1 ≠ (T b).2.1) {host : String} (hl : Cond.fieldLinkNest own index ref (T k).2.1 (T k).2.2.1 host ∈ nestW) (hsm : ∀ (a : Array Value) (u : State), (∀ w ∈ Ts, w.before a u = true) → ∀ x, u.fieldFound? (T k).1 (T k).2.1 (T k).2.2.1 = some x → u.fieldFound? ref (T k).2.1 (T k).2.2.1 = some x) (hfin : (T k).2.2.2 = false) {ty : FieldType} {v : AV} (hdt : parseFieldDescriptor (T k).2.2.1 = some ty) (hnf : ∀ ad : Ro → Nat, narrow ty (cv ad v) = cv ad v ∧ fits ty (cv ad v) = true) (hd : decode cc pc = .ok (.putfield index, 3)) {o : Option Ro} (h : pF M o ci k v (fun M' => AW p l e R s m args below meth c Q D dA B zE nL ad0 M0 M' cells slots (pc + 3) lv st)) : AW p l e R s m args below meth c Q D dA B zE nL ad0 M0 M cells slots pc lv (v :: vR o :: st) := by
  obtain ⟨r, fs, rfl, hM, hv, kk⟩ := h
  intro ad H locs ls h1 h2 h3 h4 h5 h6 h7
  refine wr_putN X.1 X.2.1 X.hts hin ty0 hty hnm X.hown X.hK h3.1 h4 r.1 r.2 (cW_at (h3.ro hM) hM) hc k hk ((X.hG.2.2.2 _ hl).use (nestW_tab _ hl)) (hsm _ _ X.hts) hfin hdt (hnf ad).1 (hnf ad).2 (by rw [List.length_map]; exact hv) hd (fun H1 locs1 hw hS => ?_)
  refine kk ad H1 locs1 ls h1 (sb_up h2) (h3.put (h3.ro hM) (okE_set (h3.2.1.okO hM).1 h7.hd) ?_) hS h5 (h6.sb sb_up1) (h7.tl.tl.sb sb_up1)
  show wr D classes (wA B) (w2 (cW dA ad M) r.1 r.2 (some (ad r, Sum.inr (ci, (fs.set k v).map (cv ad))))) H1
  rw [List.map_set]
  exact hw
theorem aw_pFF (X : Cx p s m args meth c cc nL own Ts D dA B zE) {ci : Nat} {C : String} {T : u_T} {N : Nat} (hc : classes[ci]? = some (C, T, N)) (hin : ∀ w ∈ u_ws C T N, w ∈ Ts) {index : Nat} {ref : String} (k : Nat) (hk : k < N) (ty0 : Nat → FieldType) (hty : ∀ k, k < N → parseFieldDescriptor (T k).2.2.1 = some (ty0 k)) (hnm : ∀ a, a < N → ∀ b, b < N → a ≠ b → (T a).2.1 ≠ (T b).2.1) (hl : Cond.fieldLink own index ref (T k).2.1 (T k).2.2.1 ∈ Ts) (hsm : ∀ (a : Array Value) (u : State), (∀ w ∈ Ts, w.before a u = true) → ∀ x, u.fieldFound? (T k).1 (T k).2.1 (T k).2.2.1 = some x → u.fieldFound? ref (T k).2.1 (T k).2.2.1 = some x) (hfin : (T k).2.2.2 = true) (hin2 : meth.name = "<init>") (hdecl : (T k).1 = own) {ty : FieldType} {v : AV} (hdt : parseFieldDescriptor (T k).2.2.1 = some ty) (hnf : ∀ ad : Ro → Nat, narrow ty (cv ad v) = cv ad v ∧ fits ty (cv ad v) = true) (hd : decode cc pc = .ok (.putfield index, 3)) {o : Option Ro} (h : pF M o ci k v (fun M' => AW p l e R s m args below meth c Q D dA B zE nL ad0 M0 M' cells slots (pc + 3) lv st)) : AW p l e R s m args below meth c Q D dA B zE nL ad0 M0 M cells slots pc lv (v :: vR o :: st) := by
  obtain ⟨r, fs, rfl, hM, hv, kk⟩ := h
  intro ad H locs ls h1 h2 h3 h4 h5 h6 h7
  refine wr_putF X.1 X.2.1 X.hts hin ty0 hty hnm X.hown X.hK h3.1 h4 r.1 r.2 (cW_at (h3.ro hM) hM) hc k hk (X.hts _ hl) (hsm _ _ X.hts) hfin hin2 hdecl hdt (hnf ad).1 (hnf ad).2 (by rw [List.length_map]; exact hv) hd (fun H1 locs1 hw hS => ?_)
  refine kk ad H1 locs1 ls h1 (sb_up h2) (h3.put (h3.ro hM) (okE_set (h3.2.1.okO hM).1 h7.hd) ?_) hS h5 (h6.sb sb_up1) (h7.tl.tl.sb sb_up1)
  show wr D classes (wA B) (w2 (cW dA ad M) r.1 r.2 (some (ad r, Sum.inr (ci, (fs.set k v).map (cv ad))))) H1
  rw [List.map_set]
  exact hw
theorem aw_lI (X : Cx p s m args meth c cc nL own Ts D dA B zE) (hd : decode cc pc = .ok (.iaload, 1)) {o : Option Ro} {x : Int32} (h : lI M o x (fun y => AW p l e R s m args below meth c Q D dA B zE nL ad0 M0 M cells slots (pc + 1) lv (vI y :: st))) : AW p l e R s m args below meth c Q D dA B zE nL ad0 M0 M cells slots pc lv (vI x :: vR o :: st) := by
  obtain ⟨r, n, f, rfl, hM, hv, kk⟩ := h
  intro ad H locs ls h1 h2 h3 h4 h5 h6 h7
  exact wr_iald X.1 X.2.1 X.hK h3.1 0 r.1 r.2 (cW_at (h3.ra hM hv.pos) hM) (tysA_at rfl) hv hd (kk ad H locs ls h1 h2 h3 h4 h5 h6 h7.tl.tl.ni)
theorem aw_lZ (X : Cx p s m args meth c cc nL own Ts D dA B zE) (hd : decode cc pc = .ok (.baload, 1)) {o : Option Ro} {x : Int32} (h : lZ M o x (fun y => AW p l e R s m args below meth c Q D dA B zE nL ad0 M0 M cells slots (pc + 1) lv (vI y :: st))) : AW p l e R s m args below meth c Q D dA B zE nL ad0 M0 M cells slots pc lv (vI x :: vR o :: st) := by
  obtain ⟨r, n, f, rfl, hM, hv, kk⟩ := h
  intro ad H locs ls h1 h2 h3 h4 h5 h6 h7
  exact wr_zald X.1 X.2.1 X.hK h3.1 2 r.1 r.2 (cW_at (h3.ra hM hv.pos) hM) (tysA_at rfl) hv hd (kk ad H locs ls h1 h2 h3 h4 h5 h6 h7.tl.tl.ni)
theorem aw_lL (X : Cx p s m args meth c cc nL own Ts D dA B zE) (hd : decode cc pc = .ok (.laload, 1)) {o : Option Ro} {x : Int32} (h : lL M o x (fun y => AW p l e R s m args below meth c Q D dA B zE nL ad0 M0 M cells slots (pc + 1) lv (vL y :: st))) : AW p l e R s m args below meth c Q D dA B zE nL ad0 M0 M cells slots pc lv (vI x :: vR o :: st) := by
  obtain ⟨r, n, f, rfl, hM, hv, kk⟩ := h
  intro ad H locs ls h1 h2 h3 h4 h5 h6 h7
  exact wr_lald X.1 X.2.1 X.hK h3.1 1 r.1 r.2 (cW_at (h3.ra hM hv.pos) hM) (tysA_at rfl) hv hd (kk ad H locs ls h1 h2 h3 h4 h5 h6 h7.tl.tl.nl)
theorem aw_lR (X : Cx p s m args meth c cc nL own Ts D dA B zE) (hd : decode cc pc = .ok (.aaload, 1)) {o : Option Ro} {x : Int32} (h : lR M o x (fun y => AW p l e R s m args below meth c Q D dA B zE nL ad0 M0 M cells slots (pc + 1) lv (vR y :: st))) : AW p l e R s m args below meth c Q D dA B zE nL ad0 M0 M cells slots pc lv (vI x :: vR o :: st) := by
  obtain ⟨r, t, n, f, C, rfl, hM, ht, hv, kk⟩ := h
  intro ad H locs ls h1 h2 h3 h4 h5 h6 h7
  exact wr_aldq X.1 X.2.1 X.hK h3.1 t r.1 r.2 (cW_at (h3.ra hM hv.pos) hM) (tysA_at ht) hv hd (kk ad H locs ls h1 h2 h3 h4 h5 h6 (h7.tl.tl.cn ((h3.2.1.ok hM (h3.ra hM hv.pos)).2 _)))
theorem aw_aN (X : Cx p s m args meth c cc nL own Ts D dA B zE) (hd : decode cc pc = .ok (.arraylength, 1)) {o : Option Ro} (h : aN M o (fun y => AW p l e R s m args below meth c Q D dA B zE nL ad0 M0 M cells slots (pc + 1) lv (vI y :: st))) : AW p l e R s m args below meth c Q D dA B zE nL ad0 M0 M cells slots pc lv (vR o :: st) := by
  obtain ⟨r, t, n, f, rfl, hM, h99, kk⟩ := h
  intro ad H locs ls h1 h2 h3 h4 h5 h6 h7
  have hk := kk ad H locs ls h1 h2 h3 h4 h5 h6 h7.tl.ni
  rcases h3.2.1 r _ hM with g | g | g
  · exact wr_alen X.1 X.2.1 X.hK h3.1 t r.1 r.2 (cW_at g.2 hM) (tysA_at (List.getElem?_eq_getElem g.1.1)) rfl hd hk
  · obtain ⟨g, ge⟩ := g
    subst g
    cases ge
    show W p l e R s m args below meth c H locs cells slots Q (F0 m pc ls (.ref (ad (90, 0)) :: st.map (cv ad)))
    rw [h3.2.2.1.1]
    exact va_tlen X.1 X.2.1 X.hG.2.2.1.2.1 h4 rfl hd hk
  · have := g.2
    cases this
    exact absurd rfl h99
theorem aw_sI (X : Cx p s m args meth c cc nL own Ts D dA B zE) (hd : decode cc pc = .ok (.iastore, 1)) {o : Option Ro} {x : Int32} {v : Int32} (h : sI M o x v (fun M' => AW p l e R s m args below meth c Q D dA B zE nL ad0 M0 M' cells slots (pc + 1) lv st)) : AW p l e R s m args below meth c Q D dA B zE nL ad0 M0 M cells slots pc lv (vI v :: vI x :: vR o :: st) := by
  obtain ⟨r, n, f, rfl, hM, hv, kk⟩ := h
  intro ad H locs ls h1 h2 h3 h4 h5 h6 h7
  refine wr_iast X.1 X.2.1 X.hK h3.1 h4 0 r.1 r.2 (cW_at (h3.ra hM hv.pos) hM) (tysA_at rfl) hv hd (fun H1 locs1 hw hS => ?_)
  exact kk ad H1 locs1 ls h1 (sb_up h2) (h3.put (e1 := ai 0 n (upd f x.toNatClampNeg v)) (h3.ra hM hv.pos) ⟨(h3.2.1.ok hM (h3.ra hM hv.pos)).1, trivial⟩ hw) hS h5 (h6.sb sb_up1) (h7.tl.tl.tl.sb sb_up1)
theorem aw_sZ (X : Cx p s m args meth c cc nL own Ts D dA B zE) (hd : decode cc pc = .ok (.bastore, 1)) {o : Option Ro} {x : Int32} {v : Int32} (h : sZ M o x v (fun M' => AW p l e R s m args below meth c Q D dA B zE nL ad0 M0 M' cells slots (pc + 1) lv st)) : AW p l e R s m args below meth c Q D dA B zE nL ad0 M0 M cells slots pc lv (vI v :: vI x :: vR o :: st) := by
  obtain ⟨r, n, f, rfl, hM, hv, kk⟩ := h
  intro ad H locs ls h1 h2 h3 h4 h5 h6 h7
  refine wr_zast X.1 X.2.1 X.hK h3.1 h4 2 r.1 r.2 (cW_at (h3.ra hM hv.pos) hM) (tysA_at rfl) hv hd (fun H1 locs1 hw hS => ?_)
  exact kk ad H1 locs1 ls h1 (sb_up h2) (h3.put (e1 := ai 2 n (upd f x.toNatClampNeg (vp_nar .boolean v))) (h3.ra hM hv.pos) ⟨(h3.2.1.ok hM (h3.ra hM hv.pos)).1, trivial⟩ hw) hS h5 (h6.sb sb_up1) (h7.tl.tl.tl.sb sb_up1)
theorem aw_sL (X : Cx p s m args meth c cc nL own Ts D dA B zE) (hd : decode cc pc = .ok (.lastore, 1)) {o : Option Ro} {x : Int32} {v : Int64} (h : sL M o x v (fun M' => AW p l e R s m args below meth c Q D dA B zE nL ad0 M0 M' cells slots (pc + 1) lv st)) : AW p l e R s m args below meth c Q D dA B zE nL ad0 M0 M cells slots pc lv (vL v :: vI x :: vR o :: st) := by
  obtain ⟨r, n, f, rfl, hM, hv, kk⟩ := h
  intro ad H locs ls h1 h2 h3 h4 h5 h6 h7
  refine wr_last X.1 X.2.1 X.hK h3.1 h4 1 r.1 r.2 (cW_at (h3.ra hM hv.pos) hM) (tysA_at rfl) hv hd (fun H1 locs1 hw hS => ?_)
  exact kk ad H1 locs1 ls h1 (sb_up h2) (h3.put (e1 := al 1 n (vp_updL f x.toNatClampNeg v)) (h3.ra hM hv.pos) ⟨(h3.2.1.ok hM (h3.ra hM hv.pos)).1, trivial⟩ hw) hS h5 (h6.sb sb_up1) (h7.tl.tl.tl.sb sb_up1)
theorem va_up_map {ad : Ro → Nat} {f : Nat → Option Ro} {i : Nat} {v : Option Ro} : (fun j => (va_up f i v j).map ad) = va_up (fun j => (f j).map ad) i (v.map ad) := by
  funext j
  by_cases h : j = i <;> simp [va_up, h]
theorem aw_sR (X : Cx p s m args meth c cc nL own Ts D dA B zE) (hd : decode cc pc = .ok (.aastore, 1)) {o v : Option Ro} {x : Int32} (h : sR M o x v (fun M' => AW p l e R s m args below meth c Q D dA B zE nL ad0 M0 M' cells slots (pc + 1) lv st)) : AW p l e R s m args below meth c Q D dA B zE nL ad0 M0 M cells slots pc lv (vR v :: vI x :: vR o :: st) := by
  obtain ⟨r, t, n, f, C, rfl, hM, ht, hv, hcl, kk⟩ := h
  intro ad H locs ls h1 h2 h3 h4 h5 h6 h7
  have hok : okE (up M r (ar t n (va_up f x.toNatClampNeg v))) (ar t n (va_up f x.toNatClampNeg v)) := by
    refine ⟨(h3.2.1.ok hM (h3.ra hM hv.pos)).1, fun j => ?_⟩
    by_cases hj : j = x.toNatClampNeg
    · have : va_up f x.toNatClampNeg v j = v := by simp [va_up, hj]
      rw [this]
      exact h7.hd.sb sb_up1
    · have : va_up f x.toNatClampNeg v j = f j := by simp [va_up, hj]
      rw [this]
      exact ((h3.2.1.ok hM (h3.ra hM hv.pos)).2 j).sb sb_up1
  have fin : ∀ (H1 : Heap) (locs1 : List Loc), wr D classes (wA B) (w2 (cW dA ad M) r.1 r.2 (some (ad r, .inl (dA t, n, .inr (.inr (.inr (.inr (va_up (fun j => (f j).map ad) x.toNatClampNeg (v.map ad)))))))) ) H1 → va_S (wA B) s.heap H1 locs1 → W p l e R s m args below meth c H1 locs1 cells slots Q (F0 m (pc + 1) ls (st.map (cv ad))) := fun H1 locs1 hw hS => by
    refine kk ad H1 locs1 ls h1 (sb_up h2) (h3.put (h3.ra hM hv.pos) hok ?_) hS h5 (h6.sb sb_up1) (h7.tl.tl.tl.sb sb_up1)
    show wr D classes (wA B) (w2 (cW dA ad M) r.1 r.2 (some (ad r, Sum.inl (dA t, n, Sum.inr (Sum.inr (Sum.inr (Sum.inr (fun j => (va_up f x.toNatClampNeg v j).map ad)))))))) H1
    rw [va_up_map]
    exact hw
  cases v with
  | none => exact wr_astqN X.1 X.2.1 X.hK h3.1 h4 t r.1 r.2 (cW_at (h3.ra hM hv.pos) hM) (tysA_at ht) hv hd fin
  | some z =>
    obtain ⟨ci, fs, hz, q, E, hq, hE, hor⟩ := hcl z rfl
    have hCE : C = E := by
      rw [ht] at hE
      cases hE
      rfl
    subst hCE
    rcases hor with hor | hor
    · exact wr_astq X.1 X.2.1 X.hK h3.1 h4 t ci r.1 r.2 (cW_at (h3.ra hM hv.pos) hM) (tysA_at (hor ▸ ht)) z.1 z.2 (cW_at (h3.ro hz) hz) hq hv hd fin
    · exact wr_astqO X.1 X.2.1 X.hK h3.1 h4 t ci r.1 r.2 (cW_at (h3.ra hM hv.pos) hM) (tysA_at ht) (X.hG.2.2.2 _ hor) z.1 z.2 (cW_at (h3.ro hz) hz) hq hv hd fin
theorem va_RA.uniq {U : State} {c1 c2 : ClassId} {ty : FieldType} (g1 : va_RA U c1 ty) (g2 : va_RA U c2 ty) : c1 = c2 := by
  cases ty with
  | object C =>
    obtain ⟨_, _, _, _, _, g1⟩ := g1
    obtain ⟨_, _, _, _, _, g2⟩ := g2
    exact Option.some.inj (g1.symm.trans g2)
  | _ => exact Option.some.inj (Eq.trans (Eq.symm g1) g2)
theorem tysA_last {dA : Nat → ClassId} {x : ClassId × FieldType} : (tysA dA ++ [x])[(tysA dA).length]? = some x := by simp
theorem aw_nO (X : Cx p s m args meth c cc nL own Ts D dA B zE) {ci : Nat} {C : String} {T : u_T} {N index : Nat} (hc : classes[ci]? = some (C, T, N)) (hin : ∀ w ∈ u_ws C T N, w ∈ Ts) (ty : Nat → FieldType) (hty : ∀ k, k < N → parseFieldDescriptor (T k).2.2.1 = some (ty k)) (hcl : Cond.classLink own index C ∈ Ts) (hinst : Cond.instantiable C N ∈ Ts) (hini : Cond.initialized C ∈ Ts) {fs : List AV} (hfs : ∀ (ad : Ro → Nat) j, j < N → defaultValue (ty j) = vp_V (fs.map (cv ad)) j) (hl : ∀ M : wM, ∀ v ∈ fs, lv1 M v) (hcells : cells + 1 ≤ R.cells) (hslots : slots + N ≤ R.slots) (hd : decode cc pc = .ok (.new index, 3)) (h : nO M ci fs (fun r M' => AW p l e R s m args below meth c Q D dA B zE nL ad0 M0 M' (cells + 1) (slots + N) (pc + 3) lv (vR r :: st))) : AW p l e R s m args below meth c Q D dA B zE nL ad0 M0 M cells slots pc lv st := by
  obtain ⟨r, hr, hn, kk⟩ := h
  intro ad H locs ls h1 h2 h3 h4 h5 h6 h7
  refine wr_new X.1 X.2.1 X.hts hin ty hty X.hown (X.hts _ hcl) (X.hts _ hinst) (X.hts _ hini) X.hK h3.1 h4 X.hA hc (hfs ad) hcells hslots hd r.1 r.2 (fun q H1 hw hS => ?_)
  have hx := adN_xt (ad := ad) (q := q) hn
  have hcvf : fs.map (cv (adN ad r q)) = fs.map (cv ad) := cvs_xt hx (hl M)
  have hk := kk (adN ad r q) H1 locs ls (fun z hz => (hx z (h2 z hz)).trans (h1 z hz)) (sb_up h2) (h3.new hn hr (hl _) (by
    show wr D classes (wA B) (w2 (cW dA ad M) r.1 r.2 (some (q, Sum.inr (ci, fs.map (cv (adN ad r q)))))) H1
    rw [hcvf]
    exact hw)) hS (by rw [cvL_xt hx h6]; exact h5) (h6.sb sb_up1) ((h7.sb sb_up1).cn (lv1_R up_s))
  have e1 : (vR (some r) :: st).map (cv (adN ad r q)) = .ref q :: st.map (cv ad) := by
    show .ref (adN ad r q r) :: st.map (cv (adN ad r q)) = _
    rw [adN_s, cvs_xt hx h7]
  rw [e1] at hk
  exact hk
theorem aw_nAI (X : Cx p s m args meth c cc nL own Ts D dA B zE) {atype : ArrayType} (hat : newarray.typeOf atype = .int) (harr : Cond.arrayClass (newarray.typeOf atype) ∈ Ts) (bd : Nat) (hbd : bd * componentBytes .int ≤ 536870912) (hcells : cells + 1 ≤ R.cells) (hslots : slots + bd ≤ R.slots) (hd : decode cc pc = .ok (.newarray atype, 2)) {x : Int32} (h : nA M x bd (fun n => ai 0 n (fun _ => 0)) (fun r M' => AW p l e R s m args below meth c Q D dA B zE nL ad0 M0 M' (cells + 1) (slots + bd) (pc + 2) lv (vR r :: st))) : AW p l e R s m args below meth c Q D dA B zE nL ad0 M0 M cells slots pc lv (vI x :: st) := by
  obtain ⟨hx0, hxb, r, hr, hn, kk⟩ := h
  intro ad H locs ls h1 h2 h3 h4 h5 h6 h7
  refine wr_newa0 (a0 := (x.toNatClampNeg, .inl (fun _ => 0))) X.1 X.2.1 (X.hts _ harr) hat X.hK h3.1 h4 X.hA (fun cA => rfl) hx0 rfl (Nat.le_trans (Nat.mul_le_mul_right _ hxb) hbd) hcells (Nat.le_trans (Nat.add_le_add_left hxb _) hslots) hd r.1 r.2 (fun q cA H1 hK1 hw hS => ?_)
  have hcA : cA = dA 0 := (hK1.2 (tysA dA).length (cA, .int) tysA_last).2.uniq (X.hK.2 0 _ (tysA_at rfl)).2
  subst hcA
  refine W.widen (Nat.le_refl _) (Nat.add_le_add_left hxb _) ?_
  have hx := adN_xt (ad := ad) (q := q) hn
  have hk := kk (adN ad r q) H1 locs ls (fun z hz => (hx z (h2 z hz)).trans (h1 z hz)) (sb_up h2) (h3.new hn hr ⟨(by decide : 0 < aT.length), trivial⟩ hw) hS (by rw [cvL_xt hx h6]; exact h5) (h6.sb sb_up1) ((h7.tl.sb sb_up1).cn (lv1_R up_s))
  have e1 : (vR (some r) :: st).map (cv (adN ad r q)) = .ref q :: st.map (cv ad) := by
    show .ref (adN ad r q r) :: st.map (cv (adN ad r q)) = _
    rw [adN_s, cvs_xt hx h7.tl]
  rw [e1] at hk
  exact hk
theorem aw_nAZ (X : Cx p s m args meth c cc nL own Ts D dA B zE) {atype : ArrayType} (hat : newarray.typeOf atype = .boolean) (harr : Cond.arrayClass (newarray.typeOf atype) ∈ Ts) (bd : Nat) (hbd : bd * componentBytes .boolean ≤ 536870912) (hcells : cells + 1 ≤ R.cells) (hslots : slots + bd ≤ R.slots) (hd : decode cc pc = .ok (.newarray atype, 2)) {x : Int32} (h : nA M x bd (fun n => ai 2 n (fun _ => 0)) (fun r M' => AW p l e R s m args below meth c Q D dA B zE nL ad0 M0 M' (cells + 1) (slots + bd) (pc + 2) lv (vR r :: st))) : AW p l e R s m args below meth c Q D dA B zE nL ad0 M0 M cells slots pc lv (vI x :: st) := by
  obtain ⟨hx0, hxb, r, hr, hn, kk⟩ := h
  intro ad H locs ls h1 h2 h3 h4 h5 h6 h7
  refine wr_newa0 (a0 := (x.toNatClampNeg, .inl (fun _ => 0))) X.1 X.2.1 (X.hts _ harr) hat X.hK h3.1 h4 X.hA (fun cA => rfl) hx0 rfl (Nat.le_trans (Nat.mul_le_mul_right _ hxb) hbd) hcells (Nat.le_trans (Nat.add_le_add_left hxb _) hslots) hd r.1 r.2 (fun q cA H1 hK1 hw hS => ?_)
  have hcA : cA = dA 2 := (hK1.2 (tysA dA).length (cA, .boolean) tysA_last).2.uniq (X.hK.2 2 _ (tysA_at rfl)).2
  subst hcA
  refine W.widen (Nat.le_refl _) (Nat.add_le_add_left hxb _) ?_
  have hx := adN_xt (ad := ad) (q := q) hn
  have hk := kk (adN ad r q) H1 locs ls (fun z hz => (hx z (h2 z hz)).trans (h1 z hz)) (sb_up h2) (h3.new hn hr ⟨(by decide : 2 < aT.length), trivial⟩ hw) hS (by rw [cvL_xt hx h6]; exact h5) (h6.sb sb_up1) ((h7.tl.sb sb_up1).cn (lv1_R up_s))
  have e1 : (vR (some r) :: st).map (cv (adN ad r q)) = .ref q :: st.map (cv ad) := by
    show .ref (adN ad r q r) :: st.map (cv (adN ad r q)) = _
    rw [adN_s, cvs_xt hx h7.tl]
  rw [e1] at hk
  exact hk
theorem aw_nAL (X : Cx p s m args meth c cc nL own Ts D dA B zE) {atype : ArrayType} (hat : newarray.typeOf atype = .long) (harr : Cond.arrayClass (newarray.typeOf atype) ∈ Ts) (bd : Nat) (hbd : bd * componentBytes .long ≤ 536870912) (hcells : cells + 1 ≤ R.cells) (hslots : slots + bd ≤ R.slots) (hd : decode cc pc = .ok (.newarray atype, 2)) {x : Int32} (h : nA M x bd (fun n => al 1 n (fun _ => 0)) (fun r M' => AW p l e R s m args below meth c Q D dA B zE nL ad0 M0 M' (cells + 1) (slots + bd) (pc + 2) lv (vR r :: st))) : AW p l e R s m args below meth c Q D dA B zE nL ad0 M0 M cells slots pc lv (vI x :: st) := by
  obtain ⟨hx0, hxb, r, hr, hn, kk⟩ := h
  intro ad H locs ls h1 h2 h3 h4 h5 h6 h7
  refine wr_newa0 (a0 := (x.toNatClampNeg, .inr (.inl (fun _ => 0)))) X.1 X.2.1 (X.hts _ harr) hat X.hK h3.1 h4 X.hA (fun cA => rfl) hx0 rfl (Nat.le_trans (Nat.mul_le_mul_right _ hxb) hbd) hcells (Nat.le_trans (Nat.add_le_add_left hxb _) hslots) hd r.1 r.2 (fun q cA H1 hK1 hw hS => ?_)
  have hcA : cA = dA 1 := (hK1.2 (tysA dA).length (cA, .long) tysA_last).2.uniq (X.hK.2 1 _ (tysA_at rfl)).2
  subst hcA
  refine W.widen (Nat.le_refl _) (Nat.add_le_add_left hxb _) ?_
  have hx := adN_xt (ad := ad) (q := q) hn
  have hk := kk (adN ad r q) H1 locs ls (fun z hz => (hx z (h2 z hz)).trans (h1 z hz)) (sb_up h2) (h3.new hn hr ⟨(by decide : 1 < aT.length), trivial⟩ hw) hS (by rw [cvL_xt hx h6]; exact h5) (h6.sb sb_up1) ((h7.tl.sb sb_up1).cn (lv1_R up_s))
  have e1 : (vR (some r) :: st).map (cv (adN ad r q)) = .ref q :: st.map (cv ad) := by
    show .ref (adN ad r q r) :: st.map (cv (adN ad r q)) = _
    rw [adN_s, cvs_xt hx h7.tl]
  rw [e1] at hk
  exact hk
theorem aw_nAR (X : Cx p s m args meth c cc nL own Ts D dA B zE) {C : String} {index t : Nat} (ht : aT[t]? = some (.object C)) (htl : t < aT.length) (hcl : Cond.classLink own index C ∈ Ts) (hov : va_AO C s) (bd : Nat) (hbd : bd * 4 ≤ 536870912) (hcells : cells + 1 ≤ R.cells) (hslots : slots + bd ≤ R.slots) (hd : decode cc pc = .ok (.anewarray index, 3)) {x : Int32} (h : nA M x bd (fun n => ar t n (fun _ => none)) (fun r M' => AW p l e R s m args below meth c Q D dA B zE nL ad0 M0 M' (cells + 1) (slots + bd) (pc + 3) lv (vR r :: st))) : AW p l e R s m args below meth c Q D dA B zE nL ad0 M0 M cells slots pc lv (vI x :: st) := by
  obtain ⟨hx0, hxb, r, hr, hn, kk⟩ := h
  intro ad H locs ls h1 h2 h3 h4 h5 h6 h7
  refine wr_newq0 X.1 X.2.1 X.hown (X.hts _ hcl) hov X.hK h3.1 h4 X.hA hx0 rfl (Nat.le_trans (Nat.mul_le_mul_right _ hxb) hbd) hcells (Nat.le_trans (Nat.add_le_add_left hxb _) hslots) hd r.1 r.2 (fun q cA H1 hK1 hw hS => ?_)
  have hcA : cA = dA t := (hK1.2 (tysA dA).length (cA, .object C) tysA_last).2.uniq (X.hK.2 t _ (tysA_at ht)).2
  subst hcA
  refine W.widen (Nat.le_refl _) (Nat.add_le_add_left hxb _) ?_
  have hx := adN_xt (ad := ad) (q := q) hn
  have hk := kk (adN ad r q) H1 locs ls (fun z hz => (hx z (h2 z hz)).trans (h1 z hz)) (sb_up h2) (h3.new hn hr ⟨htl, fun _ => lv1_N⟩ hw) hS (by rw [cvL_xt hx h6]; exact h5) (h6.sb sb_up1) ((h7.tl.sb sb_up1).cn (lv1_R up_s))
  have e1 : (vR (some r) :: st).map (cv (adN ad r q)) = .ref q :: st.map (cv ad) := by
    show .ref (adN ad r q r) :: st.map (cv (adN ad r q)) = _
    rw [adN_s, cvs_xt hx h7.tl]
  rw [e1] at hk
  exact hk
theorem WA.recv {ad : Ro → Nat} {H : Heap} {r : Ro} {ci : Nat} {fs : List AV} {q : vw_C} (h : WA D dA B zE ad M H) (hK : va_K D classes (tysA dA) s) (hq : classes[ci]? = some q) (hM : M r = some (ob ci fs)) : ∃ cell : Cell, H[ad r]? = some cell ∧ cell.vm.isStatics = false ∧ s.vm.findClass q.1 = some cell.cls := wr_recv hK h.1 hq (cW_at (dA := dA) (ad := ad) (h.ro hM) hM)
theorem aw_ck (X : Cx p s m args meth c cc nL own Ts D dA B zE) {ci index : Nat} {q : vw_C} (hq : classes[ci]? = some q) (hl : Cond.classLink own index q.1 ∈ Ts) (hd : decode cc pc = .ok (.checkcast index, 3)) {o : Option Ro} (h : ck M o ci (AW p l e R s m args below meth c Q D dA B zE nL ad0 M0 M cells slots (pc + 3) lv (vR o :: st))) : AW p l e R s m args below meth c Q D dA B zE nL ad0 M0 M cells slots pc lv (vR o :: st) := by
  obtain ⟨hr, kk⟩ := h
  intro ad H locs ls h1 h2 h3 h4 h5 h6 h7
  have hk := kk ad H locs ls h1 h2 h3 h4 h5 h6 h7
  cases o with
  | none => exact lv_castN X.1 X.2.1 hd hk
  | some r =>
    obtain ⟨fs, hM⟩ := hr r rfl
    exact va_castE X.1 X.2.1 X.hown (X.hts _ hl) (h3.recv X.hK hq hM) hd hk
def ns (x y : Option Ro) : Prop := ¬ (x = some (90, 0) ∧ y = some (91, 0)) ∧ ¬ (x = some (91, 0) ∧ y = some (90, 0))
theorem WA.stat {ad : Ro → Nat} {H : Heap} {r : Ro} (h : WA D dA B zE ad M H) (hz : ¬ wA B zE.1 ∧ ¬ wA B zE.2) (hr : M r ≠ none) : (r.1 < 90 ∧ wA B (ad r)) ∨ (¬ wA B (ad r) ∧ (r = (90, 0) ∨ r = (91, 0))) := by
  cases er : M r with
  | none => exact absurd er hr
  | some x =>
    rcases h.2.1 r _ er with g | g | g
    · exact Or.inl ⟨g.2, h.1.inA (cW_at (dA := dA) (ad := ad) g.2 er)⟩
    · refine Or.inr ⟨?_, Or.inl g.1⟩
      rw [g.1, h.2.2.1.1]
      exact hz.1
    · refine Or.inr ⟨?_, Or.inr g.1⟩
      rw [g.1, h.2.2.1.2]
      exact hz.2
theorem WA.inj {ad : Ro → Nat} {H : Heap} {a b : Ro} (h : WA D dA B zE ad M H) (hz : ¬ wA B zE.1 ∧ ¬ wA B zE.2) (hs : ns (some a) (some b)) (ha : M a ≠ none) (hb : M b ≠ none) (he : ad a = ad b) : a = b := by
  rcases h.stat hz ha with ga | ga <;> rcases h.stat hz hb with gb | gb
  · cases ea : M a with
    | none => exact absurd ea ha
    | some xa =>
      cases eb : M b with
      | none => exact absurd eb hb
      | some xb =>
        have h1 := cW_at (dA := dA) (ad := ad) ga.1 ea
        have h2 := cW_at (dA := dA) (ad := ad) gb.1 eb
        rw [← he] at h2
        have := h.1.one h1 h2
        exact Prod.ext this.1 this.2
  · exact absurd (he ▸ ga.2) gb.1
  · exact absurd (he.symm ▸ gb.2) ga.1
  · rcases ga.2 with ra | ra <;> rcases gb.2 with rb | rb
    · exact ra.trans rb.symm
    · exact absurd ⟨congrArg some ra, congrArg some rb⟩ hs.1
    · exact absurd ⟨congrArg some ra, congrArg some rb⟩ hs.2
    · exact ra.trans rb.symm
theorem WA.injO {ad : Ro → Nat} {H : Heap} {a b : Option Ro} (h : WA D dA B zE ad M H) (hz : ¬ wA B zE.1 ∧ ¬ wA B zE.2) (hs : ns a b) (ha : lv1 M (vR a)) (hb : lv1 M (vR b)) : a.map ad = b.map ad ↔ a = b := by
  constructor
  · intro he
    cases a with
    | none =>
      cases b with
      | none => rfl
      | some y => exact nomatch he
    | some x =>
      cases b with
      | none => exact nomatch he
      | some y => rw [h.inj hz hs (ha x rfl) (hb y rfl) (Option.some.inj he)]
  · intro he
    rw [he]
theorem aw_acmp_eq (X : Cx p s m args meth c cc nL own Ts D dA B zE) {x y : Option Ro} {off : Int} {tgt : Nat} (hns : ns x y) (hd : decode cc pc = .ok (.if_acmp .eq off, 3)) (ht : (pc : Int) + off = (tgt : Int)) (kt : x = y → AW p l e R s m args below meth c Q D dA B zE nL ad0 M0 M cells slots tgt lv st) (kf : ¬ x = y → AW p l e R s m args below meth c Q D dA B zE nL ad0 M0 M cells slots (pc + 3) lv st) : AW p l e R s m args below meth c Q D dA B zE nL ad0 M0 M cells slots pc lv (vR y :: vR x :: st) := by
  intro ad H locs ls h1 h2 h3 h4 h5 h6 h7
  have hi := h3.injO (gStat_out X.hG.2.2.1) hns h7.tl.hd h7.hd
  exact lv_acmp_eq X.1 X.2.1 hd ht (fun q => kt (hi.mp q) ad H locs ls h1 h2 h3 h4 h5 h6 h7.tl.tl) (fun q => kf (fun z => q (hi.mpr z)) ad H locs ls h1 h2 h3 h4 h5 h6 h7.tl.tl)
theorem aw_acmp_ne (X : Cx p s m args meth c cc nL own Ts D dA B zE) {x y : Option Ro} {off : Int} {tgt : Nat} (hns : ns x y) (hd : decode cc pc = .ok (.if_acmp .ne off, 3)) (ht : (pc : Int) + off = (tgt : Int)) (kt : ¬ x = y → AW p l e R s m args below meth c Q D dA B zE nL ad0 M0 M cells slots tgt lv st) (kf : x = y → AW p l e R s m args below meth c Q D dA B zE nL ad0 M0 M cells slots (pc + 3) lv st) : AW p l e R s m args below meth c Q D dA B zE nL ad0 M0 M cells slots pc lv (vR y :: vR x :: st) := by
  intro ad H locs ls h1 h2 h3 h4 h5 h6 h7
  have hi := h3.injO (gStat_out X.hG.2.2.1) hns h7.tl.hd h7.hd
  exact lv_acmp_ne X.1 X.2.1 hd ht (fun q => kt (fun z => q (hi.mpr z)) ad H locs ls h1 h2 h3 h4 h5 h6 h7.tl.tl) (fun q => kf (hi.mp q) ad H locs ls h1 h2 h3 h4 h5 h6 h7.tl.tl)
/-- the static empty array -/
theorem aw_gets (X : Cx p s m args meth c cc nL own Ts D dA B zE) {index : Nat} {ref : String} (hl : Cond.fieldLink own index ref gsN gsD ∈ Ts) (hr : ref = gsC) (hd : decode cc pc = .ok (.getstatic index, 3)) (k : AW p l e R s m args below meth c Q D dA B zE nL ad0 M0 M cells slots (pc + 3) lv (vR (some (90, 0)) :: st)) : AW p l e R s m args below meth c Q D dA B zE nL ad0 M0 M cells slots pc lv st := by
  subst hr
  intro ad H locs ls h1 h2 h3 h4 h5 h6 h7
  have hk := k ad H locs ls h1 h2 h3 h4 h5 h6 (h7.cn (lv1_R h3.2.2.2.1))
  have e1 : (vR (some (90, 0)) :: st).map (cv ad) = .ref zE.1 :: st.map (cv ad) := by
    show .ref (ad (90, 0)) :: st.map (cv ad) = _
    rw [h3.2.2.1.1]
  rw [e1] at hk
  exact va_gets X.1 X.2.1 X.hG.2.2.1.1 h4 X.hown (X.hts _ hl) (fun _ h => h) hd hk

/-- the class object of Object[] -/
theorem aw_ldcM (X : Cx p s m args meth c cc nL own Ts D dA B zE) {index : Nat} (hl : Cond.classLink own index gsD ∈ Ts) (hd : decode cc pc = .ok (.ldc index, 2)) (k : AW p l e R s m args below meth c Q D dA B zE nL ad0 M0 M cells slots (pc + 2) lv (vR (some (91, 0)) :: st)) : AW p l e R s m args below meth c Q D dA B zE nL ad0 M0 M cells slots pc lv st := by
  intro ad H locs ls h1 h2 h3 h4 h5 h6 h7
  have hk := k ad H locs ls h1 h2 h3 h4 h5 h6 (h7.cn (lv1_R h3.2.2.2.2))
  have e1 : (vR (some (91, 0)) :: st).map (cv ad) = .ref zE.2 :: st.map (cv ad) := by
    show .ref (ad (91, 0)) :: st.map (cv ad) = _
    rw [h3.2.2.1.2]
  rw [e1] at hk
  exact va_ldcM X.1 X.2.1 X.hown (X.hts _ hl) X.hG.2.2.1.2.2.1 hd hk
def gC (M : wM) (o : Option Ro) (K : Prop) : Prop := (∃ (r : Ro) (n : Nat) (f : Nat → Option Ro), o = some r ∧ r.1 < 90 ∧ M r = some (ar 3 n f)) ∧ K
abbrev gcN : MethodName := ⟨"java/lang/Object", "getClass", "()Ljava/lang/Class;"⟩
theorem aw_gC (X : Cx p s m args meth c cc nL own Ts D dA B zE) {index : Nat} (hl : Cond.methodLink own index gcN ∈ Ts) (hde : Cond.declares gcN ∈ nestW) (hse : Cond.selects gsD gcN gcN ∈ Ts) (him : Cond.instanceMethod gcN ∈ Ts) (hna : Cond.native gcN ∈ Ts) (hfr : 1 ≤ R.frames) (hlo : (st.map acat).sum + 14 ≤ R.locals) (hd : decode cc pc = .ok (.invokevirtual index, 3)) {o : Option Ro} (h : gC M o (AW p l e R s m args below meth c Q D dA B zE nL ad0 M0 M cells slots (pc + 3) lv (vR (some (91, 0)) :: st))) : AW p l e R s m args below meth c Q D dA B zE nL ad0 M0 M cells slots pc lv (vR o :: st) := by
  obtain ⟨⟨r, n, f, rfl, hr, hM⟩, k⟩ := h
  intro ad H locs ls h1 h2 h3 h4 h5 h6 h7
  have hk := k ad H locs ls h1 h2 h3 h4 h5 h6 (h7.tl.cn (lv1_R h3.2.2.2.2))
  have e1 : (vR (some (91, 0)) :: st).map (cv ad) = .ref zE.2 :: st.map (cv ad) := by
    show .ref (ad (91, 0)) :: st.map (cv ad) = _
    rw [h3.2.2.1.2]
  rw [e1] at hk
  have hP := h3.1.P (cW_at (dA := dA) (ad := ad) hr hM)
  have hc : H[ad r]? = some (vp_cell (dA 3) (n, .inr (.inr (.inr (.inr (fun j => (f j).map ad)))))) := hP 0 _ rfl
  have hra := (X.hK.2 3 _ (tysA_at (dA := dA) (t := 3) rfl)).2
  obtain ⟨_, _, _, _, _, hf⟩ := hra
  exact va_getC (C := gsD) X.1 X.2.1 (by rw [X.2.2.1]; exact h5.1.symm) X.hown (X.hts _ hl) ((X.hG.2.2.2 _ hde).use (nestW_tab _ hde)) (X.hts _ hse) (X.hts _ him) (X.hts _ hna) X.hG.2.2.1.2.2.1 ⟨_, hc, rfl, hf⟩ hfr (by rw [List.map_map, show (fun v : Value => v.category) ∘ cv ad = acat from funext (cv_cat ad)]; exact hlo) hd hk
def nn (o : Option Ro) (K : Prop) : Prop := (∃ r : Ro, o = some r) ∧ K
theorem aw_objInit (X : Cx p s m args meth c cc nL own Ts D dA B zE) {index : Nat} (hl : Cond.methodLink own index Lib.objectInit ∈ Ts) (him : Cond.instanceMethod Lib.objectInit ∈ Ts) (hco : Cond.code Lib.objectInit ⟨#[0xb1]⟩ 1 none ∈ Ts) (hfr : 1 ≤ R.frames) (hlo : (st.map acat).sum + 12 ≤ R.locals) (hd : decode cc pc = .ok (.invokespecial index, 3)) {r : Ro} (k : AW p l e R s m args below meth c Q D dA B zE nL ad0 M0 M cells slots (pc + 3) lv st) : AW p l e R s m args below meth c Q D dA B zE nL ad0 M0 M cells slots pc lv (vR (some r) :: st) := by
  intro ad H locs ls h1 h2 h3 h4 h5 h6 h7
  refine W.objInit X.1 X.2.1 X.hown (X.hts _ hl) (X.hts _ him) (X.hts _ hco) rfl (by rw [X.2.2.1]; exact h5.1) rfl hd hfr ?_ (k ad H locs ls h1 h2 h3 h4 h5 h6 h7.tl)
  rw [List.map_map, show (fun v : Value => v.category) ∘ cv ad = acat from funext (cv_cat ad)]
  show 2 * 0 + _ + 12 ≤ _
  omega

theorem aw_cpI (X : Cx p s m args meth c cc nL own Ts D dA B zE) {index : Nat} (hl : Cond.methodLink own index arraycopyName ∈ Ts) (hnat : Cond.native arraycopyName ∈ Ts) (hsta : Cond.static arraycopyName ∈ Ts) (hini : Cond.initialized "java/lang/System" ∈ Ts) (hfr : 1 ≤ R.frames) (hlo : (st.map acat).sum + (nativeFrameWords "java/lang/System" "arraycopy" 5 + 11) ≤ R.locals) (hd : decode cc pc = .ok (.invokestatic index, 3)) {o1 o2 : Option Ro} {sp dp n : Int32} (h : cpI M o1 sp o2 dp n (fun M' => AW p l e R s m args below meth c Q D dA B zE nL ad0 M0 M' cells slots (pc + 3) lv st)) : AW p l e R s m args below meth c Q D dA B zE nL ad0 M0 M cells slots pc lv (vI n :: vI dp :: vR o2 :: vI sp :: vR o1 :: st) := by
  obtain ⟨r1, r2, n1, n2, f, g, rfl, rfl, hM1, hM2, g1, g2, g3, g4, g5, g6, g7, kk⟩ := h
  intro ad H locs ls h1 h2 h3 h4 h5 h6 h7
  refine wr_copyi X.1 X.2.1 (by rw [X.2.2.1]; exact h5.1.symm) X.hown (X.hts _ hl) (X.hts _ hnat) (X.hts _ hsta) (X.hts _ hini) X.hK h3.1 h4 0 0 r1.1 r1.2 (cW_at (h3.ra hM1 g6) hM1) r2.1 r2.2 (cW_at (h3.ra hM2 g7) hM2) (tysA_at rfl) (tysA_at rfl) rfl g1 g2 g3 g4 g5 (fun _ _ => rfl) hfr (by rw [List.map_map, show (fun v : Value => v.category) ∘ cv ad = acat from funext (cv_cat ad)]; exact hlo) hd (fun H1 locs1 hw hS => ?_)
  exact kk ad H1 locs1 ls h1 (sb_up h2) (h3.put (e1 := ai 0 n2 (va_cpy f g sp.toNatClampNeg dp.toNatClampNeg n.toNatClampNeg)) (h3.ra hM2 g7) ⟨(h3.2.1.ok hM2 (h3.ra hM2 g7)).1, trivial⟩ hw) hS h5 (h6.sb sb_up1) (h7.tl.tl.tl.tl.tl.sb sb_up1)
theorem aw_cpL (X : Cx p s m args meth c cc nL own Ts D dA B zE) {index : Nat} (hl : Cond.methodLink own index arraycopyName ∈ Ts) (hnat : Cond.native arraycopyName ∈ Ts) (hsta : Cond.static arraycopyName ∈ Ts) (hini : Cond.initialized "java/lang/System" ∈ Ts) (hfr : 1 ≤ R.frames) (hlo : (st.map acat).sum + (nativeFrameWords "java/lang/System" "arraycopy" 5 + 11) ≤ R.locals) (hd : decode cc pc = .ok (.invokestatic index, 3)) {o1 o2 : Option Ro} {sp dp n : Int32} (h : cpL M o1 sp o2 dp n (fun M' => AW p l e R s m args below meth c Q D dA B zE nL ad0 M0 M' cells slots (pc + 3) lv st)) : AW p l e R s m args below meth c Q D dA B zE nL ad0 M0 M cells slots pc lv (vI n :: vI dp :: vR o2 :: vI sp :: vR o1 :: st) := by
  obtain ⟨r1, r2, n1, n2, f, g, rfl, rfl, hM1, hM2, g1, g2, g3, g4, g5, g6, g7, kk⟩ := h
  intro ad H locs ls h1 h2 h3 h4 h5 h6 h7
  refine wr_copyl X.1 X.2.1 (by rw [X.2.2.1]; exact h5.1.symm) X.hown (X.hts _ hl) (X.hts _ hnat) (X.hts _ hsta) (X.hts _ hini) X.hK h3.1 h4 1 1 r1.1 r1.2 (cW_at (h3.ra hM1 g6) hM1) r2.1 r2.2 (cW_at (h3.ra hM2 g7) hM2) (tysA_at rfl) (tysA_at rfl) rfl g1 g2 g3 g4 g5 (fun _ _ => rfl) hfr (by rw [List.map_map, show (fun v : Value => v.category) ∘ cv ad = acat from funext (cv_cat ad)]; exact hlo) hd (fun H1 locs1 hw hS => ?_)
  exact kk ad H1 locs1 ls h1 (sb_up h2) (h3.put (e1 := al 1 n2 (va_cpy f g sp.toNatClampNeg dp.toNatClampNeg n.toNatClampNeg)) (h3.ra hM2 g7) ⟨(h3.2.1.ok hM2 (h3.ra hM2 g7)).1, trivial⟩ hw) hS h5 (h6.sb sb_up1) (h7.tl.tl.tl.tl.tl.sb sb_up1)
theorem va_cpy_map {ad : Ro → Nat} {f g : Nat → Option Ro} {a b n : Nat} : (fun j => (va_cpy f g a b n j).map ad) = va_cpy (fun j => (f j).map ad) (fun j => (g j).map ad) a b n := by
  funext j
  by_cases h : b ≤ j ∧ j < b + n <;> simp [va_cpy, h]
theorem aw_cpR (X : Cx p s m args meth c cc nL own Ts D dA B zE) {index : Nat} (hl : Cond.methodLink own index arraycopyName ∈ Ts) (hnat : Cond.native arraycopyName ∈ Ts) (hsta : Cond.static arraycopyName ∈ Ts) (hini : Cond.initialized "java/lang/System" ∈ Ts) (hfr : 1 ≤ R.frames) (hlo : (st.map acat).sum + (nativeFrameWords "java/lang/System" "arraycopy" 5 + 11) ≤ R.locals) (hd : decode cc pc = .ok (.invokestatic index, 3)) {o1 o2 : Option Ro} {sp dp n : Int32} (h : cpR M o1 sp o2 dp n (fun M' => AW p l e R s m args below meth c Q D dA B zE nL ad0 M0 M' cells slots (pc + 3) lv st)) : AW p l e R s m args below meth c Q D dA B zE nL ad0 M0 M cells slots pc lv (vI n :: vI dp :: vR o2 :: vI sp :: vR o1 :: st) := by
  obtain ⟨r1, r2, t1, t2, n1, n2, ci, f, g, q, E1, E2, rfl, rfl, hM1, hM2, ht1, ht2, hq, hca, g1, g2, g3, g4, g5, g6, g7, hel, kk⟩ := h
  intro ad H locs ls h1 h2 h3 h4 h5 h6 h7
  refine wr_copyq (C := q.1) X.1 X.2.1 (by rw [X.2.2.1]; exact h5.1.symm) X.hown (X.hts _ hl) (X.hts _ hnat) (X.hts _ hsta) (X.hts _ hini) X.hK h3.1 h4 t1 t2 r1.1 r1.2 (cW_at (h3.ra hM1 g6) hM1) r2.1 r2.2 (cW_at (h3.ra hM2 g7) hM2) (tysA_at ht1) (tysA_at ht2) g1 g2 g3 g4 g5 (fun i hi y hy => ?_) (vb_asgC (X.hG.2.2.2 _ hca)) hfr (by rw [List.map_map, show (fun v : Value => v.category) ∘ cv ad = acat from funext (cv_cat ad)]; exact hlo) hd (fun H1 locs1 hw hS => ?_)
  · cases hf : f (sp.toNatClampNeg + i) with
    | none =>
      rw [hf] at hy
      exact nomatch hy
    | some r =>
      rw [hf] at hy
      cases hy
      obtain ⟨fs, hfs⟩ := hel i hi r hf
      exact h3.recv X.hK hq hfs
  · refine kk ad H1 locs1 ls h1 (sb_up h2) (h3.put (e1 := ar t2 n2 (va_cpy f g sp.toNatClampNeg dp.toNatClampNeg n.toNatClampNeg)) (h3.ra hM2 g7) ⟨(h3.2.1.ok hM2 (h3.ra hM2 g7)).1, fun j => ?_⟩ ?_) hS h5 (h6.sb sb_up1) (h7.tl.tl.tl.tl.tl.sb sb_up1)
    · by_cases hj : dp.toNatClampNeg ≤ j ∧ j < dp.toNatClampNeg + n.toNatClampNeg
      · have : va_cpy f g sp.toNatClampNeg dp.toNatClampNeg n.toNatClampNeg j = f (sp.toNatClampNeg + (j - dp.toNatClampNeg)) := by simp [va_cpy, hj]
        rw [this]
        exact ((h3.2.1.ok hM1 (h3.ra hM1 g6)).2 _).sb sb_up1
      · have : va_cpy f g sp.toNatClampNeg dp.toNatClampNeg n.toNatClampNeg j = g j := by simp [va_cpy, hj]
        rw [this]
        exact ((h3.2.1.ok hM2 (h3.ra hM2 g7)).2 _).sb sb_up1
    · show wr D classes (wA B) (w2 (cW dA ad M) r2.1 r2.2 (some (ad r2, Sum.inl (dA t2, n2, Sum.inr (Sum.inr (Sum.inr (Sum.inr (fun j => (va_cpy f g sp.toNatClampNeg dp.toNatClampNeg n.toNatClampNeg j).map ad)))))))) H1
      rw [va_cpy_map]
      exact hw
/-- contracts: the answer and the heap behind, in the method's own words -/
abbrev QI (D : va_G) (dA : Nat → ClassId) (B : Nat) (zE : Nat × Nat) (M : wM) (ad : Ro → Nat) (post : Int32 → wM → Prop) : Array Value → State → Outcome → State → Prop := va_Qi (fun x (u : (Ro → Nat) × wM) => post x u.2 ∧ sb M u.2 ∧ xt M ad u.1) (fun u t => WA D dA B zE u.1 u.2 t.heap) (wA B)
abbrev QL (D : va_G) (dA : Nat → ClassId) (B : Nat) (zE : Nat × Nat) (M : wM) (ad : Ro → Nat) (post : Int64 → wM → Prop) : Array Value → State → Outcome → State → Prop := va_Ql (fun x (u : (Ro → Nat) × wM) => post x u.2 ∧ sb M u.2 ∧ xt M ad u.1) (fun u t => WA D dA B zE u.1 u.2 t.heap) (wA B)
abbrev QV (D : va_G) (dA : Nat → ClassId) (B : Nat) (zE : Nat × Nat) (M : wM) (ad : Ro → Nat) (post : wM → Prop) : Array Value → State → Outcome → State → Prop := va_Qv (fun (u : (Ro → Nat) × wM) => post u.2 ∧ sb M u.2 ∧ xt M ad u.1) (fun u t => WA D dA B zE u.1 u.2 t.heap) (wA B)
abbrev QR (D : va_G) (dA : Nat → ClassId) (B : Nat) (zE : Nat × Nat) (M : wM) (ad : Ro → Nat) (post : Option Ro → wM → Prop) : Array Value → State → Outcome → State → Prop := va_Qq (fun x (u : (Ro → Nat) × wM) => ∃ o : Option Ro, x = o.map u.1 ∧ lv1 u.2 (vR o) ∧ post o u.2 ∧ sb M u.2 ∧ xt M ad u.1) (fun u t => WA D dA B zE u.1 u.2 t.heap) (wA B)
abbrev PA (D : va_G) (dA : Nat → ClassId) (B : Nat) (zE : Nat × Nat) (M : wM) (ad : Ro → Nat) (av : List AV) : Array Value → State → Prop := va_Pc (av.map (cv ad)) (fun U => gP D dA B zE U ∧ WA D dA B zE ad M U.heap)
theorem PA_blind {ad : Ro → Nat} {av : List AV} : FrameBlind (PA D dA B zE M ad av) := fun a U g mk q => ⟨q.1, q.2.1.blind a g mk, q.2.2⟩
theorem PA_pre {ad : Ro → Nat} {av : List AV} {H : Heap} {locs : List Loc} (hG : gP D dA B zE s) (h3 : WA D dA B zE ad M H) (h4 : va_S (wA B) s.heap H locs) : ∀ U : State, U.heap = H → s.WarmedH U.vm → PA D dA B zE M ad av (av.map (cv ad)).toArray U := fun U hU hW => ⟨rfl, hG.call h4 hU hW, by rw [hU]; exact h3⟩
def alv : Nat → List AV → List (Nat × AV)
  | _, [] => []
  | i, v :: vs => (i, v) :: alv (if acat v = 2 then i + 2 else i + 1) vs
theorem alv_cv {ad : Ro → Nat} : ∀ (av : List AV) (i : Nat), lv_args i (av.map (cv ad)) = cvL ad (alv i av)
  | [], _ => rfl
  | v :: vs, i => by
    show (i, cv ad v) :: lv_args (if (cv ad v).category = 2 then i + 2 else i + 1) (vs.map (cv ad)) = _
    rw [cv_cat, alv_cv vs]
    rfl
theorem alv_live {M : wM} : ∀ (av : List AV) (i : Nat), lvS M av → lvL M (alv i av)
  | [], _, _ => fun _ h => nomatch h
  | v :: vs, i, h => fun q hq => by
    rcases List.mem_cons.mp hq with g | g
    · rw [g]
      exact h.hd
    · exact alv_live vs _ h.tl q g
theorem sl_len {ad : Ro → Nat} : ∀ (av : List AV), (lg_sl (av.map (cv ad))).length = (av.map acat).sum
  | [] => rfl
  | v :: vs => by
    show ((if (cv ad v).category = 2 then [Slot.val (cv ad v), Slot.second] else [Slot.val (cv ad v)]) ++ lg_sl (vs.map (cv ad))).length = _
    rw [List.length_append, sl_len vs, cv_cat]
    rcases v with x | x | r <;> simp [acat]
/-- a method's contract out of a walk of its body -/
theorem AW_start {y : MethodName} {ws ws' : List Cond} {rm : Room} {Qc : Array Value → State → Outcome → State → Prop} {mc ms : Nat} {maxL : Nat} {ret : Option FieldType} {ad : Ro → Nat} (av : List AV) (lv0 : List (Nat × AV)) (hlv : lvS M av)
    (hy : plainName y.cls = true) (hw : ws = Cond.code y cc maxL ret :: ws') (hsub : ∀ w ∈ Ts, w ∈ ws) (h0 : alv 0 av = lv0) (hl0 : (av.map acat).sum ≤ maxL)
    (body : ∀ p e s m args below meth c, Cx p s m args meth c cc maxL y.cls Ts D dA B zE → meth.sig.returnType = ret → meth.name = y.name → AW p l e (headSpec ws rm).room s m args below meth c (MQ below Qc args s mc ms (wA B)) D dA B zE maxL ad M M 0 0 0 lv0 []) :
    Met l y ws rm (PA D dA B zE M ad av) Qc mc ms (wA B) := by
  refine Met.ofW hy hw ?_
  intro p e s m args below meth c s₁ BB hml hv
  obtain ⟨rfl, hG, hW⟩ := hv
  have hl := lv_entry (av.map (cv ad)) (n := maxL) (by rw [sl_len]; exact hl0)
  rw [lg_entry_eq]
  rw [alv_cv, h0] at hl
  exact body p e s m _ below meth c ⟨BB.exec, BB.bytes, hml, findClass_of_methodNamed BB.named, fun w h => atoms_spec (ws := ws) BB.pre w (hsub w h), hG, BB.notSynchronized⟩ BB.returns (name_of_methodNamed BB.named BB.method).1 ad s.heap [] _ (fun _ _ => rfl) sb_rf hW va_S.rf hl (h0 ▸ alv_live av 0 hlv) lvS_nil

theorem aw_iret (X : Cx p s m args meth c cc nL own Ts D dA B zE) {mc ms : Nat} {post : Int32 → wM → Prop} {x : Int32} (hr : meth.sig.returnType = some .int) (hc : cells ≤ mc) (hs : slots ≤ ms) (hd : decode cc pc = .ok (.ireturn, 1)) (hp : post x M) : AW p l e R s m args below meth c (MQ below (QI D dA B zE M0 ad0 post) args s mc ms (wA B)) D dA B zE nL ad0 M0 M cells slots pc lv [vI x] := by
  intro ad H locs ls h1 h2 h3 h4 h5 h6 h7
  refine W.widen hc hs ?_
  exact W.iret (v := x) X.1 X.2.1 hr (fun t ht hW => ⟨⟨x, (ad, M), rfl, ⟨hp, h2, h1⟩, by subst ht; exact h3⟩, h4.F ht⟩) h4.2.2 hd X.hlk
theorem aw_zret (X : Cx p s m args meth c cc nL own Ts D dA B zE) {mc ms : Nat} {post : Int32 → wM → Prop} {x : Int32} (hr : meth.sig.returnType = some .boolean) (hx : x = 0 ∨ x = 1) (hc : cells ≤ mc) (hs : slots ≤ ms) (hd : decode cc pc = .ok (.ireturn, 1)) (hp : post x M) : AW p l e R s m args below meth c (MQ below (QI D dA B zE M0 ad0 post) args s mc ms (wA B)) D dA B zE nL ad0 M0 M cells slots pc lv [vI x] := by
  intro ad H locs ls h1 h2 h3 h4 h5 h6 h7
  refine W.widen hc hs ?_
  exact W.zret (v := x) X.1 X.2.1 hr (by rcases hx with rfl | rfl <;> rfl) (fun t ht hW => ⟨⟨x, (ad, M), rfl, ⟨hp, h2, h1⟩, by subst ht; exact h3⟩, h4.F ht⟩) h4.2.2 hd X.hlk
theorem aw_lret (X : Cx p s m args meth c cc nL own Ts D dA B zE) {mc ms : Nat} {post : Int64 → wM → Prop} {x : Int64} (hr : meth.sig.returnType = some .long) (hc : cells ≤ mc) (hs : slots ≤ ms) (hd : decode cc pc = .ok (.lreturn, 1)) (hp : post x M) : AW p l e R s m args below meth c (MQ below (QL D dA B zE M0 ad0 post) args s mc ms (wA B)) D dA B zE nL ad0 M0 M cells slots pc lv [vL x] := by
  intro ad H locs ls h1 h2 h3 h4 h5 h6 h7
  refine W.widen hc hs ?_
  exact W.lret (v := x) X.1 X.2.1 hr (fun t ht hW => ⟨⟨x, (ad, M), rfl, ⟨hp, h2, h1⟩, by subst ht; exact h3⟩, h4.F ht⟩) h4.2.2 hd X.hlk
theorem aw_vret (X : Cx p s m args meth c cc nL own Ts D dA B zE) {mc ms : Nat} {post : wM → Prop} (hr : meth.sig.returnType = none) (hc : cells ≤ mc) (hs : slots ≤ ms) (hd : decode cc pc = .ok (.return_, 1)) (hp : post M) : AW p l e R s m args below meth c (MQ below (QV D dA B zE M0 ad0 post) args s mc ms (wA B)) D dA B zE nL ad0 M0 M cells slots pc lv [] := by
  intro ad H locs ls h1 h2 h3 h4 h5 h6 h7
  refine W.widen hc hs ?_
  exact W.vret X.1 X.2.1 hr (fun t ht hW => ⟨⟨(ad, M), rfl, ⟨hp, h2, h1⟩, by subst ht; exact h3⟩, h4.F ht⟩) h4.2.2 hd X.hlk
theorem aw_aret (X : Cx p s m args meth c cc nL own Ts D dA B zE) {mc ms : Nat} {post : Option Ro → wM → Prop} {x : Option Ro} {rt : FieldType} (hr : meth.sig.returnType = some rt) (hrt : (∃ n, rt = .object n) ∨ ∃ t, rt = .array t) (hc : cells ≤ mc) (hs : slots ≤ ms) (hd : decode cc pc = .ok (.areturn, 1)) (hp : post x M) : AW p l e R s m args below meth c (MQ below (QR D dA B zE M0 ad0 post) args s mc ms (wA B)) D dA B zE nL ad0 M0 M cells slots pc lv [vR x] := by
  intro ad H locs ls h1 h2 h3 h4 h5 h6 h7
  refine W.widen hc hs ?_
  exact W.aret (v := va_rf (x.map ad)) X.1 X.2.1 hr hrt (by cases x <;> simp [va_rf]) (fun t ht hW => ⟨⟨x.map ad, (ad, M), rfl, ⟨x, rfl, h7.hd, hp, h2, h1⟩, by subst ht; exact h3⟩, h4.F ht⟩) h4.2.2 hd X.hlk
theorem aw_cVi (X : Cx p s m args meth c cc nL own Ts D dA B zE) {y : MethodName} {bytes : ByteArray} {maxL mc ms n index : Nat} {ret : Option FieldType} {ws : List Cond} {rm : Room} {C : String} {r : Ro} {post : Int32 → wM → Prop} (As : List AV) (hM : ∀ ad : Ro → Nat, lvS M (vR (some r) :: As) → Met l y ws rm (PA D dA B zE M ad (vR (some r) :: As)) (QI D dA B zE M ad post) mc ms (wA B)) (cw : CallW R s args own C index y bytes maxL ret ws rm mc ms n) (hob : ∃ (ci : Nat) (fs : List AV) (q : vw_C), M r = some (ob ci fs) ∧ classes[ci]? = some q ∧ q.1 = C) {st0 : List AV} (hst : st0 = As.reverse ++ vR (some r) :: st) (hn : As.length = n) (hrm : (st.map acat).sum ≤ 8) (hd : decode cc pc = .ok (.invokevirtual index, 3)) (hf : cells + mc ≤ R.cells ∧ slots + ms ≤ R.slots) (k : ∀ x M', post x M' → AW p l e R s m args below meth c Q D dA B zE nL ad0 M0 M' (cells + mc) (slots + ms) (pc + 3) lv (vI x :: st)) : AW p l e R s m args below meth c Q D dA B zE nL ad0 M0 M cells slots pc lv st0 := by
  intro ad H locs ls h1 h2 h3 h4 h5 h6 h7
  have hst7 : lvS M st := fun v hv => h7 v (by rw [hst]; exact List.mem_append_right _ (List.mem_cons_of_mem _ hv))
  have hAs : lvS M (vR (some r) :: As) := fun v hv => h7 v (by rw [hst]; rcases List.mem_cons.mp hv with g | g; exact List.mem_append_right _ (g ▸ List.mem_cons_self); exact List.mem_append_left _ (List.mem_reverse.mpr g))
  have hstk : st0.map (cv ad) = (As.map (cv ad)).reverse ++ .ref (ad r) :: st.map (cv ad) := by rw [hst, List.map_append, List.map_reverse]; rfl
  obtain ⟨ci, fs, q, hMr, hq, hqC⟩ := hob
  refine va_calli (va_runV (As := As.map (cv ad)) (rest := st.map (cv ad)) ⟨X.1, X.2.1, X.2.2.1, X.hown, X.hts⟩ (hM ad hAs) cw ⟨PA_blind, hqC ▸ h3.recv X.hK hq hMr, PA_pre X.hG h3 h4⟩ rfl (by rw [List.length_map]; exact hn) h5.1 hstk (lv_room (by rw [List.map_map, show (fun v : Value => v.category) ∘ cv ad = acat from funext (cv_cat ad)]; exact hrm)) hd hf) h4 (fun q _ h => h) (fun q h => h) (fun x u t H1 locs1 ht hvm hp hB hz hk hS => ?_)
  obtain ⟨hp1, hp2, hp3⟩ := hp
  have hk := k x u.2 hp1 u.1 H1 locs1 ls (fun z hz => (hp3 z (h2 z hz)).trans (h1 z hz)) (sb_tr h2 hp2) (by rw [← ht]; exact hB) hS (by rw [cvL_xt hp3 h6]; exact h5) (h6.sb hp2) (hst7.sb hp2).ni
  have e1 : (vI x :: st).map (cv u.1) = .int x :: st.map (cv ad) := by rw [List.map_cons, cvs_xt hp3 hst7]; rfl
  rw [e1] at hk
  exact hk
theorem aw_cVl (X : Cx p s m args meth c cc nL own Ts D dA B zE) {y : MethodName} {bytes : ByteArray} {maxL mc ms n index : Nat} {ret : Option FieldType} {ws : List Cond} {rm : Room} {C : String} {r : Ro} {post : Int64 → wM → Prop} (As : List AV) (hM : ∀ ad : Ro → Nat, lvS M (vR (some r) :: As) → Met l y ws rm (PA D dA B zE M ad (vR (some r) :: As)) (QL D dA B zE M ad post) mc ms (wA B)) (cw : CallW R s args own C index y bytes maxL ret ws rm mc ms n) (hob : ∃ (ci : Nat) (fs : List AV) (q : vw_C), M r = some (ob ci fs) ∧ classes[ci]? = some q ∧ q.1 = C) {st0 : List AV} (hst : st0 = As.reverse ++ vR (some r) :: st) (hn : As.length = n) (hrm : (st.map acat).sum ≤ 8) (hd : decode cc pc = .ok (.invokevirtual index, 3)) (hf : cells + mc ≤ R.cells ∧ slots + ms ≤ R.slots) (k : ∀ x M', post x M' → AW p l e R s m args below meth c Q D dA B zE nL ad0 M0 M' (cells + mc) (slots + ms) (pc + 3) lv (vL x :: st)) : AW p l e R s m args below meth c Q D dA B zE nL ad0 M0 M cells slots pc lv st0 := by
  intro ad H locs ls h1 h2 h3 h4 h5 h6 h7
  have hst7 : lvS M st := fun v hv => h7 v (by rw [hst]; exact List.mem_append_right _ (List.mem_cons_of_mem _ hv))
  have hAs : lvS M (vR (some r) :: As) := fun v hv => h7 v (by rw [hst]; rcases List.mem_cons.mp hv with g | g; exact List.mem_append_right _ (g ▸ List.mem_cons_self); exact List.mem_append_left _ (List.mem_reverse.mpr g))
  have hstk : st0.map (cv ad) = (As.map (cv ad)).reverse ++ .ref (ad r) :: st.map (cv ad) := by rw [hst, List.map_append, List.map_reverse]; rfl
  obtain ⟨ci, fs, q, hMr, hq, hqC⟩ := hob
  refine va_calll (va_runV (As := As.map (cv ad)) (rest := st.map (cv ad)) ⟨X.1, X.2.1, X.2.2.1, X.hown, X.hts⟩ (hM ad hAs) cw ⟨PA_blind, hqC ▸ h3.recv X.hK hq hMr, PA_pre X.hG h3 h4⟩ rfl (by rw [List.length_map]; exact hn) h5.1 hstk (lv_room (by rw [List.map_map, show (fun v : Value => v.category) ∘ cv ad = acat from funext (cv_cat ad)]; exact hrm)) hd hf) h4 (fun q _ h => h) (fun q h => h) (fun x u t H1 locs1 ht hvm hp hB hz hk hS => ?_)
  obtain ⟨hp1, hp2, hp3⟩ := hp
  have hk := k x u.2 hp1 u.1 H1 locs1 ls (fun z hz => (hp3 z (h2 z hz)).trans (h1 z hz)) (sb_tr h2 hp2) (by rw [← ht]; exact hB) hS (by rw [cvL_xt hp3 h6]; exact h5) (h6.sb hp2) (hst7.sb hp2).nl
  have e1 : (vL x :: st).map (cv u.1) = .long x :: st.map (cv ad) := by rw [List.map_cons, cvs_xt hp3 hst7]; rfl
  rw [e1] at hk
  exact hk
theorem aw_cVv (X : Cx p s m args meth c cc nL own Ts D dA B zE) {y : MethodName} {bytes : ByteArray} {maxL mc ms n index : Nat} {ret : Option FieldType} {ws : List Cond} {rm : Room} {C : String} {r : Ro} {post : wM → Prop} (As : List AV) (hM : ∀ ad : Ro → Nat, lvS M (vR (some r) :: As) → Met l y ws rm (PA D dA B zE M ad (vR (some r) :: As)) (QV D dA B zE M ad post) mc ms (wA B)) (cw : CallW R s args own C index y bytes maxL ret ws rm mc ms n) (hob : ∃ (ci : Nat) (fs : List AV) (q : vw_C), M r = some (ob ci fs) ∧ classes[ci]? = some q ∧ q.1 = C) {st0 : List AV} (hst : st0 = As.reverse ++ vR (some r) :: st) (hn : As.length = n) (hrm : (st.map acat).sum ≤ 8) (hd : decode cc pc = .ok (.invokevirtual index, 3)) (hf : cells + mc ≤ R.cells ∧ slots + ms ≤ R.slots) (k : ∀ M', post M' → AW p l e R s m args below meth c Q D dA B zE nL ad0 M0 M' (cells + mc) (slots + ms) (pc + 3) lv (st)) : AW p l e R s m args below meth c Q D dA B zE nL ad0 M0 M cells slots pc lv st0 := by
  intro ad H locs ls h1 h2 h3 h4 h5 h6 h7
  have hst7 : lvS M st := fun v hv => h7 v (by rw [hst]; exact List.mem_append_right _ (List.mem_cons_of_mem _ hv))
  have hAs : lvS M (vR (some r) :: As) := fun v hv => h7 v (by rw [hst]; rcases List.mem_cons.mp hv with g | g; exact List.mem_append_right _ (g ▸ List.mem_cons_self); exact List.mem_append_left _ (List.mem_reverse.mpr g))
  have hstk : st0.map (cv ad) = (As.map (cv ad)).reverse ++ .ref (ad r) :: st.map (cv ad) := by rw [hst, List.map_append, List.map_reverse]; rfl
  obtain ⟨ci, fs, q, hMr, hq, hqC⟩ := hob
  refine va_callv (va_runV (As := As.map (cv ad)) (rest := st.map (cv ad)) ⟨X.1, X.2.1, X.2.2.1, X.hown, X.hts⟩ (hM ad hAs) cw ⟨PA_blind, hqC ▸ h3.recv X.hK hq hMr, PA_pre X.hG h3 h4⟩ rfl (by rw [List.length_map]; exact hn) h5.1 hstk (lv_room (by rw [List.map_map, show (fun v : Value => v.category) ∘ cv ad = acat from funext (cv_cat ad)]; exact hrm)) hd hf) h4 (fun q _ h => h) (fun q h => h) (fun u t H1 locs1 ht hvm hp hB hz hk hS => ?_)
  obtain ⟨hp1, hp2, hp3⟩ := hp
  have hk := k u.2 hp1 u.1 H1 locs1 ls (fun z hz => (hp3 z (h2 z hz)).trans (h1 z hz)) (sb_tr h2 hp2) (by rw [← ht]; exact hB) hS (by rw [cvL_xt hp3 h6]; exact h5) (h6.sb hp2) (hst7.sb hp2)
  have e1 : st.map (cv u.1) = st.map (cv ad) := cvs_xt hp3 hst7
  rw [e1] at hk
  exact hk
theorem aw_cVr (X : Cx p s m args meth c cc nL own Ts D dA B zE) {y : MethodName} {bytes : ByteArray} {maxL mc ms n index : Nat} {ret : Option FieldType} {ws : List Cond} {rm : Room} {C : String} {r : Ro} {post : Option Ro → wM → Prop} (As : List AV) (hM : ∀ ad : Ro → Nat, lvS M (vR (some r) :: As) → Met l y ws rm (PA D dA B zE M ad (vR (some r) :: As)) (QR D dA B zE M ad post) mc ms (wA B)) (cw : CallW R s args own C index y bytes maxL ret ws rm mc ms n) (hob : ∃ (ci : Nat) (fs : List AV) (q : vw_C), M r = some (ob ci fs) ∧ classes[ci]? = some q ∧ q.1 = C) {st0 : List AV} (hst : st0 = As.reverse ++ vR (some r) :: st) (hn : As.length = n) (hrm : (st.map acat).sum ≤ 8) (hd : decode cc pc = .ok (.invokevirtual index, 3)) (hf : cells + mc ≤ R.cells ∧ slots + ms ≤ R.slots) (k : ∀ x M', post x M' → AW p l e R s m args below meth c Q D dA B zE nL ad0 M0 M' (cells + mc) (slots + ms) (pc + 3) lv (vR x :: st)) : AW p l e R s m args below meth c Q D dA B zE nL ad0 M0 M cells slots pc lv st0 := by
  intro ad H locs ls h1 h2 h3 h4 h5 h6 h7
  have hst7 : lvS M st := fun v hv => h7 v (by rw [hst]; exact List.mem_append_right _ (List.mem_cons_of_mem _ hv))
  have hAs : lvS M (vR (some r) :: As) := fun v hv => h7 v (by rw [hst]; rcases List.mem_cons.mp hv with g | g; exact List.mem_append_right _ (g ▸ List.mem_cons_self); exact List.mem_append_left _ (List.mem_reverse.mpr g))
  have hstk : st0.map (cv ad) = (As.map (cv ad)).reverse ++ .ref (ad r) :: st.map (cv ad) := by rw [hst, List.map_append, List.map_reverse]; rfl
  obtain ⟨ci, fs, q, hMr, hq, hqC⟩ := hob
  refine va_callq (va_runV (As := As.map (cv ad)) (rest := st.map (cv ad)) ⟨X.1, X.2.1, X.2.2.1, X.hown, X.hts⟩ (hM ad hAs) cw ⟨PA_blind, hqC ▸ h3.recv X.hK hq hMr, PA_pre X.hG h3 h4⟩ rfl (by rw [List.length_map]; exact hn) h5.1 hstk (lv_room (by rw [List.map_map, show (fun v : Value => v.category) ∘ cv ad = acat from funext (cv_cat ad)]; exact hrm)) hd hf) h4 (fun q _ h => h) (fun q h => h) (fun x u t H1 locs1 ht hvm hp hB hz hk hS => ?_)
  obtain ⟨o, ho, hlo, hp1, hp2, hp3⟩ := hp
  have hk := k o u.2 hp1 u.1 H1 locs1 ls (fun z hz => (hp3 z (h2 z hz)).trans (h1 z hz)) (sb_tr h2 hp2) (by rw [← ht]; exact hB) hS (by rw [cvL_xt hp3 h6]; exact h5) (h6.sb hp2) ((hst7.sb hp2).cn hlo)
  have e1 : (vR o :: st).map (cv u.1) = va_rf x :: st.map (cv ad) := by rw [List.map_cons, cvs_xt hp3 hst7, ho]; rfl
  rw [e1] at hk
  exact hk
theorem aw_cSi (X : Cx p s m args meth c cc nL own Ts D dA B zE) {y : MethodName} {bytes : ByteArray} {maxL mc ms n index : Nat} {ret : Option FieldType} {ws : List Cond} {rm : Room} {post : Int32 → wM → Prop} (As : List AV) (hM : ∀ ad : Ro → Nat, lvS M (As) → Met l y ws rm (PA D dA B zE M ad (As)) (QI D dA B zE M ad post) mc ms (wA B)) (cw : CallB R s args own index y bytes maxL ret ws rm mc ms n ∧ (Cond.static y).before args s = true) {st0 : List AV} (hst : st0 = As.reverse ++ st) (hn : As.length = n) (hrm : (st.map acat).sum ≤ 8) (hd : decode cc pc = .ok (.invokestatic index, 3)) (hf : cells + mc ≤ R.cells ∧ slots + ms ≤ R.slots) (k : ∀ x M', post x M' → AW p l e R s m args below meth c Q D dA B zE nL ad0 M0 M' (cells + mc) (slots + ms) (pc + 3) lv (vI x :: st)) : AW p l e R s m args below meth c Q D dA B zE nL ad0 M0 M cells slots pc lv st0 := by
  intro ad H locs ls h1 h2 h3 h4 h5 h6 h7
  have hst7 : lvS M st := fun v hv => h7 v (by rw [hst]; exact List.mem_append_right _ hv)
  have hAs : lvS M As := fun v hv => h7 v (by rw [hst]; exact List.mem_append_left _ (List.mem_reverse.mpr hv))
  have hstk : st0.map (cv ad) = (As.map (cv ad)).reverse ++ st.map (cv ad) := by rw [hst, List.map_append, List.map_reverse]
  refine va_calli (va_runS (As := As.map (cv ad)) (rest := st.map (cv ad)) ⟨X.1, X.2.1, X.2.2.1, X.hown, X.hts⟩ (hM ad hAs) cw ⟨PA_blind, PA_pre X.hG h3 h4⟩ rfl (by rw [List.length_map]; exact hn) h5.1 hstk (lv_room (by rw [List.map_map, show (fun v : Value => v.category) ∘ cv ad = acat from funext (cv_cat ad)]; exact hrm)) hd hf) h4 (fun q _ h => h) (fun q h => h) (fun x u t H1 locs1 ht hvm hp hB hz hk hS => ?_)
  obtain ⟨hp1, hp2, hp3⟩ := hp
  have hk := k x u.2 hp1 u.1 H1 locs1 ls (fun z hz => (hp3 z (h2 z hz)).trans (h1 z hz)) (sb_tr h2 hp2) (by rw [← ht]; exact hB) hS (by rw [cvL_xt hp3 h6]; exact h5) (h6.sb hp2) (hst7.sb hp2).ni
  have e1 : (vI x :: st).map (cv u.1) = .int x :: st.map (cv ad) := by rw [List.map_cons, cvs_xt hp3 hst7]; rfl
  rw [e1] at hk
  exact hk
theorem aw_cSl (X : Cx p s m args meth c cc nL own Ts D dA B zE) {y : MethodName} {bytes : ByteArray} {maxL mc ms n index : Nat} {ret : Option FieldType} {ws : List Cond} {rm : Room} {post : Int64 → wM → Prop} (As : List AV) (hM : ∀ ad : Ro → Nat, lvS M (As) → Met l y ws rm (PA D dA B zE M ad (As)) (QL D dA B zE M ad post) mc ms (wA B)) (cw : CallB R s args own index y bytes maxL ret ws rm mc ms n ∧ (Cond.static y).before args s = true) {st0 : List AV} (hst : st0 = As.reverse ++ st) (hn : As.length = n) (hrm : (st.map acat).sum ≤ 8) (hd : decode cc pc = .ok (.invokestatic index, 3)) (hf : cells + mc ≤ R.cells ∧ slots + ms ≤ R.slots) (k : ∀ x M', post x M' → AW p l e R s m args below meth c Q D dA B zE nL ad0 M0 M' (cells + mc) (slots + ms) (pc + 3) lv (vL x :: st)) : AW p l e R s m args below meth c Q D dA B zE nL ad0 M0 M cells slots pc lv st0 := by
  intro ad H locs ls h1 h2 h3 h4 h5 h6 h7
  have hst7 : lvS M st := fun v hv => h7 v (by rw [hst]; exact List.mem_append_right _ hv)
  have hAs : lvS M As := fun v hv => h7 v (by rw [hst]; exact List.mem_append_left _ (List.mem_reverse.mpr hv))
  have hstk : st0.map (cv ad) = (As.map (cv ad)).reverse ++ st.map (cv ad) := by rw [hst, List.map_append, List.map_reverse]
  refine va_calll (va_runS (As := As.map (cv ad)) (rest := st.map (cv ad)) ⟨X.1, X.2.1, X.2.2.1, X.hown, X.hts⟩ (hM ad hAs) cw ⟨PA_blind, PA_pre X.hG h3 h4⟩ rfl (by rw [List.length_map]; exact hn) h5.1 hstk (lv_room (by rw [List.map_map, show (fun v : Value => v.category) ∘ cv ad = acat from funext (cv_cat ad)]; exact hrm)) hd hf) h4 (fun q _ h => h) (fun q h => h) (fun x u t H1 locs1 ht hvm hp hB hz hk hS => ?_)
  obtain ⟨hp1, hp2, hp3⟩ := hp
  have hk := k x u.2 hp1 u.1 H1 locs1 ls (fun z hz => (hp3 z (h2 z hz)).trans (h1 z hz)) (sb_tr h2 hp2) (by rw [← ht]; exact hB) hS (by rw [cvL_xt hp3 h6]; exact h5) (h6.sb hp2) (hst7.sb hp2).nl
  have e1 : (vL x :: st).map (cv u.1) = .long x :: st.map (cv ad) := by rw [List.map_cons, cvs_xt hp3 hst7]; rfl
  rw [e1] at hk
  exact hk
theorem aw_cSv (X : Cx p s m args meth c cc nL own Ts D dA B zE) {y : MethodName} {bytes : ByteArray} {maxL mc ms n index : Nat} {ret : Option FieldType} {ws : List Cond} {rm : Room} {post : wM → Prop} (As : List AV) (hM : ∀ ad : Ro → Nat, lvS M (As) → Met l y ws rm (PA D dA B zE M ad (As)) (QV D dA B zE M ad post) mc ms (wA B)) (cw : CallB R s args own index y bytes maxL ret ws rm mc ms n ∧ (Cond.static y).before args s = true) {st0 : List AV} (hst : st0 = As.reverse ++ st) (hn : As.length = n) (hrm : (st.map acat).sum ≤ 8) (hd : decode cc pc = .ok (.invokestatic index, 3)) (hf : cells + mc ≤ R.cells ∧ slots + ms ≤ R.slots) (k : ∀ M', post M' → AW p l e R s m args below meth c Q D dA B zE nL ad0 M0 M' (cells + mc) (slots + ms) (pc + 3) lv (st)) : AW p l e R s m args below meth c Q D dA B zE nL ad0 M0 M cells slots pc lv st0 := by
  intro ad H locs ls h1 h2 h3 h4 h5 h6 h7
  have hst7 : lvS M st := fun v hv => h7 v (by rw [hst]; exact List.mem_append_right _ hv)
  have hAs : lvS M As := fun v hv => h7 v (by rw [hst]; exact List.mem_append_left _ (List.mem_reverse.mpr hv))
  have hstk : st0.map (cv ad) = (As.map (cv ad)).reverse ++ st.map (cv ad) := by rw [hst, List.map_append, List.map_reverse]
  refine va_callv (va_runS (As := As.map (cv ad)) (rest := st.map (cv ad)) ⟨X.1, X.2.1, X.2.2.1, X.hown, X.hts⟩ (hM ad hAs) cw ⟨PA_blind, PA_pre X.hG h3 h4⟩ rfl (by rw [List.length_map]; exact hn) h5.1 hstk (lv_room (by rw [List.map_map, show (fun v : Value => v.category) ∘ cv ad = acat from funext (cv_cat ad)]; exact hrm)) hd hf) h4 (fun q _ h => h) (fun q h => h) (fun u t H1 locs1 ht hvm hp hB hz hk hS => ?_)
  obtain ⟨hp1, hp2, hp3⟩ := hp
  have hk := k u.2 hp1 u.1 H1 locs1 ls (fun z hz => (hp3 z (h2 z hz)).trans (h1 z hz)) (sb_tr h2 hp2) (by rw [← ht]; exact hB) hS (by rw [cvL_xt hp3 h6]; exact h5) (h6.sb hp2) (hst7.sb hp2)
  have e1 : st.map (cv u.1) = st.map (cv ad) := cvs_xt hp3 hst7
  rw [e1] at hk
  exact hk
theorem aw_cSr (X : Cx p s m args meth c cc nL own Ts D dA B zE) {y : MethodName} {bytes : ByteArray} {maxL mc ms n index : Nat} {ret : Option FieldType} {ws : List Cond} {rm : Room} {post : Option Ro → wM → Prop} (As : List AV) (hM : ∀ ad : Ro → Nat, lvS M (As) → Met l y ws rm (PA D dA B zE M ad (As)) (QR D dA B zE M ad post) mc ms (wA B)) (cw : CallB R s args own index y bytes maxL ret ws rm mc ms n ∧ (Cond.static y).before args s = true) {st0 : List AV} (hst : st0 = As.reverse ++ st) (hn : As.length = n) (hrm : (st.map acat).sum ≤ 8) (hd : decode cc pc = .ok (.invokestatic index, 3)) (hf : cells + mc ≤ R.cells ∧ slots + ms ≤ R.slots) (k : ∀ x M', post x M' → AW p l e R s m args below meth c Q D dA B zE nL ad0 M0 M' (cells + mc) (slots + ms) (pc + 3) lv (vR x :: st)) : AW p l e R s m args below meth c Q D dA B zE nL ad0 M0 M cells slots pc lv st0 := by
  intro ad H locs ls h1 h2 h3 h4 h5 h6 h7
  have hst7 : lvS M st := fun v hv => h7 v (by rw [hst]; exact List.mem_append_right _ hv)
  have hAs : lvS M As := fun v hv => h7 v (by rw [hst]; exact List.mem_append_left _ (List.mem_reverse.mpr hv))
  have hstk : st0.map (cv ad) = (As.map (cv ad)).reverse ++ st.map (cv ad) := by rw [hst, List.map_append, List.map_reverse]
  refine va_callq (va_runS (As := As.map (cv ad)) (rest := st.map (cv ad)) ⟨X.1, X.2.1, X.2.2.1, X.hown, X.hts⟩ (hM ad hAs) cw ⟨PA_blind, PA_pre X.hG h3 h4⟩ rfl (by rw [List.length_map]; exact hn) h5.1 hstk (lv_room (by rw [List.map_map, show (fun v : Value => v.category) ∘ cv ad = acat from funext (cv_cat ad)]; exact hrm)) hd hf) h4 (fun q _ h => h) (fun q h => h) (fun x u t H1 locs1 ht hvm hp hB hz hk hS => ?_)
  obtain ⟨o, ho, hlo, hp1, hp2, hp3⟩ := hp
  have hk := k o u.2 hp1 u.1 H1 locs1 ls (fun z hz => (hp3 z (h2 z hz)).trans (h1 z hz)) (sb_tr h2 hp2) (by rw [← ht]; exact hB) hS (by rw [cvL_xt hp3 h6]; exact h5) (h6.sb hp2) ((hst7.sb hp2).cn hlo)
  have e1 : (vR o :: st).map (cv u.1) = va_rf x :: st.map (cv ad) := by rw [List.map_cons, cvs_xt hp3 hst7, ho]; rfl
  rw [e1] at hk
  exact hk
theorem aw_cIv (X : Cx p s m args meth c cc nL own Ts D dA B zE) {y : MethodName} {bytes : ByteArray} {maxL mc ms n index : Nat} {ws : List Cond} {rm : Room} {r : Ro} {post : wM → Prop} (As : List AV) (hM : ∀ ad : Ro → Nat, lvS M (vR (some r) :: As) → Met l y ws rm (PA D dA B zE M ad (vR (some r) :: As)) (QV D dA B zE M ad post) mc ms (wA B)) (cw : CallB R s args own index y bytes maxL none ws rm mc ms n ∧ y.name = "<init>" ∧ (Cond.instanceMethod y).before args s = true) {st0 : List AV} (hst : st0 = As.reverse ++ vR (some r) :: st) (hn : As.length = n) (hrm : (st.map acat).sum ≤ 8) (hd : decode cc pc = .ok (.invokespecial index, 3)) (hf : cells + mc ≤ R.cells ∧ slots + ms ≤ R.slots) (k : ∀ M', post M' → AW p l e R s m args below meth c Q D dA B zE nL ad0 M0 M' (cells + mc) (slots + ms) (pc + 3) lv (st)) : AW p l e R s m args below meth c Q D dA B zE nL ad0 M0 M cells slots pc lv st0 := by
  intro ad H locs ls h1 h2 h3 h4 h5 h6 h7
  have hst7 : lvS M st := fun v hv => h7 v (by rw [hst]; exact List.mem_append_right _ (List.mem_cons_of_mem _ hv))
  have hAs : lvS M (vR (some r) :: As) := fun v hv => h7 v (by rw [hst]; rcases List.mem_cons.mp hv with g | g; exact List.mem_append_right _ (g ▸ List.mem_cons_self); exact List.mem_append_left _ (List.mem_reverse.mpr g))
  have hstk : st0.map (cv ad) = (As.map (cv ad)).reverse ++ .ref (ad r) :: st.map (cv ad) := by rw [hst, List.map_append, List.map_reverse]; rfl
  refine va_callv (va_runI (As := As.map (cv ad)) (rest := st.map (cv ad)) ⟨X.1, X.2.1, X.2.2.1, X.hown, X.hts⟩ (hM ad hAs) cw ⟨PA_blind, PA_pre X.hG h3 h4⟩ rfl (by rw [List.length_map]; exact hn) h5.1 hstk (lv_room (by rw [List.map_map, show (fun v : Value => v.category) ∘ cv ad = acat from funext (cv_cat ad)]; exact hrm)) hd hf) h4 (fun q _ h => h) (fun q h => h) (fun u t H1 locs1 ht hvm hp hB hz hk hS => ?_)
  obtain ⟨hp1, hp2, hp3⟩ := hp
  have hk := k u.2 hp1 u.1 H1 locs1 ls (fun z hz => (hp3 z (h2 z hz)).trans (h1 z hz)) (sb_tr h2 hp2) (by rw [← ht]; exact hB) hS (by rw [cvL_xt hp3 h6]; exact h5) (h6.sb hp2) (hst7.sb hp2)
  have e1 : st.map (cv u.1) = st.map (cv ad) := cvs_xt hp3 hst7
  rw [e1] at hk
  exact hk
theorem aw_cVNi (X : Cx p s m args meth c cc nL own Ts D dA B zE) {y : MethodName} {bytes : ByteArray} {maxL mc ms n index : Nat} {ret : Option FieldType} {ws : List Cond} {rm : Room} {C : String} {host : String} {r : Ro} {post : Int32 → wM → Prop} (As : List AV) (hM : ∀ ad : Ro → Nat, lvS M (vR (some r) :: As) → Met l y ws rm (PA D dA B zE M ad (vR (some r) :: As)) (QI D dA B zE M ad post) mc ms (wA B)) (cw : va_CN R s args own index y host bytes maxL ret ws rm mc ms n ∧ (Cond.instanceMethod y).before args s = true ∧ (Cond.selects C y y).before args s = true) (hob : ∃ (ci : Nat) (fs : List AV) (q : vw_C), M r = some (ob ci fs) ∧ classes[ci]? = some q ∧ q.1 = C) {st0 : List AV} (hst : st0 = As.reverse ++ vR (some r) :: st) (hn : As.length = n) (hrm : (st.map acat).sum ≤ 8) (hd : decode cc pc = .ok (.invokevirtual index, 3)) (hf : cells + mc ≤ R.cells ∧ slots + ms ≤ R.slots) (k : ∀ x M', post x M' → AW p l e R s m args below meth c Q D dA B zE nL ad0 M0 M' (cells + mc) (slots + ms) (pc + 3) lv (vI x :: st)) : AW p l e R s m args below meth c Q D dA B zE nL ad0 M0 M cells slots pc lv st0 := by
  intro ad H locs ls h1 h2 h3 h4 h5 h6 h7
  have hst7 : lvS M st := fun v hv => h7 v (by rw [hst]; exact List.mem_append_right _ (List.mem_cons_of_mem _ hv))
  have hAs : lvS M (vR (some r) :: As) := fun v hv => h7 v (by rw [hst]; rcases List.mem_cons.mp hv with g | g; exact List.mem_append_right _ (g ▸ List.mem_cons_self); exact List.mem_append_left _ (List.mem_reverse.mpr g))
  have hstk : st0.map (cv ad) = (As.map (cv ad)).reverse ++ .ref (ad r) :: st.map (cv ad) := by rw [hst, List.map_append, List.map_reverse]; rfl
  obtain ⟨ci, fs, q, hMr, hq, hqC⟩ := hob
  refine va_calli (va_runVN (As := As.map (cv ad)) (rest := st.map (cv ad)) ⟨X.1, X.2.1, X.2.2.1, X.hown, X.hts⟩ (hM ad hAs) cw ⟨PA_blind, hqC ▸ h3.recv X.hK hq hMr, PA_pre X.hG h3 h4⟩ rfl (by rw [List.length_map]; exact hn) h5.1 hstk (lv_room (by rw [List.map_map, show (fun v : Value => v.category) ∘ cv ad = acat from funext (cv_cat ad)]; exact hrm)) hd hf) h4 (fun q _ h => h) (fun q h => h) (fun x u t H1 locs1 ht hvm hp hB hz hk hS => ?_)
  obtain ⟨hp1, hp2, hp3⟩ := hp
  have hk := k x u.2 hp1 u.1 H1 locs1 ls (fun z hz => (hp3 z (h2 z hz)).trans (h1 z hz)) (sb_tr h2 hp2) (by rw [← ht]; exact hB) hS (by rw [cvL_xt hp3 h6]; exact h5) (h6.sb hp2) (hst7.sb hp2).ni
  have e1 : (vI x :: st).map (cv u.1) = .int x :: st.map (cv ad) := by rw [List.map_cons, cvs_xt hp3 hst7]; rfl
  rw [e1] at hk
  exact hk
theorem aw_cVNl (X : Cx p s m args meth c cc nL own Ts D dA B zE) {y : MethodName} {bytes : ByteArray} {maxL mc ms n index : Nat} {ret : Option FieldType} {ws : List Cond} {rm : Room} {C : String} {host : String} {r : Ro} {post : Int64 → wM → Prop} (As : List AV) (hM : ∀ ad : Ro → Nat, lvS M (vR (some r) :: As) → Met l y ws rm (PA D dA B zE M ad (vR (some r) :: As)) (QL D dA B zE M ad post) mc ms (wA B)) (cw : va_CN R s args own index y host bytes maxL ret ws rm mc ms n ∧ (Cond.instanceMethod y).before args s = true ∧ (Cond.selects C y y).before args s = true) (hob : ∃ (ci : Nat) (fs : List AV) (q : vw_C), M r = some (ob ci fs) ∧ classes[ci]? = some q ∧ q.1 = C) {st0 : List AV} (hst : st0 = As.reverse ++ vR (some r) :: st) (hn : As.length = n) (hrm : (st.map acat).sum ≤ 8) (hd : decode cc pc = .ok (.invokevirtual index, 3)) (hf : cells + mc ≤ R.cells ∧ slots + ms ≤ R.slots) (k : ∀ x M', post x M' → AW p l e R s m args below meth c Q D dA B zE nL ad0 M0 M' (cells + mc) (slots + ms) (pc + 3) lv (vL x :: st)) : AW p l e R s m args below meth c Q D dA B zE nL ad0 M0 M cells slots pc lv st0 := by
  intro ad H locs ls h1 h2 h3 h4 h5 h6 h7
  have hst7 : lvS M st := fun v hv => h7 v (by rw [hst]; exact List.mem_append_right _ (List.mem_cons_of_mem _ hv))
  have hAs : lvS M (vR (some r) :: As) := fun v hv => h7 v (by rw [hst]; rcases List.mem_cons.mp hv with g | g; exact List.mem_append_right _ (g ▸ List.mem_cons_self); exact List.mem_append_left _ (List.mem_reverse.mpr g))
  have hstk : st0.map (cv ad) = (As.map (cv ad)).reverse ++ .ref (ad r) :: st.map (cv ad) := by rw [hst, List.map_append, List.map_reverse]; rfl
  obtain ⟨ci, fs, q, hMr, hq, hqC⟩ := hob
  refine va_calll (va_runVN (As := As.map (cv ad)) (rest := st.map (cv ad)) ⟨X.1, X.2.1, X.2.2.1, X.hown, X.hts⟩ (hM ad hAs) cw ⟨PA_blind, hqC ▸ h3.recv X.hK hq hMr, PA_pre X.hG h3 h4⟩ rfl (by rw [List.length_map]; exact hn) h5.1 hstk (lv_room (by rw [List.map_map, show (fun v : Value => v.category) ∘ cv ad = acat from funext (cv_cat ad)]; exact hrm)) hd hf) h4 (fun q _ h => h) (fun q h => h) (fun x u t H1 locs1 ht hvm hp hB hz hk hS => ?_)
  obtain ⟨hp1, hp2, hp3⟩ := hp
  have hk := k x u.2 hp1 u.1 H1 locs1 ls (fun z hz => (hp3 z (h2 z hz)).trans (h1 z hz)) (sb_tr h2 hp2) (by rw [← ht]; exact hB) hS (by rw [cvL_xt hp3 h6]; exact h5) (h6.sb hp2) (hst7.sb hp2).nl
  have e1 : (vL x :: st).map (cv u.1) = .long x :: st.map (cv ad) := by rw [List.map_cons, cvs_xt hp3 hst7]; rfl
  rw [e1] at hk
  exact hk
theorem aw_cVNv (X : Cx p s m args meth c cc nL own Ts D dA B zE) {y : MethodName} {bytes : ByteArray} {maxL mc ms n index : Nat} {ret : Option FieldType} {ws : List Cond} {rm : Room} {C : String} {host : String} {r : Ro} {post : wM → Prop} (As : List AV) (hM : ∀ ad : Ro → Nat, lvS M (vR (some r) :: As) → Met l y ws rm (PA D dA B zE M ad (vR (some r) :: As)) (QV D dA B zE M ad post) mc ms (wA B)) (cw : va_CN R s args own index y host bytes maxL ret ws rm mc ms n ∧ (Cond.instanceMethod y).before args s = true ∧ (Cond.selects C y y).before args s = true) (hob : ∃ (ci : Nat) (fs : List AV) (q : vw_C), M r = some (ob ci fs) ∧ classes[ci]? = some q ∧ q.1 = C) {st0 : List AV} (hst : st0 = As.reverse ++ vR (some r) :: st) (hn : As.length = n) (hrm : (st.map acat).sum ≤ 8) (hd : decode cc pc = .ok (.invokevirtual index, 3)) (hf : cells + mc ≤ R.cells ∧ slots + ms ≤ R.slots) (k : ∀ M', post M' → AW p l e R s m args below meth c Q D dA B zE nL ad0 M0 M' (cells + mc) (slots + ms) (pc + 3) lv (st)) : AW p l e R s m args below meth c Q D dA B zE nL ad0 M0 M cells slots pc lv st0 := by
  intro ad H locs ls h1 h2 h3 h4 h5 h6 h7
  have hst7 : lvS M st := fun v hv => h7 v (by rw [hst]; exact List.mem_append_right _ (List.mem_cons_of_mem _ hv))
  have hAs : lvS M (vR (some r) :: As) := fun v hv => h7 v (by rw [hst]; rcases List.mem_cons.mp hv with g | g; exact List.mem_append_right _ (g ▸ List.mem_cons_self); exact List.mem_append_left _ (List.mem_reverse.mpr g))
  have hstk : st0.map (cv ad) = (As.map (cv ad)).reverse ++ .ref (ad r) :: st.map (cv ad) := by rw [hst, List.map_append, List.map_reverse]; rfl
  obtain ⟨ci, fs, q, hMr, hq, hqC⟩ := hob
  refine va_callv (va_runVN (As := As.map (cv ad)) (rest := st.map (cv ad)) ⟨X.1, X.2.1, X.2.2.1, X.hown, X.hts⟩ (hM ad hAs) cw ⟨PA_blind, hqC ▸ h3.recv X.hK hq hMr, PA_pre X.hG h3 h4⟩ rfl (by rw [List.length_map]; exact hn) h5.1 hstk (lv_room (by rw [List.map_map, show (fun v : Value => v.category) ∘ cv ad = acat from funext (cv_cat ad)]; exact hrm)) hd hf) h4 (fun q _ h => h) (fun q h => h) (fun u t H1 locs1 ht hvm hp hB hz hk hS => ?_)
  obtain ⟨hp1, hp2, hp3⟩ := hp
  have hk := k u.2 hp1 u.1 H1 locs1 ls (fun z hz => (hp3 z (h2 z hz)).trans (h1 z hz)) (sb_tr h2 hp2) (by rw [← ht]; exact hB) hS (by rw [cvL_xt hp3 h6]; exact h5) (h6.sb hp2) (hst7.sb hp2)
  have e1 : st.map (cv u.1) = st.map (cv ad) := cvs_xt hp3 hst7
  rw [e1] at hk
  exact hk
theorem aw_cVNr (X : Cx p s m args meth c cc nL own Ts D dA B zE) {y : MethodName} {bytes : ByteArray} {maxL mc ms n index : Nat} {ret : Option FieldType} {ws : List Cond} {rm : Room} {C : String} {host : String} {r : Ro} {post : Option Ro → wM → Prop} (As : List AV) (hM : ∀ ad : Ro → Nat, lvS M (vR (some r) :: As) → Met l y ws rm (PA D dA B zE M ad (vR (some r) :: As)) (QR D dA B zE M ad post) mc ms (wA B)) (cw : va_CN R s args own index y host bytes maxL ret ws rm mc ms n ∧ (Cond.instanceMethod y).before args s = true ∧ (Cond.selects C y y).before args s = true) (hob : ∃ (ci : Nat) (fs : List AV) (q : vw_C), M r = some (ob ci fs) ∧ classes[ci]? = some q ∧ q.1 = C) {st0 : List AV} (hst : st0 = As.reverse ++ vR (some r) :: st) (hn : As.length = n) (hrm : (st.map acat).sum ≤ 8) (hd : decode cc pc = .ok (.invokevirtual index, 3)) (hf : cells + mc ≤ R.cells ∧ slots + ms ≤ R.slots) (k : ∀ x M', post x M' → AW p l e R s m args below meth c Q D dA B zE nL ad0 M0 M' (cells + mc) (slots + ms) (pc + 3) lv (vR x :: st)) : AW p l e R s m args below meth c Q D dA B zE nL ad0 M0 M cells slots pc lv st0 := by
  intro ad H locs ls h1 h2 h3 h4 h5 h6 h7
  have hst7 : lvS M st := fun v hv => h7 v (by rw [hst]; exact List.mem_append_right _ (List.mem_cons_of_mem _ hv))
  have hAs : lvS M (vR (some r) :: As) := fun v hv => h7 v (by rw [hst]; rcases List.mem_cons.mp hv with g | g; exact List.mem_append_right _ (g ▸ List.mem_cons_self); exact List.mem_append_left _ (List.mem_reverse.mpr g))
  have hstk : st0.map (cv ad) = (As.map (cv ad)).reverse ++ .ref (ad r) :: st.map (cv ad) := by rw [hst, List.map_append, List.map_reverse]; rfl
  obtain ⟨ci, fs, q, hMr, hq, hqC⟩ := hob
  refine va_callq (va_runVN (As := As.map (cv ad)) (rest := st.map (cv ad)) ⟨X.1, X.2.1, X.2.2.1, X.hown, X.hts⟩ (hM ad hAs) cw ⟨PA_blind, hqC ▸ h3.recv X.hK hq hMr, PA_pre X.hG h3 h4⟩ rfl (by rw [List.length_map]; exact hn) h5.1 hstk (lv_room (by rw [List.map_map, show (fun v : Value => v.category) ∘ cv ad = acat from funext (cv_cat ad)]; exact hrm)) hd hf) h4 (fun q _ h => h) (fun q h => h) (fun x u t H1 locs1 ht hvm hp hB hz hk hS => ?_)
  obtain ⟨o, ho, hlo, hp1, hp2, hp3⟩ := hp
  have hk := k o u.2 hp1 u.1 H1 locs1 ls (fun z hz => (hp3 z (h2 z hz)).trans (h1 z hz)) (sb_tr h2 hp2) (by rw [← ht]; exact hB) hS (by rw [cvL_xt hp3 h6]; exact h5) (h6.sb hp2) ((hst7.sb hp2).cn hlo)
  have e1 : (vR o :: st).map (cv u.1) = va_rf x :: st.map (cv ad) := by rw [List.map_cons, cvs_xt hp3 hst7, ho]; rfl
  rw [e1] at hk
  exact hk
theorem aw_cSNi (X : Cx p s m args meth c cc nL own Ts D dA B zE) {y : MethodName} {bytes : ByteArray} {maxL mc ms n index : Nat} {ret : Option FieldType} {ws : List Cond} {rm : Room} {host : String} {post : Int32 → wM → Prop} (As : List AV) (hM : ∀ ad : Ro → Nat, lvS M (As) → Met l y ws rm (PA D dA B zE M ad (As)) (QI D dA B zE M ad post) mc ms (wA B)) (cw : va_CN R s args own index y host bytes maxL ret ws rm mc ms n ∧ (Cond.static y).before args s = true ∧ True) {st0 : List AV} (hst : st0 = As.reverse ++ st) (hn : As.length = n) (hrm : (st.map acat).sum ≤ 8) (hd : decode cc pc = .ok (.invokestatic index, 3)) (hf : cells + mc ≤ R.cells ∧ slots + ms ≤ R.slots) (k : ∀ x M', post x M' → AW p l e R s m args below meth c Q D dA B zE nL ad0 M0 M' (cells + mc) (slots + ms) (pc + 3) lv (vI x :: st)) : AW p l e R s m args below meth c Q D dA B zE nL ad0 M0 M cells slots pc lv st0 := by
  intro ad H locs ls h1 h2 h3 h4 h5 h6 h7
  have hst7 : lvS M st := fun v hv => h7 v (by rw [hst]; exact List.mem_append_right _ hv)
  have hAs : lvS M As := fun v hv => h7 v (by rw [hst]; exact List.mem_append_left _ (List.mem_reverse.mpr hv))
  have hstk : st0.map (cv ad) = (As.map (cv ad)).reverse ++ st.map (cv ad) := by rw [hst, List.map_append, List.map_reverse]
  refine va_calli (va_runSN (As := As.map (cv ad)) (rest := st.map (cv ad)) ⟨X.1, X.2.1, X.2.2.1, X.hown, X.hts⟩ (hM ad hAs) cw ⟨PA_blind, PA_pre X.hG h3 h4⟩ rfl (by rw [List.length_map]; exact hn) h5.1 hstk (lv_room (by rw [List.map_map, show (fun v : Value => v.category) ∘ cv ad = acat from funext (cv_cat ad)]; exact hrm)) hd hf) h4 (fun q _ h => h) (fun q h => h) (fun x u t H1 locs1 ht hvm hp hB hz hk hS => ?_)
  obtain ⟨hp1, hp2, hp3⟩ := hp
  have hk := k x u.2 hp1 u.1 H1 locs1 ls (fun z hz => (hp3 z (h2 z hz)).trans (h1 z hz)) (sb_tr h2 hp2) (by rw [← ht]; exact hB) hS (by rw [cvL_xt hp3 h6]; exact h5) (h6.sb hp2) (hst7.sb hp2).ni
  have e1 : (vI x :: st).map (cv u.1) = .int x :: st.map (cv ad) := by rw [List.map_cons, cvs_xt hp3 hst7]; rfl
  rw [e1] at hk
  exact hk
theorem aw_cSNl (X : Cx p s m args meth c cc nL own Ts D dA B zE) {y : MethodName} {bytes : ByteArray} {maxL mc ms n index : Nat} {ret : Option FieldType} {ws : List Cond} {rm : Room} {host : String} {post : Int64 → wM → Prop} (As : List AV) (hM : ∀ ad : Ro → Nat, lvS M (As) → Met l y ws rm (PA D dA B zE M ad (As)) (QL D dA B zE M ad post) mc ms (wA B)) (cw : va_CN R s args own index y host bytes maxL ret ws rm mc ms n ∧ (Cond.static y).before args s = true ∧ True) {st0 : List AV} (hst : st0 = As.reverse ++ st) (hn : As.length = n) (hrm : (st.map acat).sum ≤ 8) (hd : decode cc pc = .ok (.invokestatic index, 3)) (hf : cells + mc ≤ R.cells ∧ slots + ms ≤ R.slots) (k : ∀ x M', post x M' → AW p l e R s m args below meth c Q D dA B zE nL ad0 M0 M' (cells + mc) (slots + ms) (pc + 3) lv (vL x :: st)) : AW p l e R s m args below meth c Q D dA B zE nL ad0 M0 M cells slots pc lv st0 := by
  intro ad H locs ls h1 h2 h3 h4 h5 h6 h7
  have hst7 : lvS M st := fun v hv => h7 v (by rw [hst]; exact List.mem_append_right _ hv)
  have hAs : lvS M As := fun v hv => h7 v (by rw [hst]; exact List.mem_append_left _ (List.mem_reverse.mpr hv))
  have hstk : st0.map (cv ad) = (As.map (cv ad)).reverse ++ st.map (cv ad) := by rw [hst, List.map_append, List.map_reverse]
  refine va_calll (va_runSN (As := As.map (cv ad)) (rest := st.map (cv ad)) ⟨X.1, X.2.1, X.2.2.1, X.hown, X.hts⟩ (hM ad hAs) cw ⟨PA_blind, PA_pre X.hG h3 h4⟩ rfl (by rw [List.length_map]; exact hn) h5.1 hstk (lv_room (by rw [List.map_map, show (fun v : Value => v.category) ∘ cv ad = acat from funext (cv_cat ad)]; exact hrm)) hd hf) h4 (fun q _ h => h) (fun q h => h) (fun x u t H1 locs1 ht hvm hp hB hz hk hS => ?_)
  obtain ⟨hp1, hp2, hp3⟩ := hp
  have hk := k x u.2 hp1 u.1 H1 locs1 ls (fun z hz => (hp3 z (h2 z hz)).trans (h1 z hz)) (sb_tr h2 hp2) (by rw [← ht]; exact hB) hS (by rw [cvL_xt hp3 h6]; exact h5) (h6.sb hp2) (hst7.sb hp2).nl
  have e1 : (vL x :: st).map (cv u.1) = .long x :: st.map (cv ad) := by rw [List.map_cons, cvs_xt hp3 hst7]; rfl
  rw [e1] at hk
  exact hk
theorem aw_cSNv (X : Cx p s m args meth c cc nL own Ts D dA B zE) {y : MethodName} {bytes : ByteArray} {maxL mc ms n index : Nat} {ret : Option FieldType} {ws : List Cond} {rm : Room} {host : String} {post : wM → Prop} (As : List AV) (hM : ∀ ad : Ro → Nat, lvS M (As) → Met l y ws rm (PA D dA B zE M ad (As)) (QV D dA B zE M ad post) mc ms (wA B)) (cw : va_CN R s args own index y host bytes maxL ret ws rm mc ms n ∧ (Cond.static y).before args s = true ∧ True) {st0 : List AV} (hst : st0 = As.reverse ++ st) (hn : As.length = n) (hrm : (st.map acat).sum ≤ 8) (hd : decode cc pc = .ok (.invokestatic index, 3)) (hf : cells + mc ≤ R.cells ∧ slots + ms ≤ R.slots) (k : ∀ M', post M' → AW p l e R s m args below meth c Q D dA B zE nL ad0 M0 M' (cells + mc) (slots + ms) (pc + 3) lv (st)) : AW p l e R s m args below meth c Q D dA B zE nL ad0 M0 M cells slots pc lv st0 := by
  intro ad H locs ls h1 h2 h3 h4 h5 h6 h7
  have hst7 : lvS M st := fun v hv => h7 v (by rw [hst]; exact List.mem_append_right _ hv)
  have hAs : lvS M As := fun v hv => h7 v (by rw [hst]; exact List.mem_append_left _ (List.mem_reverse.mpr hv))
  have hstk : st0.map (cv ad) = (As.map (cv ad)).reverse ++ st.map (cv ad) := by rw [hst, List.map_append, List.map_reverse]
  refine va_callv (va_runSN (As := As.map (cv ad)) (rest := st.map (cv ad)) ⟨X.1, X.2.1, X.2.2.1, X.hown, X.hts⟩ (hM ad hAs) cw ⟨PA_blind, PA_pre X.hG h3 h4⟩ rfl (by rw [List.length_map]; exact hn) h5.1 hstk (lv_room (by rw [List.map_map, show (fun v : Value => v.category) ∘ cv ad = acat from funext (cv_cat ad)]; exact hrm)) hd hf) h4 (fun q _ h => h) (fun q h => h) (fun u t H1 locs1 ht hvm hp hB hz hk hS => ?_)
  obtain ⟨hp1, hp2, hp3⟩ := hp
  have hk := k u.2 hp1 u.1 H1 locs1 ls (fun z hz => (hp3 z (h2 z hz)).trans (h1 z hz)) (sb_tr h2 hp2) (by rw [← ht]; exact hB) hS (by rw [cvL_xt hp3 h6]; exact h5) (h6.sb hp2) (hst7.sb hp2)
  have e1 : st.map (cv u.1) = st.map (cv ad) := cvs_xt hp3 hst7
  rw [e1] at hk
  exact hk
theorem aw_cSNr (X : Cx p s m args meth c cc nL own Ts D dA B zE) {y : MethodName} {bytes : ByteArray} {maxL mc ms n index : Nat} {ret : Option FieldType} {ws : List Cond} {rm : Room} {host : String} {post : Option Ro → wM → Prop} (As : List AV) (hM : ∀ ad : Ro → Nat, lvS M (As) → Met l y ws rm (PA D dA B zE M ad (As)) (QR D dA B zE M ad post) mc ms (wA B)) (cw : va_CN R s args own index y host bytes maxL ret ws rm mc ms n ∧ (Cond.static y).before args s = true ∧ True) {st0 : List AV} (hst : st0 = As.reverse ++ st) (hn : As.length = n) (hrm : (st.map acat).sum ≤ 8) (hd : decode cc pc = .ok (.invokestatic index, 3)) (hf : cells + mc ≤ R.cells ∧ slots + ms ≤ R.slots) (k : ∀ x M', post x M' → AW p l e R s m args below meth c Q D dA B zE nL ad0 M0 M' (cells + mc) (slots + ms) (pc + 3) lv (vR x :: st)) : AW p l e R s m args below meth c Q D dA B zE nL ad0 M0 M cells slots pc lv st0 := by
  intro ad H locs ls h1 h2 h3 h4 h5 h6 h7
  have hst7 : lvS M st := fun v hv => h7 v (by rw [hst]; exact List.mem_append_right _ hv)
  have hAs : lvS M As := fun v hv => h7 v (by rw [hst]; exact List.mem_append_left _ (List.mem_reverse.mpr hv))
  have hstk : st0.map (cv ad) = (As.map (cv ad)).reverse ++ st.map (cv ad) := by rw [hst, List.map_append, List.map_reverse]
  refine va_callq (va_runSN (As := As.map (cv ad)) (rest := st.map (cv ad)) ⟨X.1, X.2.1, X.2.2.1, X.hown, X.hts⟩ (hM ad hAs) cw ⟨PA_blind, PA_pre X.hG h3 h4⟩ rfl (by rw [List.length_map]; exact hn) h5.1 hstk (lv_room (by rw [List.map_map, show (fun v : Value => v.category) ∘ cv ad = acat from funext (cv_cat ad)]; exact hrm)) hd hf) h4 (fun q _ h => h) (fun q h => h) (fun x u t H1 locs1 ht hvm hp hB hz hk hS => ?_)
  obtain ⟨o, ho, hlo, hp1, hp2, hp3⟩ := hp
  have hk := k o u.2 hp1 u.1 H1 locs1 ls (fun z hz => (hp3 z (h2 z hz)).trans (h1 z hz)) (sb_tr h2 hp2) (by rw [← ht]; exact hB) hS (by rw [cvL_xt hp3 h6]; exact h5) (h6.sb hp2) ((hst7.sb hp2).cn hlo)
  have e1 : (vR o :: st).map (cv u.1) = va_rf x :: st.map (cv ad) := by rw [List.map_cons, cvs_xt hp3 hst7, ho]; rfl
  rw [e1] at hk
  exact hk
theorem aw_cINv (X : Cx p s m args meth c cc nL own Ts D dA B zE) {y : MethodName} {bytes : ByteArray} {maxL mc ms n index : Nat} {ws : List Cond} {rm : Room} {host : String} {r : Ro} {post : wM → Prop} (As : List AV) (hM : ∀ ad : Ro → Nat, lvS M (vR (some r) :: As) → Met l y ws rm (PA D dA B zE M ad (vR (some r) :: As)) (QV D dA B zE M ad post) mc ms (wA B)) (cw : va_CN R s args own index y host bytes maxL none ws rm mc ms n ∧ y.name = "<init>" ∧ (Cond.instanceMethod y).before args s = true) {st0 : List AV} (hst : st0 = As.reverse ++ vR (some r) :: st) (hn : As.length = n) (hrm : (st.map acat).sum ≤ 8) (hd : decode cc pc = .ok (.invokespecial index, 3)) (hf : cells + mc ≤ R.cells ∧ slots + ms ≤ R.slots) (k : ∀ M', post M' → AW p l e R s m args below meth c Q D dA B zE nL ad0 M0 M' (cells + mc) (slots + ms) (pc + 3) lv (st)) : AW p l e R s m args below meth c Q D dA B zE nL ad0 M0 M cells slots pc lv st0 := by
  intro ad H locs ls h1 h2 h3 h4 h5 h6 h7
  have hst7 : lvS M st := fun v hv => h7 v (by rw [hst]; exact List.mem_append_right _ (List.mem_cons_of_mem _ hv))
  have hAs : lvS M (vR (some r) :: As) := fun v hv => h7 v (by rw [hst]; rcases List.mem_cons.mp hv with g | g; exact List.mem_append_right _ (g ▸ List.mem_cons_self); exact List.mem_append_left _ (List.mem_reverse.mpr g))
  have hstk : st0.map (cv ad) = (As.map (cv ad)).reverse ++ .ref (ad r) :: st.map (cv ad) := by rw [hst, List.map_append, List.map_reverse]; rfl
  refine va_callv (va_runIN (As := As.map (cv ad)) (rest := st.map (cv ad)) ⟨X.1, X.2.1, X.2.2.1, X.hown, X.hts⟩ (hM ad hAs) cw ⟨PA_blind, PA_pre X.hG h3 h4⟩ rfl (by rw [List.length_map]; exact hn) h5.1 hstk (lv_room (by rw [List.map_map, show (fun v : Value => v.category) ∘ cv ad = acat from funext (cv_cat ad)]; exact hrm)) hd hf) h4 (fun q _ h => h) (fun q h => h) (fun u t H1 locs1 ht hvm hp hB hz hk hS => ?_)
  obtain ⟨hp1, hp2, hp3⟩ := hp
  have hk := k u.2 hp1 u.1 H1 locs1 ls (fun z hz => (hp3 z (h2 z hz)).trans (h1 z hz)) (sb_tr h2 hp2) (by rw [← ht]; exact hB) hS (by rw [cvL_xt hp3 h6]; exact h5) (h6.sb hp2) (hst7.sb hp2)
  have e1 : st.map (cv u.1) = st.map (cv ad) := cvs_xt hp3 hst7
  rw [e1] at hk
  exact hk
end AW2
end
