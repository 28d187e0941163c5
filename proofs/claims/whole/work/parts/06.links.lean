abbrev b_Ac_init : ByteArray := prog_16_method_1_code
abbrev y_Ac_init : MethodName := ⟨"java/util/AbstractCollection", "<init>", "()V"⟩
abbrev w_Ac_init : List Cond := Cond.code y_Ac_init b_Ac_init 1 none :: TBL
abbrev b_Ab_init : ByteArray := prog_17_method_1_code
abbrev y_Ab_init : MethodName := ⟨"java/util/AbstractList", "<init>", "()V"⟩
abbrev w_Ab_init : List Cond := Cond.code y_Ab_init b_Ab_init 1 none :: TBL
abbrev b_A_init : ByteArray := prog_18_method_2_code
abbrev y_A_init : MethodName := ⟨"java/util/ArrayList", "<init>", "()V"⟩
abbrev w_A_init : List Cond := Cond.code y_A_init b_A_init 1 none :: TBL
abbrev b_Ar_fill0 : ByteArray := prog_19_method_101_code
abbrev y_Ar_fill0 : MethodName := ⟨"java/util/Arrays", "fill", "([JJ)V"⟩
abbrev w_Ar_fill0 : List Cond := Cond.code y_Ar_fill0 b_Ar_fill0 5 none :: TBL
abbrev b_B_init : ByteArray := prog_7_method_1_code
abbrev y_B_init : MethodName := ⟨"PartitionedProcedureStore$Table", "<init>", "()V"⟩
abbrev w_B_init : List Cond := Cond.code y_B_init b_B_init 1 none :: TBL
abbrev b_Ma_min : ByteArray := prog_14_method_69_code
abbrev y_Ma_min : MethodName := ⟨"java/lang/Math", "min", "(II)I"⟩
abbrev w_Ma_min : List Cond := Cond.code y_Ma_min b_Ma_min 2 (some .int) :: TBL
abbrev b_Ma_max : ByteArray := prog_14_method_65_code
abbrev y_Ma_max : MethodName := ⟨"java/lang/Math", "max", "(II)I"⟩
abbrev w_Ma_max : List Cond := Cond.code y_Ma_max b_Ma_max 2 (some .int) :: TBL
abbrev b_R_init : ByteArray := prog_4_method_1_code
abbrev y_R_init : MethodName := ⟨"PartitionedProcedureStore$Runner", "<init>", "(I)V"⟩
abbrev w_R_init : List Cond := Cond.code y_R_init b_R_init 2 none :: TBL
abbrev b_P_init : ByteArray := prog_3_method_1_code
abbrev y_P_init : MethodName := ⟨"PartitionedProcedureStore$Procedure", "<init>", "()V"⟩
abbrev w_P_init : List Cond := Cond.code y_P_init b_P_init 1 none :: TBL
abbrev b_C_init : ByteArray := prog_2_method_1_code
abbrev y_C_init : MethodName := ⟨"PartitionedProcedureStore$Client", "<init>", "()V"⟩
abbrev w_C_init : List Cond := Cond.code y_C_init b_C_init 1 none :: TBL
abbrev b_Q_init : ByteArray := prog_5_method_1_code
abbrev y_Q_init : MethodName := ⟨"PartitionedProcedureStore$Site", "<init>", "()V"⟩
abbrev w_Q_init : List Cond := Cond.code y_Q_init b_Q_init 1 none :: TBL
abbrev b_S_init : ByteArray := prog_1_method_1_code
abbrev y_S_init : MethodName := ⟨"PartitionedProcedureStore", "<init>", "(I)V"⟩
abbrev w_S_init : List Cond := Cond.code y_S_init b_S_init 3 none :: TBL
abbrev b_S_isWithin : ByteArray := prog_1_method_18_code
abbrev y_S_isWithin : MethodName := ⟨"PartitionedProcedureStore", "isWithin", "(II)Z"⟩
abbrev w_S_isWithin : List Cond := Cond.code y_S_isWithin b_S_isWithin 2 (some .boolean) :: TBL
abbrev b_A_clear : ByteArray := prog_18_method_40_code
abbrev y_A_clear : MethodName := ⟨"java/util/ArrayList", "clear", "()V"⟩
abbrev w_A_clear : List Cond := Cond.code y_A_clear b_A_clear 4 none :: TBL
abbrev b_P_restart : ByteArray := prog_3_method_2_code
abbrev y_P_restart : MethodName := ⟨"PartitionedProcedureStore$Procedure", "restart", "(Z)V"⟩
abbrev w_P_restart : List Cond := Cond.code y_P_restart b_P_restart 2 none :: TBL
abbrev b_S_open : ByteArray := prog_1_method_2_code
abbrev y_S_open : MethodName := ⟨"PartitionedProcedureStore", "open", "(IZ)I"⟩
abbrev w_S_open : List Cond := Cond.code y_S_open b_S_open 3 (some .int) :: TBL
abbrev b_S_isStatement : ByteArray := prog_1_method_19_code
abbrev y_S_isStatement : MethodName := ⟨"PartitionedProcedureStore", "isStatement", "(IIII)Z"⟩
abbrev w_S_isStatement : List Cond := Cond.code y_S_isStatement b_S_isStatement 4 (some .boolean) :: TBL
abbrev b_A_size : ByteArray := prog_18_method_8_code
abbrev y_A_size : MethodName := ⟨"java/util/ArrayList", "size", "()I"⟩
abbrev w_A_size : List Cond := Cond.code y_A_size b_A_size 1 (some .int) :: TBL
abbrev b_T_init : ByteArray := prog_6_method_1_code
abbrev y_T_init : MethodName := ⟨"PartitionedProcedureStore$Statement", "<init>", "(IIII)V"⟩
abbrev w_T_init : List Cond := Cond.code y_T_init b_T_init 5 none :: TBL
abbrev b_As_hugeLength : ByteArray := prog_25_method_28_code
abbrev y_As_hugeLength : MethodName := ⟨"jdk/internal/util/ArraysSupport", "hugeLength", "(II)I"⟩
abbrev w_As_hugeLength : List Cond := Cond.code y_As_hugeLength b_As_hugeLength 3 (some .int) :: TBL
abbrev b_As_newLength : ByteArray := prog_25_method_27_code
abbrev y_As_newLength : MethodName := ⟨"jdk/internal/util/ArraysSupport", "newLength", "(III)I"⟩
abbrev w_As_newLength : List Cond := Cond.code y_As_newLength b_As_newLength 4 (some .int) :: TBL
abbrev b_Ar_copyOf1 : ByteArray := prog_19_method_120_code
abbrev y_Ar_copyOf1 : MethodName := ⟨"java/util/Arrays", "copyOf", "([Ljava/lang/Object;ILjava/lang/Class;)[Ljava/lang/Object;"⟩
abbrev w_Ar_copyOf1 : List Cond := Cond.code y_Ar_copyOf1 b_Ar_copyOf1 4 (some (.array (.object "java/lang/Object"))) :: TBL
abbrev b_Ar_copyOf0 : ByteArray := prog_19_method_119_code
abbrev y_Ar_copyOf0 : MethodName := ⟨"java/util/Arrays", "copyOf", "([Ljava/lang/Object;I)[Ljava/lang/Object;"⟩
abbrev w_Ar_copyOf0 : List Cond := Cond.code y_Ar_copyOf0 b_Ar_copyOf0 2 (some (.array (.object "java/lang/Object"))) :: TBL
abbrev b_A_grow1 : ByteArray := prog_18_method_6_code
abbrev y_A_grow1 : MethodName := ⟨"java/util/ArrayList", "grow", "(I)[Ljava/lang/Object;"⟩
abbrev w_A_grow1 : List Cond := Cond.code y_A_grow1 b_A_grow1 4 (some (.array (.object "java/lang/Object"))) :: TBL
abbrev b_A_grow0 : ByteArray := prog_18_method_7_code
abbrev y_A_grow0 : MethodName := ⟨"java/util/ArrayList", "grow", "()[Ljava/lang/Object;"⟩
abbrev w_A_grow0 : List Cond := Cond.code y_A_grow0 b_A_grow0 1 (some (.array (.object "java/lang/Object"))) :: TBL
abbrev b_A_add1 : ByteArray := prog_18_method_24_code
abbrev y_A_add1 : MethodName := ⟨"java/util/ArrayList", "add", "(Ljava/lang/Object;[Ljava/lang/Object;I)V"⟩
abbrev w_A_add1 : List Cond := Cond.code y_A_add1 b_A_add1 4 none :: TBL
abbrev b_A_add0 : ByteArray := prog_18_method_25_code
abbrev y_A_add0 : MethodName := ⟨"java/util/ArrayList", "add", "(Ljava/lang/Object;)Z"⟩
abbrev w_A_add0 : List Cond := Cond.code y_A_add0 b_A_add0 2 (some .boolean) :: TBL
abbrev b_S_add : ByteArray := prog_1_method_3_code
abbrev y_S_add : MethodName := ⟨"PartitionedProcedureStore", "add", "(IIII)I"⟩
abbrev w_S_add : List Cond := Cond.code y_S_add b_S_add 6 (some .int) :: TBL
abbrev b_Pc_checkIndex : ByteArray := prog_26_method_11_code
abbrev y_Pc_checkIndex : MethodName := ⟨"jdk/internal/util/Preconditions", "checkIndex", "(IILjava/util/function/BiFunction;)I"⟩
abbrev w_Pc_checkIndex : List Cond := Cond.code y_Pc_checkIndex b_Pc_checkIndex 3 (some .int) :: TBL
abbrev b_Oj_checkIndex : ByteArray := prog_22_method_17_code
abbrev y_Oj_checkIndex : MethodName := ⟨"java/util/Objects", "checkIndex", "(II)I"⟩
abbrev w_Oj_checkIndex : List Cond := Cond.code y_Oj_checkIndex b_Oj_checkIndex 2 (some .int) :: TBL
abbrev b_A_elementData : ByteArray := prog_18_method_18_code
abbrev y_A_elementData : MethodName := ⟨"java/util/ArrayList", "elementData", "(I)Ljava/lang/Object;"⟩
abbrev w_A_elementData : List Cond := Cond.code y_A_elementData b_A_elementData 2 (some (.object "java/lang/Object")) :: TBL
abbrev b_A_get : ByteArray := prog_18_method_20_code
abbrev y_A_get : MethodName := ⟨"java/util/ArrayList", "get", "(I)Ljava/lang/Object;"⟩
abbrev w_A_get : List Cond := Cond.code y_A_get b_A_get 2 (some (.object "java/lang/Object")) :: TBL
abbrev b_P_isSound : ByteArray := prog_3_method_3_code
abbrev y_P_isSound : MethodName := ⟨"PartitionedProcedureStore$Procedure", "isSound", "()Z"⟩
abbrev w_P_isSound : List Cond := Cond.code y_P_isSound b_P_isSound 4 (some .boolean) :: TBL
abbrev b_S_deploy : ByteArray := prog_1_method_4_code
abbrev y_S_deploy : MethodName := ⟨"PartitionedProcedureStore", "deploy", "()I"⟩
abbrev w_S_deploy : List Cond := Cond.code y_S_deploy b_S_deploy 2 (some .int) :: TBL
abbrev b_K_init : ByteArray := prog_8_method_1_code
abbrev y_K_init : MethodName := ⟨"PartitionedProcedureStore$Task", "<init>", "(IILPartitionedProcedureStore$Procedure;III)V"⟩
abbrev w_K_init : List Cond := Cond.code y_K_init b_K_init 7 none :: TBL
abbrev b_C_begin : ByteArray := prog_2_method_2_code
abbrev y_C_begin : MethodName := ⟨"PartitionedProcedureStore$Client", "begin", "(I)V"⟩
abbrev w_C_begin : List Cond := Cond.code y_C_begin b_C_begin 2 none :: TBL
abbrev b_S_waitAtAllSites : ByteArray := prog_1_method_20_code
abbrev y_S_waitAtAllSites : MethodName := ⟨"PartitionedProcedureStore", "waitAtAllSites", "(LPartitionedProcedureStore$Task;)V"⟩
abbrev w_S_waitAtAllSites : List Cond := Cond.code y_S_waitAtAllSites b_S_waitAtAllSites 6 none :: TBL
abbrev b_Ma_floorMod : ByteArray := prog_14_method_50_code
abbrev y_Ma_floorMod : MethodName := ⟨"java/lang/Math", "floorMod", "(II)I"⟩
abbrev w_Ma_floorMod : List Cond := Cond.code y_Ma_floorMod b_Ma_floorMod 3 (some .int) :: TBL
abbrev b_K_home : ByteArray := prog_8_method_2_code
abbrev y_K_home : MethodName := ⟨"PartitionedProcedureStore$Task", "home", "(I)I"⟩
abbrev w_K_home : List Cond := Cond.code y_K_home b_K_home 2 (some .int) :: TBL
abbrev b_S_invoke : ByteArray := prog_1_method_5_code
abbrev y_S_invoke : MethodName := ⟨"PartitionedProcedureStore", "invoke", "(IIIII)I"⟩
abbrev w_S_invoke : List Cond := Cond.code y_S_invoke b_S_invoke 7 (some .int) :: TBL
abbrev b_A_isEmpty : ByteArray := prog_18_method_9_code
abbrev y_A_isEmpty : MethodName := ⟨"java/util/ArrayList", "isEmpty", "()Z"⟩
abbrev w_A_isEmpty : List Cond := Cond.code y_A_isEmpty b_A_isEmpty 1 (some .boolean) :: TBL
abbrev b_Q_first : ByteArray := prog_5_method_2_code
abbrev y_Q_first : MethodName := ⟨"PartitionedProcedureStore$Site", "first", "()LPartitionedProcedureStore$Task;"⟩
abbrev w_Q_first : List Cond := Cond.code y_Q_first b_Q_first 1 (some (.object "PartitionedProcedureStore$Task")) :: TBL
abbrev b_A_fastRemove : ByteArray := prog_18_method_39_code
abbrev y_A_fastRemove : MethodName := ⟨"java/util/ArrayList", "fastRemove", "([Ljava/lang/Object;I)V"⟩
abbrev w_A_fastRemove : List Cond := Cond.code y_A_fastRemove b_A_fastRemove 4 none :: TBL
abbrev b_A_remove : ByteArray := prog_18_method_29_code
abbrev y_A_remove : MethodName := ⟨"java/util/ArrayList", "remove", "(I)Ljava/lang/Object;"⟩
abbrev w_A_remove : List Cond := Cond.code y_A_remove b_A_remove 4 (some (.object "java/lang/Object")) :: TBL
abbrev b_Q_passOn : ByteArray := prog_5_method_3_code
abbrev y_Q_passOn : MethodName := ⟨"PartitionedProcedureStore$Site", "passOn", "()V"⟩
abbrev w_Q_passOn : List Cond := Cond.code y_Q_passOn b_Q_passOn 1 none :: TBL
abbrev b_B_copyPart : ByteArray := prog_7_method_4_code
abbrev y_B_copyPart : MethodName := ⟨"PartitionedProcedureStore$Table", "copyPart", "(LPartitionedProcedureStore$Table;II)V"⟩
abbrev w_B_copyPart : List Cond := Cond.code y_B_copyPart b_B_copyPart 5 none :: TBL
abbrev b_B_copyCells : ByteArray := prog_7_method_3_code
abbrev y_B_copyCells : MethodName := ⟨"PartitionedProcedureStore$Table", "copyCells", "(LPartitionedProcedureStore$Table;)V"⟩
abbrev w_B_copyCells : List Cond := Cond.code y_B_copyCells b_B_copyCells 2 none :: TBL
abbrev b_B_countPart : ByteArray := prog_7_method_5_code
abbrev y_B_countPart : MethodName := ⟨"PartitionedProcedureStore$Table", "countPart", "(II)I"⟩
abbrev w_B_countPart : List Cond := Cond.code y_B_countPart b_B_countPart 5 (some .int) :: TBL
abbrev b_Q_beginPart : ByteArray := prog_5_method_4_code
abbrev y_Q_beginPart : MethodName := ⟨"PartitionedProcedureStore$Site", "beginPart", "(I)V"⟩
abbrev w_Q_beginPart : List Cond := Cond.code y_Q_beginPart b_Q_beginPart 2 none :: TBL
abbrev b_B_copyFrom : ByteArray := prog_7_method_2_code
abbrev y_B_copyFrom : MethodName := ⟨"PartitionedProcedureStore$Table", "copyFrom", "(LPartitionedProcedureStore$Table;)V"⟩
abbrev w_B_copyFrom : List Cond := Cond.code y_B_copyFrom b_B_copyFrom 2 none :: TBL
abbrev b_S_dropLogUpTo : ByteArray := prog_1_method_27_code
abbrev y_S_dropLogUpTo : MethodName := ⟨"PartitionedProcedureStore", "dropLogUpTo", "(I)V"⟩
abbrev w_S_dropLogUpTo : List Cond := Cond.code y_S_dropLogUpTo b_S_dropLogUpTo 3 none :: TBL
abbrev b_C_settle : ByteArray := prog_2_method_4_code
abbrev y_C_settle : MethodName := ⟨"PartitionedProcedureStore$Client", "settle", "(I)V"⟩
abbrev w_C_settle : List Cond := Cond.code y_C_settle b_C_settle 2 none :: TBL
abbrev b_S_raiseDurable : ByteArray := prog_1_method_26_code
abbrev y_S_raiseDurable : MethodName := ⟨"PartitionedProcedureStore", "raiseDurable", "(I)V"⟩
abbrev w_S_raiseDurable : List Cond := Cond.code y_S_raiseDurable b_S_raiseDurable 6 none :: TBL
abbrev b_S_completeSnapshotIfCopied : ByteArray := prog_1_method_25_code
abbrev y_S_completeSnapshotIfCopied : MethodName := ⟨"PartitionedProcedureStore", "completeSnapshotIfCopied", "()V"⟩
abbrev w_S_completeSnapshotIfCopied : List Cond := Cond.code y_S_completeSnapshotIfCopied b_S_completeSnapshotIfCopied 5 none :: TBL
abbrev b_S_comeToMarker : ByteArray := prog_1_method_24_code
abbrev y_S_comeToMarker : MethodName := ⟨"PartitionedProcedureStore", "comeToMarker", "(I)V"⟩
abbrev w_S_comeToMarker : List Cond := Cond.code y_S_comeToMarker b_S_comeToMarker 2 none :: TBL
abbrev b_S_areAllStalled : ByteArray := prog_1_method_21_code
abbrev y_S_areAllStalled : MethodName := ⟨"PartitionedProcedureStore", "areAllStalled", "()Z"⟩
abbrev w_S_areAllStalled : List Cond := Cond.code y_S_areAllStalled b_S_areAllStalled 5 (some .boolean) :: TBL
abbrev b_S_passOnAtAllSites : ByteArray := prog_1_method_22_code
abbrev y_S_passOnAtAllSites : MethodName := ⟨"PartitionedProcedureStore", "passOnAtAllSites", "()V"⟩
abbrev w_S_passOnAtAllSites : List Cond := Cond.code y_S_passOnAtAllSites b_S_passOnAtAllSites 5 none :: TBL
abbrev b_Ar_fill1 : ByteArray := prog_19_method_103_code
abbrev y_Ar_fill1 : MethodName := ⟨"java/util/Arrays", "fill", "([II)V"⟩
abbrev w_Ar_fill1 : List Cond := Cond.code y_Ar_fill1 b_Ar_fill1 4 none :: TBL
abbrev b_R_begin : ByteArray := prog_4_method_3_code
abbrev y_R_begin : MethodName := ⟨"PartitionedProcedureStore$Runner", "begin", "(LPartitionedProcedureStore$Task;)V"⟩
abbrev w_R_begin : List Cond := Cond.code y_R_begin b_R_begin 2 none :: TBL
abbrev b_R_isReachable : ByteArray := prog_4_method_6_code
abbrev y_R_isReachable : MethodName := ⟨"PartitionedProcedureStore$Runner", "isReachable", "(I)Z"⟩
abbrev w_R_isReachable : List Cond := Cond.code y_R_isReachable b_R_isReachable 2 (some .boolean) :: TBL
abbrev b_R_isPresent : ByteArray := prog_4_method_7_code
abbrev y_R_isPresent : MethodName := ⟨"PartitionedProcedureStore$Runner", "isPresent", "(I)Z"⟩
abbrev w_R_isPresent : List Cond := Cond.code y_R_isPresent b_R_isPresent 2 (some .boolean) :: TBL
abbrev b_R_readRow : ByteArray := prog_4_method_8_code
abbrev y_R_readRow : MethodName := ⟨"PartitionedProcedureStore$Runner", "readRow", "(LPartitionedProcedureStore$Statement;)I"⟩
abbrev w_R_readRow : List Cond := Cond.code y_R_readRow b_R_readRow 3 (some .int) :: TBL
abbrev b_R_writeRow : ByteArray := prog_4_method_9_code
abbrev y_R_writeRow : MethodName := ⟨"PartitionedProcedureStore$Runner", "writeRow", "(IJ)I"⟩
abbrev w_R_writeRow : List Cond := Cond.code y_R_writeRow b_R_writeRow 4 (some .int) :: TBL
abbrev b_R_loadCell : ByteArray := prog_4_method_10_code
abbrev y_R_loadCell : MethodName := ⟨"PartitionedProcedureStore$Runner", "loadCell", "(LPartitionedProcedureStore$Statement;)I"⟩
abbrev w_R_loadCell : List Cond := Cond.code y_R_loadCell b_R_loadCell 3 (some .int) :: TBL
abbrev b_R_storeCell : ByteArray := prog_4_method_11_code
abbrev y_R_storeCell : MethodName := ⟨"PartitionedProcedureStore$Runner", "storeCell", "(LPartitionedProcedureStore$Statement;)I"⟩
abbrev w_R_storeCell : List Cond := Cond.code y_R_storeCell b_R_storeCell 3 (some .int) :: TBL
abbrev b_R_putOut : ByteArray := prog_4_method_12_code
abbrev y_R_putOut : MethodName := ⟨"PartitionedProcedureStore$Runner", "putOut", "(I)I"⟩
abbrev w_R_putOut : List Cond := Cond.code y_R_putOut b_R_putOut 2 (some .int) :: TBL
abbrev b_R_execute : ByteArray := prog_4_method_5_code
abbrev y_R_execute : MethodName := ⟨"PartitionedProcedureStore$Runner", "execute", "(LPartitionedProcedureStore$Statement;)I"⟩
abbrev w_R_execute : List Cond := Cond.code y_R_execute b_R_execute 2 (some .int) :: TBL
abbrev b_R_abort : ByteArray := prog_4_method_4_code
abbrev y_R_abort : MethodName := ⟨"PartitionedProcedureStore$Runner", "abort", "(I)V"⟩
abbrev w_R_abort : List Cond := Cond.code y_R_abort b_R_abort 2 none :: TBL
abbrev b_R_run : ByteArray := prog_4_method_2_code
abbrev y_R_run : MethodName := ⟨"PartitionedProcedureStore$Runner", "run", "(LPartitionedProcedureStore$Task;)Z"⟩
abbrev w_R_run : List Cond := Cond.code y_R_run b_R_run 6 (some .boolean) :: TBL
abbrev b_C_finish : ByteArray := prog_2_method_3_code
abbrev y_C_finish : MethodName := ⟨"PartitionedProcedureStore$Client", "finish", "(ZLPartitionedProcedureStore$Runner;)V"⟩
abbrev w_C_finish : List Cond := Cond.code y_C_finish b_C_finish 3 none :: TBL
abbrev b_S_finish : ByteArray := prog_1_method_23_code
abbrev y_S_finish : MethodName := ⟨"PartitionedProcedureStore", "finish", "(LPartitionedProcedureStore$Task;)V"⟩
abbrev w_S_finish : List Cond := Cond.code y_S_finish b_S_finish 3 none :: TBL
abbrev b_S_step : ByteArray := prog_1_method_6_code
abbrev y_S_step : MethodName := ⟨"PartitionedProcedureStore", "step", "(I)I"⟩
abbrev w_S_step : List Cond := Cond.code y_S_step b_S_step 3 (some .int) :: TBL
abbrev b_S_flush : ByteArray := prog_1_method_7_code
abbrev y_S_flush : MethodName := ⟨"PartitionedProcedureStore", "flush", "()I"⟩
abbrev w_S_flush : List Cond := Cond.code y_S_flush b_S_flush 1 (some .int) :: TBL
abbrev b_S_snapshot : ByteArray := prog_1_method_8_code
abbrev y_S_snapshot : MethodName := ⟨"PartitionedProcedureStore", "snapshot", "()I"⟩
abbrev w_S_snapshot : List Cond := Cond.code y_S_snapshot b_S_snapshot 5 (some .int) :: TBL
abbrev b_S_scan : ByteArray := prog_1_method_9_code
abbrev y_S_scan : MethodName := ⟨"PartitionedProcedureStore", "scan", "(II)I"⟩
abbrev w_S_scan : List Cond := Cond.code y_S_scan b_S_scan 4 (some .int) :: TBL
abbrev b_Q_restart : ByteArray := prog_5_method_5_code
abbrev y_Q_restart : MethodName := ⟨"PartitionedProcedureStore$Site", "restart", "()V"⟩
abbrev w_Q_restart : List Cond := Cond.code y_Q_restart b_Q_restart 1 none :: TBL
abbrev b_C_lose : ByteArray := prog_2_method_5_code
abbrev y_C_lose : MethodName := ⟨"PartitionedProcedureStore$Client", "lose", "()V"⟩
abbrev w_C_lose : List Cond := Cond.code y_C_lose b_C_lose 1 none :: TBL
abbrev b_S_dropLogAbove : ByteArray := prog_1_method_28_code
abbrev y_S_dropLogAbove : MethodName := ⟨"PartitionedProcedureStore", "dropLogAbove", "(I)V"⟩
abbrev w_S_dropLogAbove : List Cond := Cond.code y_S_dropLogAbove b_S_dropLogAbove 3 none :: TBL
abbrev b_S_crash : ByteArray := prog_1_method_10_code
abbrev y_S_crash : MethodName := ⟨"PartitionedProcedureStore", "crash", "()I"⟩
abbrev w_S_crash : List Cond := Cond.code y_S_crash b_S_crash 5 (some .int) :: TBL
abbrev b_S_answer : ByteArray := prog_1_method_11_code
abbrev y_S_answer : MethodName := ⟨"PartitionedProcedureStore", "answer", "(I)I"⟩
abbrev w_S_answer : List Cond := Cond.code y_S_answer b_S_answer 2 (some .int) :: TBL
abbrev b_C_tell : ByteArray := prog_2_method_6_code
abbrev y_C_tell : MethodName := ⟨"PartitionedProcedureStore$Client", "tell", "(I)J"⟩
abbrev w_C_tell : List Cond := Cond.code y_C_tell b_C_tell 2 (some .long) :: TBL
abbrev b_S_output : ByteArray := prog_1_method_12_code
abbrev y_S_output : MethodName := ⟨"PartitionedProcedureStore", "output", "(II)J"⟩
abbrev w_S_output : List Cond := Cond.code y_S_output b_S_output 3 (some .long) :: TBL
abbrev b_S_row : ByteArray := prog_1_method_13_code
abbrev y_S_row : MethodName := ⟨"PartitionedProcedureStore", "row", "(I)J"⟩
abbrev w_S_row : List Cond := Cond.code y_S_row b_S_row 2 (some .long) :: TBL
abbrev b_S_replicated : ByteArray := prog_1_method_14_code
abbrev y_S_replicated : MethodName := ⟨"PartitionedProcedureStore", "replicated", "(I)J"⟩
abbrev w_S_replicated : List Cond := Cond.code y_S_replicated b_S_replicated 2 (some .long) :: TBL
abbrev b_S_waiting : ByteArray := prog_1_method_15_code
abbrev y_S_waiting : MethodName := ⟨"PartitionedProcedureStore", "waiting", "(I)I"⟩
abbrev w_S_waiting : List Cond := Cond.code y_S_waiting b_S_waiting 2 (some .int) :: TBL
abbrev b_S_rows : ByteArray := prog_1_method_16_code
abbrev y_S_rows : MethodName := ⟨"PartitionedProcedureStore", "rows", "(I)I"⟩
abbrev w_S_rows : List Cond := Cond.code y_S_rows b_S_rows 2 (some .int) :: TBL
abbrev b_S_stalledNumber : ByteArray := prog_1_method_29_code
abbrev y_S_stalledNumber : MethodName := ⟨"PartitionedProcedureStore", "stalledNumber", "()I"⟩
abbrev w_S_stalledNumber : List Cond := Cond.code y_S_stalledNumber b_S_stalledNumber 6 (some .int) :: TBL
abbrev b_S_count : ByteArray := prog_1_method_17_code
abbrev y_S_count : MethodName := ⟨"PartitionedProcedureStore", "count", "(I)I"⟩
abbrev w_S_count : List Cond := Cond.code y_S_count b_S_count 2 (some .int) :: TBL
abbrev b_L_cell : ByteArray := method_2_code
abbrev y_L_cell : MethodName := ⟨"PartitionedProcedureStoreLaw", "cell", "([II)I"⟩
abbrev w_L_cell : List Cond := Cond.code y_L_cell b_L_cell 2 (some .int) :: TBL
abbrev b_M_init : ByteArray := prog_10_method_1_code
abbrev y_M_init : MethodName := ⟨"PartitionedProcedureStoreModel", "<init>", "(I)V"⟩
abbrev w_M_init : List Cond := Cond.code y_M_init b_M_init 2 none :: TBL
abbrev b_M_outside : ByteArray := prog_10_method_2_code
abbrev y_M_outside : MethodName := ⟨"PartitionedProcedureStoreModel", "outside", "(II)Z"⟩
abbrev w_M_outside : List Cond := Cond.code y_M_outside b_M_outside 2 (some .boolean) :: TBL
abbrev b_M_open : ByteArray := prog_10_method_3_code
abbrev y_M_open : MethodName := ⟨"PartitionedProcedureStoreModel", "open", "(IZ)I"⟩
abbrev w_M_open : List Cond := Cond.code y_M_open b_M_open 3 (some .int) :: TBL
abbrev b_M_add : ByteArray := prog_10_method_4_code
abbrev y_M_add : MethodName := ⟨"PartitionedProcedureStoreModel", "add", "(IIII)I"⟩
abbrev w_M_add : List Cond := Cond.code y_M_add b_M_add 7 (some .int) :: TBL
abbrev b_M_deploy : ByteArray := prog_10_method_5_code
abbrev y_M_deploy : MethodName := ⟨"PartitionedProcedureStoreModel", "deploy", "()I"⟩
abbrev w_M_deploy : List Cond := Cond.code y_M_deploy b_M_deploy 5 (some .int) :: TBL
abbrev b_M_logged : ByteArray := prog_10_method_14_code
abbrev y_M_logged : MethodName := ⟨"PartitionedProcedureStoreModel", "logged", "()I"⟩
abbrev w_M_logged : List Cond := Cond.code y_M_logged b_M_logged 3 (some .int) :: TBL
abbrev b_M_next : ByteArray := prog_10_method_16_code
abbrev y_M_next : MethodName := ⟨"PartitionedProcedureStoreModel", "next", "(I)I"⟩
abbrev w_M_next : List Cond := Cond.code y_M_next b_M_next 2 (some .int) :: TBL
abbrev b_M_invoke : ByteArray := prog_10_method_15_code
abbrev y_M_invoke : MethodName := ⟨"PartitionedProcedureStoreModel", "invoke", "(IIIII)I"⟩
abbrev w_M_invoke : List Cond := Cond.code y_M_invoke b_M_invoke 7 (some .int) :: TBL
abbrev b_M_partitionOf : ByteArray := prog_10_method_6_code
abbrev y_M_partitionOf : MethodName := ⟨"PartitionedProcedureStoreModel", "partitionOf", "(I)I"⟩
abbrev w_M_partitionOf : List Cond := Cond.code y_M_partitionOf b_M_partitionOf 3 (some .int) :: TBL
abbrev b_M_waits : ByteArray := prog_10_method_17_code
abbrev y_M_waits : MethodName := ⟨"PartitionedProcedureStoreModel", "waits", "(II)Z"⟩
abbrev w_M_waits : List Cond := Cond.code y_M_waits b_M_waits 3 (some .boolean) :: TBL
abbrev b_M_rowsOf : ByteArray := prog_10_method_18_code
abbrev y_M_rowsOf : MethodName := ⟨"PartitionedProcedureStoreModel", "rowsOf", "(I)I"⟩
abbrev w_M_rowsOf : List Cond := Cond.code y_M_rowsOf b_M_rowsOf 4 (some .int) :: TBL
abbrev b_M_foreign : ByteArray := prog_10_method_7_code
abbrev y_M_foreign : MethodName := ⟨"PartitionedProcedureStoreModel", "foreign", "(II)Z"⟩
abbrev w_M_foreign : List Cond := Cond.code y_M_foreign b_M_foreign 3 (some .boolean) :: TBL
abbrev b_M_put : ByteArray := prog_10_method_9_code
abbrev y_M_put : MethodName := ⟨"PartitionedProcedureStoreModel", "put", "(IZI)Z"⟩
abbrev w_M_put : List Cond := Cond.code y_M_put b_M_put 4 (some .boolean) :: TBL
abbrev b_M_statement : ByteArray := prog_10_method_8_code
abbrev y_M_statement : MethodName := ⟨"PartitionedProcedureStoreModel", "statement", "(II)Z"⟩
abbrev w_M_statement : List Cond := Cond.code y_M_statement b_M_statement 5 (some .boolean) :: TBL
abbrev b_M_execute : ByteArray := prog_10_method_10_code
abbrev y_M_execute : MethodName := ⟨"PartitionedProcedureStoreModel", "execute", "(I)V"⟩
abbrev w_M_execute : List Cond := Cond.code y_M_execute b_M_execute 5 none :: TBL
abbrev b_M_replay : ByteArray := prog_10_method_12_code
abbrev y_M_replay : MethodName := ⟨"PartitionedProcedureStoreModel", "replay", "(I)V"⟩
abbrev w_M_replay : List Cond := Cond.code y_M_replay b_M_replay 3 none :: TBL
abbrev b_M_tellClients : ByteArray := prog_10_method_11_code
abbrev y_M_tellClients : MethodName := ⟨"PartitionedProcedureStoreModel", "tellClients", "()V"⟩
abbrev w_M_tellClients : List Cond := Cond.code y_M_tellClients b_M_tellClients 4 none :: TBL
abbrev b_M_completeIfDone : ByteArray := prog_10_method_13_code
abbrev y_M_completeIfDone : MethodName := ⟨"PartitionedProcedureStoreModel", "completeIfDone", "()V"⟩
abbrev w_M_completeIfDone : List Cond := Cond.code y_M_completeIfDone b_M_completeIfDone 2 none :: TBL
abbrev b_M_step : ByteArray := prog_10_method_19_code
abbrev y_M_step : MethodName := ⟨"PartitionedProcedureStoreModel", "step", "(I)I"⟩
abbrev w_M_step : List Cond := Cond.code y_M_step b_M_step 3 (some .int) :: TBL
abbrev b_M_flush : ByteArray := prog_10_method_20_code
abbrev y_M_flush : MethodName := ⟨"PartitionedProcedureStoreModel", "flush", "()I"⟩
abbrev w_M_flush : List Cond := Cond.code y_M_flush b_M_flush 1 (some .int) :: TBL
abbrev b_M_snapshot : ByteArray := prog_10_method_21_code
abbrev y_M_snapshot : MethodName := ⟨"PartitionedProcedureStoreModel", "snapshot", "()I"⟩
abbrev w_M_snapshot : List Cond := Cond.code y_M_snapshot b_M_snapshot 1 (some .int) :: TBL
abbrev b_M_scan : ByteArray := prog_10_method_22_code
abbrev y_M_scan : MethodName := ⟨"PartitionedProcedureStoreModel", "scan", "(II)I"⟩
abbrev w_M_scan : List Cond := Cond.code y_M_scan b_M_scan 5 (some .int) :: TBL
abbrev b_M_crash : ByteArray := prog_10_method_23_code
abbrev y_M_crash : MethodName := ⟨"PartitionedProcedureStoreModel", "crash", "()I"⟩
abbrev w_M_crash : List Cond := Cond.code y_M_crash b_M_crash 2 (some .int) :: TBL
abbrev b_M_answer : ByteArray := prog_10_method_24_code
abbrev y_M_answer : MethodName := ⟨"PartitionedProcedureStoreModel", "answer", "(I)I"⟩
abbrev w_M_answer : List Cond := Cond.code y_M_answer b_M_answer 2 (some .int) :: TBL
abbrev b_M_output : ByteArray := prog_10_method_25_code
abbrev y_M_output : MethodName := ⟨"PartitionedProcedureStoreModel", "output", "(II)J"⟩
abbrev w_M_output : List Cond := Cond.code y_M_output b_M_output 3 (some .long) :: TBL
abbrev b_M_row : ByteArray := prog_10_method_26_code
abbrev y_M_row : MethodName := ⟨"PartitionedProcedureStoreModel", "row", "(I)J"⟩
abbrev w_M_row : List Cond := Cond.code y_M_row b_M_row 2 (some .long) :: TBL
abbrev b_M_replicated : ByteArray := prog_10_method_27_code
abbrev y_M_replicated : MethodName := ⟨"PartitionedProcedureStoreModel", "replicated", "(I)J"⟩
abbrev w_M_replicated : List Cond := Cond.code y_M_replicated b_M_replicated 2 (some .long) :: TBL
abbrev b_M_waiting : ByteArray := prog_10_method_28_code
abbrev y_M_waiting : MethodName := ⟨"PartitionedProcedureStoreModel", "waiting", "(I)I"⟩
abbrev w_M_waiting : List Cond := Cond.code y_M_waiting b_M_waiting 4 (some .int) :: TBL
abbrev b_M_rows : ByteArray := prog_10_method_29_code
abbrev y_M_rows : MethodName := ⟨"PartitionedProcedureStoreModel", "rows", "(I)I"⟩
abbrev w_M_rows : List Cond := Cond.code y_M_rows b_M_rows 2 (some .int) :: TBL
abbrev b_M_stalledAt : ByteArray := prog_10_method_30_code
abbrev y_M_stalledAt : MethodName := ⟨"PartitionedProcedureStoreModel", "stalledAt", "()I"⟩
abbrev w_M_stalledAt : List Cond := Cond.code y_M_stalledAt b_M_stalledAt 2 (some .int) :: TBL
abbrev b_M_count : ByteArray := prog_10_method_31_code
abbrev y_M_count : MethodName := ⟨"PartitionedProcedureStoreModel", "count", "(I)I"⟩
abbrev w_M_count : List Cond := Cond.code y_M_count b_M_count 2 (some .int) :: TBL
set_option maxRecDepth 20000 in
theorem LK_0 : (Cond.methodLink "java/util/AbstractCollection" 1 ⟨"java/lang/Object", "<init>", "()V"⟩) ∈ TBL := tb0 42 rfl rfl
set_option maxRecDepth 20000 in
theorem LK_1 : (Cond.instanceMethod ⟨"java/lang/Object", "<init>", "()V"⟩) ∈ TBL := tb0 25 rfl rfl
set_option maxRecDepth 20000 in
theorem LK_objcode : Cond.code Lib.objectInit ⟨#[0xb1]⟩ 1 none ∈ TBL := tb0 26 rfl rfl
set_option maxRecDepth 20000 in
theorem LK_code_Ac_init : Cond.code y_Ac_init b_Ac_init 1 none ∈ TBL := tb0 41 rfl rfl
set_option maxRecDepth 20000 in
theorem LK_4 : (Cond.initialized "java/util/AbstractCollection") ∈ TBL := tb0 2 rfl rfl
set_option maxRecDepth 20000 in
theorem LK_5 : (Cond.methodLink "java/util/AbstractList" 1 ⟨"java/util/AbstractCollection", "<init>", "()V"⟩) ∈ TBL := tb0 39 rfl rfl
set_option maxRecDepth 20000 in
theorem LK_6 : (Cond.instanceMethod ⟨"java/util/AbstractCollection", "<init>", "()V"⟩) ∈ TBL := tb0 40 rfl rfl
set_option maxRecDepth 20000 in
theorem LK_7 : (Cond.fieldLink "java/util/AbstractList" 7 "java/util/AbstractList" "modCount" "I") ∈ TBL := tb0 47 rfl rfl
set_option maxRecDepth 20000 in
theorem LK_code_Ab_init : Cond.code y_Ab_init b_Ab_init 1 none ∈ TBL := tb0 38 rfl rfl
set_option maxRecDepth 20000 in
theorem LK_9 : (Cond.initialized "java/util/AbstractList") ∈ TBL := tb0 3 rfl rfl
set_option maxRecDepth 20000 in
theorem LK_10 : (Cond.methodLink "java/util/ArrayList" 1 ⟨"java/util/AbstractList", "<init>", "()V"⟩) ∈ TBL := tb0 36 rfl rfl
set_option maxRecDepth 20000 in
theorem LK_11 : (Cond.instanceMethod ⟨"java/util/AbstractList", "<init>", "()V"⟩) ∈ TBL := tb0 37 rfl rfl
set_option maxRecDepth 20000 in
theorem LK_12 : (Cond.fieldLink "java/util/ArrayList" 39 "java/util/ArrayList" "DEFAULTCAPACITY_EMPTY_ELEMENTDATA" "[Ljava/lang/Object;") ∈ TBL := tb0 43 rfl rfl
set_option maxRecDepth 20000 in
theorem LK_13 : (Cond.fieldLink "java/util/ArrayList" 9 "java/util/ArrayList" "elementData" "[Ljava/lang/Object;") ∈ TBL := tb0 45 rfl rfl
set_option maxRecDepth 20000 in
theorem LK_14 : (Cond.methodLink "PartitionedProcedureStore$Table" 3 ⟨"java/lang/Object", "<init>", "()V"⟩) ∈ TBL := tb0 62 rfl rfl
set_option maxRecDepth 20000 in
theorem LK_15 : (Cond.arrayClass FieldType.long) ∈ TBL := tb0 78 rfl rfl
set_option maxRecDepth 20000 in
theorem LK_16 : (Cond.fieldLink "PartitionedProcedureStore$Table" 9 "PartitionedProcedureStore$Table" "values" "[J") ∈ TBL := tb0 67 rfl rfl
set_option maxRecDepth 20000 in
theorem LK_17 : (Cond.arrayClass FieldType.int) ∈ TBL := tb0 79 rfl rfl
set_option maxRecDepth 20000 in
theorem LK_18 : (Cond.fieldLink "PartitionedProcedureStore$Table" 15 "PartitionedProcedureStore$Table" "cells" "[I") ∈ TBL := tb0 70 rfl rfl
set_option maxRecDepth 20000 in
theorem LK_19 : (Cond.constantLong "PartitionedProcedureStore$Table" 19 (1000000000000 : Int64)) ∈ TBL := tb0 63 rfl rfl
set_option maxRecDepth 20000 in
theorem LK_20 : (Cond.methodLink "PartitionedProcedureStore$Table" 21 ⟨"java/util/Arrays", "fill", "([JJ)V"⟩) ∈ TBL := tb0 64 rfl rfl
set_option maxRecDepth 20000 in
theorem LK_21 : (Cond.static ⟨"java/util/Arrays", "fill", "([JJ)V"⟩) ∈ TBL := tb0 65 rfl rfl
set_option maxRecDepth 20000 in
theorem LK_22 : (Cond.initialized "java/util/Arrays") ∈ TBL := tb0 6 rfl rfl
set_option maxRecDepth 20000 in
theorem LK_code_Ar_fill0 : Cond.code y_Ar_fill0 b_Ar_fill0 5 none ∈ TBL := tb0 66 rfl rfl
set_option maxRecDepth 20000 in
theorem LK_24 : (Cond.methodLink "PartitionedProcedureStore$Runner" 3 ⟨"java/lang/Object", "<init>", "()V"⟩) ∈ TBL := tb0 91 rfl rfl
set_option maxRecDepth 20000 in
theorem LK_25 : (Cond.classLink "PartitionedProcedureStore$Runner" 9 "PartitionedProcedureStore$Table") ∈ TBL := tb0 92 rfl rfl
set_option maxRecDepth 20000 in
theorem LK_26 : (Cond.instantiable "PartitionedProcedureStore$Table" 2) ∈ TBL := tb0 58 rfl rfl
set_option maxRecDepth 20000 in
theorem LK_27 : (Cond.initialized "PartitionedProcedureStore$Table") ∈ TBL := tb0 5 rfl rfl
set_option maxRecDepth 20000 in
theorem LK_code_B_init : Cond.code y_B_init b_B_init 1 none ∈ TBL := tb0 61 rfl rfl
set_option maxRecDepth 20000 in
theorem LK_29 : (Cond.methodLink "PartitionedProcedureStore$Runner" 11 ⟨"PartitionedProcedureStore$Table", "<init>", "()V"⟩) ∈ TBL := tb0 93 rfl rfl
set_option maxRecDepth 20000 in
theorem LK_30 : (Cond.instanceMethod ⟨"PartitionedProcedureStore$Table", "<init>", "()V"⟩) ∈ TBL := tb0 60 rfl rfl
set_option maxRecDepth 20000 in
theorem LK_31 : (Cond.fieldLink "PartitionedProcedureStore$Runner" 12 "PartitionedProcedureStore$Runner" "live" "LPartitionedProcedureStore$Table;") ∈ TBL := tb0 94 rfl rfl
set_option maxRecDepth 20000 in
theorem LK_32 : (Cond.fieldLink "PartitionedProcedureStore$Runner" 18 "PartitionedProcedureStore$Runner" "before" "LPartitionedProcedureStore$Table;") ∈ TBL := tb0 97 rfl rfl
set_option maxRecDepth 20000 in
theorem LK_33 : (Cond.fieldLink "PartitionedProcedureStore$Runner" 21 "PartitionedProcedureStore$Runner" "registers" "[I") ∈ TBL := tb0 98 rfl rfl
set_option maxRecDepth 20000 in
theorem LK_34 : (Cond.fieldLink "PartitionedProcedureStore$Runner" 25 "PartitionedProcedureStore$Runner" "home" "I") ∈ TBL := tb0 99 rfl rfl
set_option maxRecDepth 20000 in
theorem LK_35 : (Cond.fieldLink "PartitionedProcedureStore$Runner" 29 "PartitionedProcedureStore$Runner" "outputs" "[I") ∈ TBL := tb0 100 rfl rfl
set_option maxRecDepth 20000 in
theorem LK_36 : (Cond.fieldLink "PartitionedProcedureStore$Runner" 32 "PartitionedProcedureStore$Runner" "outputSize" "I") ∈ TBL := tb0 102 rfl rfl
set_option maxRecDepth 20000 in
theorem LK_37 : (Cond.fieldLink "PartitionedProcedureStore$Runner" 35 "PartitionedProcedureStore$Runner" "fault" "I") ∈ TBL := tb0 104 rfl rfl
set_option maxRecDepth 20000 in
theorem LK_38 : (Cond.fieldLink "PartitionedProcedureStore$Runner" 38 "PartitionedProcedureStore$Runner" "partitions" "I") ∈ TBL := tb0 96 rfl rfl
set_option maxRecDepth 20000 in
theorem LK_39 : (Cond.methodLink "PartitionedProcedureStore$Procedure" 3 ⟨"java/lang/Object", "<init>", "()V"⟩) ∈ TBL := tb0 127 rfl rfl
set_option maxRecDepth 20000 in
theorem LK_40 : (Cond.classLink "PartitionedProcedureStore$Procedure" 9 "java/util/ArrayList") ∈ TBL := tb0 128 rfl rfl
set_option maxRecDepth 20000 in
theorem LK_41 : (Cond.instantiable "java/util/ArrayList" 3) ∈ TBL := tb0 32 rfl rfl
set_option maxRecDepth 20000 in
theorem LK_42 : (Cond.initialized "java/util/ArrayList") ∈ TBL := tb0 4 rfl rfl
set_option maxRecDepth 20000 in
theorem LK_code_A_init : Cond.code y_A_init b_A_init 1 none ∈ TBL := tb0 35 rfl rfl
set_option maxRecDepth 20000 in
theorem LK_44 : (Cond.methodLink "PartitionedProcedureStore$Procedure" 11 ⟨"java/util/ArrayList", "<init>", "()V"⟩) ∈ TBL := tb0 129 rfl rfl
set_option maxRecDepth 20000 in
theorem LK_45 : (Cond.instanceMethod ⟨"java/util/ArrayList", "<init>", "()V"⟩) ∈ TBL := tb0 34 rfl rfl
set_option maxRecDepth 20000 in
theorem LK_46 : (Cond.fieldLink "PartitionedProcedureStore$Procedure" 12 "PartitionedProcedureStore$Procedure" "statements" "Ljava/util/ArrayList;") ∈ TBL := tb0 130 rfl rfl
set_option maxRecDepth 20000 in
theorem LK_47 : (Cond.fieldLink "PartitionedProcedureStore$Procedure" 18 "PartitionedProcedureStore$Procedure" "multi" "Z") ∈ TBL := tb0 133 rfl rfl
set_option maxRecDepth 20000 in
theorem LK_48 : (Cond.fieldLink "PartitionedProcedureStore$Procedure" 22 "PartitionedProcedureStore$Procedure" "deployed" "Z") ∈ TBL := tb0 136 rfl rfl
set_option maxRecDepth 20000 in
theorem LK_49 : (Cond.methodLink "PartitionedProcedureStore$Client" 3 ⟨"java/lang/Object", "<init>", "()V"⟩) ∈ TBL := tb0 149 rfl rfl
set_option maxRecDepth 20000 in
theorem LK_50 : (Cond.fieldLink "PartitionedProcedureStore$Client" 9 "PartitionedProcedureStore$Client" "state" "I") ∈ TBL := tb0 150 rfl rfl
set_option maxRecDepth 20000 in
theorem LK_51 : (Cond.fieldLink "PartitionedProcedureStore$Client" 15 "PartitionedProcedureStore$Client" "number" "I") ∈ TBL := tb0 152 rfl rfl
set_option maxRecDepth 20000 in
theorem LK_52 : (Cond.fieldLink "PartitionedProcedureStore$Client" 18 "PartitionedProcedureStore$Client" "done" "Z") ∈ TBL := tb0 153 rfl rfl
set_option maxRecDepth 20000 in
theorem LK_53 : (Cond.fieldLink "PartitionedProcedureStore$Client" 22 "PartitionedProcedureStore$Client" "committed" "Z") ∈ TBL := tb0 154 rfl rfl
set_option maxRecDepth 20000 in
theorem LK_54 : (Cond.fieldLink "PartitionedProcedureStore$Client" 25 "PartitionedProcedureStore$Client" "fault" "I") ∈ TBL := tb0 155 rfl rfl
set_option maxRecDepth 20000 in
theorem LK_55 : (Cond.fieldLink "PartitionedProcedureStore$Client" 28 "PartitionedProcedureStore$Client" "outputSize" "I") ∈ TBL := tb0 156 rfl rfl
set_option maxRecDepth 20000 in
theorem LK_56 : (Cond.fieldLink "PartitionedProcedureStore$Client" 31 "PartitionedProcedureStore$Client" "outputs" "[I") ∈ TBL := tb0 157 rfl rfl
set_option maxRecDepth 20000 in
theorem LK_57 : (Cond.methodLink "PartitionedProcedureStore$Site" 1 ⟨"java/lang/Object", "<init>", "()V"⟩) ∈ TBL := tb0 179 rfl rfl
set_option maxRecDepth 20000 in
theorem LK_58 : (Cond.classLink "PartitionedProcedureStore$Site" 7 "java/util/ArrayList") ∈ TBL := tb0 180 rfl rfl
set_option maxRecDepth 20000 in
theorem LK_59 : (Cond.methodLink "PartitionedProcedureStore$Site" 9 ⟨"java/util/ArrayList", "<init>", "()V"⟩) ∈ TBL := tb0 181 rfl rfl
set_option maxRecDepth 20000 in
theorem LK_60 : (Cond.fieldLink "PartitionedProcedureStore$Site" 10 "PartitionedProcedureStore$Site" "queue" "Ljava/util/ArrayList;") ∈ TBL := tb0 182 rfl rfl
set_option maxRecDepth 20000 in
theorem LK_61 : (Cond.fieldLink "PartitionedProcedureStore$Site" 16 "PartitionedProcedureStore$Site" "stalled" "Z") ∈ TBL := tb0 184 rfl rfl
set_option maxRecDepth 20000 in
theorem LK_62 : (Cond.fieldLink "PartitionedProcedureStore$Site" 20 "PartitionedProcedureStore$Site" "marked" "Z") ∈ TBL := tb0 186 rfl rfl
set_option maxRecDepth 20000 in
theorem LK_63 : (Cond.fieldLink "PartitionedProcedureStore$Site" 23 "PartitionedProcedureStore$Site" "rowsLeft" "I") ∈ TBL := tb0 188 rfl rfl
set_option maxRecDepth 20000 in
theorem LK_64 : (Cond.fieldLink "PartitionedProcedureStore" 64 "PartitionedProcedureStore" "partitions" "I") ∈ TBL := tb0 199 rfl rfl
set_option maxRecDepth 20000 in
theorem LK_65 : (Cond.classLink "PartitionedProcedureStore" 78 "PartitionedProcedureStore$Site") ∈ TBL := tb0 173 rfl rfl
set_option maxRecDepth 20000 in
theorem LK_66 : (Cond.fieldLink "PartitionedProcedureStore" 80 "PartitionedProcedureStore" "sites" "[LPartitionedProcedureStore$Site;") ∈ TBL := tb0 202 rfl rfl
set_option maxRecDepth 20000 in
theorem LK_67 : (Cond.instantiable "PartitionedProcedureStore$Site" 4) ∈ TBL := tb0 175 rfl rfl
set_option maxRecDepth 20000 in
theorem LK_68 : (Cond.initialized "PartitionedProcedureStore$Site") ∈ TBL := tb0 11 rfl rfl
set_option maxRecDepth 20000 in
theorem LK_code_Q_init : Cond.code y_Q_init b_Q_init 1 none ∈ TBL := tb0 178 rfl rfl
set_option maxRecDepth 20000 in
theorem NW_70 : (Cond.methodLinkNest "PartitionedProcedureStore" 84 ⟨"PartitionedProcedureStore$Site", "<init>", "()V"⟩ "PartitionedProcedureStore") ∈ nestW := by decide +kernel
set_option maxRecDepth 20000 in
theorem LK_71 : (Cond.instanceMethod ⟨"PartitionedProcedureStore$Site", "<init>", "()V"⟩) ∈ TBL := tb0 177 rfl rfl
set_option maxRecDepth 20000 in
theorem LK_72 : (Cond.fieldLink "PartitionedProcedureStore" 21 "PartitionedProcedureStore" "clients" "[LPartitionedProcedureStore$Client;") ∈ TBL := tb0 203 rfl rfl
set_option maxRecDepth 20000 in
theorem LK_73 : (Cond.classLink "PartitionedProcedureStore" 19 "PartitionedProcedureStore$Client") ∈ TBL := tb0 29 rfl rfl
set_option maxRecDepth 20000 in
theorem LK_74 : (Cond.instantiable "PartitionedProcedureStore$Client" 7) ∈ TBL := tb0 145 rfl rfl
set_option maxRecDepth 20000 in
theorem LK_75 : (Cond.initialized "PartitionedProcedureStore$Client") ∈ TBL := tb0 10 rfl rfl
set_option maxRecDepth 20000 in
theorem LK_code_C_init : Cond.code y_C_init b_C_init 1 none ∈ TBL := tb0 148 rfl rfl
set_option maxRecDepth 20000 in
theorem NW_77 : (Cond.methodLinkNest "PartitionedProcedureStore" 77 ⟨"PartitionedProcedureStore$Client", "<init>", "()V"⟩ "PartitionedProcedureStore") ∈ nestW := by decide +kernel
set_option maxRecDepth 20000 in
theorem LK_78 : (Cond.instanceMethod ⟨"PartitionedProcedureStore$Client", "<init>", "()V"⟩) ∈ TBL := tb0 147 rfl rfl
set_option maxRecDepth 20000 in
theorem LK_79 : (Cond.methodLink "PartitionedProcedureStore" 1 ⟨"java/lang/Object", "<init>", "()V"⟩) ∈ TBL := tb0 24 rfl rfl
set_option maxRecDepth 20000 in
theorem LK_80 : (Cond.classLink "PartitionedProcedureStore" 9 "PartitionedProcedureStore$Procedure") ∈ TBL := tb0 27 rfl rfl
set_option maxRecDepth 20000 in
theorem LK_81 : (Cond.fieldLink "PartitionedProcedureStore" 11 "PartitionedProcedureStore" "procedures" "[LPartitionedProcedureStore$Procedure;") ∈ TBL := tb0 200 rfl rfl
set_option maxRecDepth 20000 in
theorem LK_82 : (Cond.fieldLink "PartitionedProcedureStore" 15 "PartitionedProcedureStore" "draft" "LPartitionedProcedureStore$Procedure;") ∈ TBL := tb0 201 rfl rfl
set_option maxRecDepth 20000 in
theorem LK_83 : (Cond.classLink "PartitionedProcedureStore" 25 "java/util/ArrayList") ∈ TBL := tb0 31 rfl rfl
set_option maxRecDepth 20000 in
theorem LK_84 : (Cond.methodLink "PartitionedProcedureStore" 27 ⟨"java/util/ArrayList", "<init>", "()V"⟩) ∈ TBL := tb0 33 rfl rfl
set_option maxRecDepth 20000 in
theorem LK_85 : (Cond.fieldLink "PartitionedProcedureStore" 28 "PartitionedProcedureStore" "log" "Ljava/util/ArrayList;") ∈ TBL := tb0 204 rfl rfl
set_option maxRecDepth 20000 in
theorem LK_86 : (Cond.classLink "PartitionedProcedureStore" 32 "PartitionedProcedureStore$Table") ∈ TBL := tb0 57 rfl rfl
set_option maxRecDepth 20000 in
theorem LK_87 : (Cond.methodLink "PartitionedProcedureStore" 34 ⟨"PartitionedProcedureStore$Table", "<init>", "()V"⟩) ∈ TBL := tb0 59 rfl rfl
set_option maxRecDepth 20000 in
theorem LK_88 : (Cond.fieldLink "PartitionedProcedureStore" 35 "PartitionedProcedureStore" "complete" "LPartitionedProcedureStore$Table;") ∈ TBL := tb0 206 rfl rfl
set_option maxRecDepth 20000 in
theorem LK_89 : (Cond.fieldLink "PartitionedProcedureStore" 39 "PartitionedProcedureStore" "completeMarker" "I") ∈ TBL := tb0 207 rfl rfl
set_option maxRecDepth 20000 in
theorem LK_90 : (Cond.fieldLink "PartitionedProcedureStore" 43 "PartitionedProcedureStore" "underWay" "LPartitionedProcedureStore$Table;") ∈ TBL := tb0 208 rfl rfl
set_option maxRecDepth 20000 in
theorem LK_91 : (Cond.fieldLink "PartitionedProcedureStore" 46 "PartitionedProcedureStore" "underWayMarker" "I") ∈ TBL := tb0 209 rfl rfl
set_option maxRecDepth 20000 in
theorem LK_92 : (Cond.fieldLink "PartitionedProcedureStore" 49 "PartitionedProcedureStore" "lastNumber" "I") ∈ TBL := tb0 210 rfl rfl
set_option maxRecDepth 20000 in
theorem LK_93 : (Cond.fieldLink "PartitionedProcedureStore" 52 "PartitionedProcedureStore" "durable" "I") ∈ TBL := tb0 211 rfl rfl
set_option maxRecDepth 20000 in
theorem LK_94 : (Cond.methodLink "PartitionedProcedureStore" 55 ⟨"java/lang/Math", "min", "(II)I"⟩) ∈ TBL := tb0 80 rfl rfl
set_option maxRecDepth 20000 in
theorem LK_95 : (Cond.static ⟨"java/lang/Math", "min", "(II)I"⟩) ∈ TBL := tb0 81 rfl rfl
set_option maxRecDepth 20000 in
theorem LK_96 : (Cond.initialized "java/lang/Math") ∈ TBL := tb0 7 rfl rfl
set_option maxRecDepth 20000 in
theorem LK_code_Ma_min : Cond.code y_Ma_min b_Ma_min 2 (some .int) ∈ TBL := tb0 82 rfl rfl
set_option maxRecDepth 20000 in
theorem LK_98 : (Cond.methodLink "PartitionedProcedureStore" 61 ⟨"java/lang/Math", "max", "(II)I"⟩) ∈ TBL := tb0 83 rfl rfl
set_option maxRecDepth 20000 in
theorem LK_99 : (Cond.static ⟨"java/lang/Math", "max", "(II)I"⟩) ∈ TBL := tb0 84 rfl rfl
set_option maxRecDepth 20000 in
theorem LK_code_Ma_max : Cond.code y_Ma_max b_Ma_max 2 (some .int) ∈ TBL := tb0 85 rfl rfl
set_option maxRecDepth 20000 in
theorem LK_101 : (Cond.classLink "PartitionedProcedureStore" 67 "PartitionedProcedureStore$Runner") ∈ TBL := tb0 86 rfl rfl
set_option maxRecDepth 20000 in
theorem LK_102 : (Cond.instantiable "PartitionedProcedureStore$Runner" 8) ∈ TBL := tb0 87 rfl rfl
set_option maxRecDepth 20000 in
theorem LK_103 : (Cond.initialized "PartitionedProcedureStore$Runner") ∈ TBL := tb0 8 rfl rfl
set_option maxRecDepth 20000 in
theorem LK_code_R_init : Cond.code y_R_init b_R_init 2 none ∈ TBL := tb0 90 rfl rfl
set_option maxRecDepth 20000 in
theorem LK_105 : (Cond.methodLink "PartitionedProcedureStore" 69 ⟨"PartitionedProcedureStore$Runner", "<init>", "(I)V"⟩) ∈ TBL := tb0 88 rfl rfl
set_option maxRecDepth 20000 in
theorem LK_106 : (Cond.instanceMethod ⟨"PartitionedProcedureStore$Runner", "<init>", "(I)V"⟩) ∈ TBL := tb0 89 rfl rfl
set_option maxRecDepth 20000 in
theorem LK_107 : (Cond.fieldLink "PartitionedProcedureStore" 72 "PartitionedProcedureStore" "runner" "LPartitionedProcedureStore$Runner;") ∈ TBL := tb0 205 rfl rfl
set_option maxRecDepth 20000 in
theorem LK_108 : (Cond.instantiable "PartitionedProcedureStore$Procedure" 3) ∈ TBL := tb0 123 rfl rfl
set_option maxRecDepth 20000 in
theorem LK_109 : (Cond.initialized "PartitionedProcedureStore$Procedure") ∈ TBL := tb0 9 rfl rfl
set_option maxRecDepth 20000 in
theorem LK_code_P_init : Cond.code y_P_init b_P_init 1 none ∈ TBL := tb0 126 rfl rfl
set_option maxRecDepth 20000 in
theorem NW_111 : (Cond.methodLinkNest "PartitionedProcedureStore" 76 ⟨"PartitionedProcedureStore$Procedure", "<init>", "()V"⟩ "PartitionedProcedureStore") ∈ nestW := by decide +kernel
set_option maxRecDepth 20000 in
theorem LK_112 : (Cond.instanceMethod ⟨"PartitionedProcedureStore$Procedure", "<init>", "()V"⟩) ∈ TBL := tb0 125 rfl rfl
set_option maxRecDepth 20000 in
theorem LK_113 : (Cond.fieldLink "java/util/ArrayList" 63 "java/util/ArrayList" "modCount" "I") ∈ TBL := tb0 48 rfl rfl
set_option maxRecDepth 20000 in
theorem LK_114 : (Cond.sameField "java/util/ArrayList" "java/util/AbstractList" "modCount" "I") ∈ TBL := tb0 49 rfl rfl
set_option maxRecDepth 20000 in
theorem LK_115 : (Cond.fieldLink "java/util/ArrayList" 48 "java/util/ArrayList" "size" "I") ∈ TBL := tb0 46 rfl rfl
set_option maxRecDepth 20000 in
theorem LK_116 : (Cond.methodLink "PartitionedProcedureStore$Procedure" 25 ⟨"java/util/ArrayList", "clear", "()V"⟩) ∈ TBL := tb1 10 rfl rfl
set_option maxRecDepth 20000 in
theorem LK_117 : (Cond.instanceMethod ⟨"java/util/ArrayList", "clear", "()V"⟩) ∈ TBL := tb1 11 rfl rfl
set_option maxRecDepth 20000 in
theorem LK_118 : (Cond.selects "java/util/ArrayList" ⟨"java/util/ArrayList", "clear", "()V"⟩ ⟨"java/util/ArrayList", "clear", "()V"⟩) ∈ TBL := tb1 12 rfl rfl
set_option maxRecDepth 20000 in
theorem LK_code_A_clear : Cond.code y_A_clear b_A_clear 4 none ∈ TBL := tb1 13 rfl rfl
set_option maxRecDepth 20000 in
theorem LK_120 : (Cond.methodLink "PartitionedProcedureStore" 85 ⟨"PartitionedProcedureStore", "isWithin", "(II)Z"⟩) ∈ TBL := tb1 3 rfl rfl
set_option maxRecDepth 20000 in
theorem LK_121 : (Cond.static ⟨"PartitionedProcedureStore", "isWithin", "(II)Z"⟩) ∈ TBL := tb1 4 rfl rfl
set_option maxRecDepth 20000 in
theorem LK_122 : (Cond.initialized "PartitionedProcedureStore") ∈ TBL := tb0 1 rfl rfl
set_option maxRecDepth 20000 in
theorem LK_code_S_isWithin : Cond.code y_S_isWithin b_S_isWithin 2 (some .boolean) ∈ TBL := tb1 5 rfl rfl
set_option maxRecDepth 20000 in
theorem LK_124 : (Cond.fieldLink "PartitionedProcedureStore" 89 "PartitionedProcedureStore$Procedure" "deployed" "Z") ∈ TBL := tb0 137 rfl rfl
set_option maxRecDepth 20000 in
theorem LK_125 : (Cond.methodLink "PartitionedProcedureStore" 93 ⟨"PartitionedProcedureStore$Procedure", "restart", "(Z)V"⟩) ∈ TBL := tb1 6 rfl rfl
set_option maxRecDepth 20000 in
theorem LK_126 : (Cond.instanceMethod ⟨"PartitionedProcedureStore$Procedure", "restart", "(Z)V"⟩) ∈ TBL := tb1 7 rfl rfl
set_option maxRecDepth 20000 in
theorem LK_127 : (Cond.selects "PartitionedProcedureStore$Procedure" ⟨"PartitionedProcedureStore$Procedure", "restart", "(Z)V"⟩ ⟨"PartitionedProcedureStore$Procedure", "restart", "(Z)V"⟩) ∈ TBL := tb1 8 rfl rfl
set_option maxRecDepth 20000 in
theorem LK_code_P_restart : Cond.code y_P_restart b_P_restart 2 none ∈ TBL := tb1 9 rfl rfl
set_option maxRecDepth 20000 in
theorem LK_129 : (Cond.methodLink "PartitionedProcedureStore$Statement" 1 ⟨"java/lang/Object", "<init>", "()V"⟩) ∈ TBL := tb1 30 rfl rfl
set_option maxRecDepth 20000 in
theorem LK_130 : (Cond.fieldLink "PartitionedProcedureStore$Statement" 7 "PartitionedProcedureStore$Statement" "op" "I") ∈ TBL := tb1 31 rfl rfl
set_option maxRecDepth 20000 in
theorem LK_131 : (Cond.fieldLink "PartitionedProcedureStore$Statement" 13 "PartitionedProcedureStore$Statement" "x" "I") ∈ TBL := tb1 34 rfl rfl
set_option maxRecDepth 20000 in
theorem LK_132 : (Cond.fieldLink "PartitionedProcedureStore$Statement" 16 "PartitionedProcedureStore$Statement" "y" "I") ∈ TBL := tb1 36 rfl rfl
set_option maxRecDepth 20000 in
theorem LK_133 : (Cond.fieldLink "PartitionedProcedureStore$Statement" 19 "PartitionedProcedureStore$Statement" "z" "I") ∈ TBL := tb1 39 rfl rfl
set_option maxRecDepth 20000 in
theorem LK_134 : (Cond.methodLink "jdk/internal/util/ArraysSupport" 194 ⟨"java/lang/Math", "max", "(II)I"⟩) ∈ TBL := tb1 69 rfl rfl
set_option maxRecDepth 20000 in
theorem LK_135 : (Cond.constant "jdk/internal/util/ArraysSupport" 200 (2147483639 : Int32)) ∈ TBL := tb1 70 rfl rfl
set_option maxRecDepth 20000 in
theorem LK_136 : (Cond.methodLink "java/util/Arrays" 304 ⟨"java/lang/Math", "min", "(II)I"⟩) ∈ TBL := tb1 97 rfl rfl
set_option maxRecDepth 20000 in
theorem LK_137 : (Cond.methodLink "java/util/Arrays" 150 ⟨"java/lang/System", "arraycopy", "(Ljava/lang/Object;ILjava/lang/Object;II)V"⟩) ∈ TBL := tb1 98 rfl rfl
set_option maxRecDepth 20000 in
theorem LK_138 : (Cond.native ⟨"java/lang/System", "arraycopy", "(Ljava/lang/Object;ILjava/lang/Object;II)V"⟩) ∈ TBL := tb1 100 rfl rfl
set_option maxRecDepth 20000 in
theorem LK_139 : (Cond.static ⟨"java/lang/System", "arraycopy", "(Ljava/lang/Object;ILjava/lang/Object;II)V"⟩) ∈ TBL := tb1 99 rfl rfl
set_option maxRecDepth 20000 in
theorem LK_140 : (Cond.initialized "java/lang/System") ∈ TBL := tb0 15 rfl rfl
set_option maxRecDepth 20000 in
theorem LK_141 : (Cond.classLink "java/util/Arrays" 110 "[Ljava/lang/Object;") ∈ TBL := tb1 94 rfl rfl
set_option maxRecDepth 20000 in
theorem LK_142 : (Cond.classLink "java/util/Arrays" 2 "java/lang/Object") ∈ TBL := tb1 96 rfl rfl
set_option maxRecDepth 20000 in
theorem LK_143 : (Cond.methodLink "java/util/Arrays" 86 ⟨"java/lang/Object", "getClass", "()Ljava/lang/Class;"⟩) ∈ TBL := tb1 77 rfl rfl
set_option maxRecDepth 20000 in
theorem LK_144 : (Cond.selects "[Ljava/lang/Object;" ⟨"java/lang/Object", "getClass", "()Ljava/lang/Class;"⟩ ⟨"java/lang/Object", "getClass", "()Ljava/lang/Class;"⟩) ∈ TBL := tb3 141 rfl rfl
set_option maxRecDepth 20000 in
theorem LK_145 : (Cond.instanceMethod ⟨"java/lang/Object", "getClass", "()Ljava/lang/Class;"⟩) ∈ TBL := tb1 78 rfl rfl
set_option maxRecDepth 20000 in
theorem LK_146 : (Cond.native ⟨"java/lang/Object", "getClass", "()Ljava/lang/Class;"⟩) ∈ TBL := tb1 90 rfl rfl
set_option maxRecDepth 20000 in
theorem LK_147 : (Cond.methodLink "java/util/Arrays" 300 ⟨"java/util/Arrays", "copyOf", "([Ljava/lang/Object;ILjava/lang/Class;)[Ljava/lang/Object;"⟩) ∈ TBL := tb1 91 rfl rfl
set_option maxRecDepth 20000 in
theorem LK_148 : (Cond.static ⟨"java/util/Arrays", "copyOf", "([Ljava/lang/Object;ILjava/lang/Class;)[Ljava/lang/Object;"⟩) ∈ TBL := tb1 92 rfl rfl
set_option maxRecDepth 20000 in
theorem LK_code_Ar_copyOf1 : Cond.code y_Ar_copyOf1 b_Ar_copyOf1 4 (some (.array (.object "java/lang/Object"))) ∈ TBL := tb1 93 rfl rfl
set_option maxRecDepth 20000 in
theorem LK_150 : (Cond.methodLink "java/util/ArrayList" 73 ⟨"jdk/internal/util/ArraysSupport", "newLength", "(III)I"⟩) ∈ TBL := tb1 66 rfl rfl
set_option maxRecDepth 20000 in
theorem LK_151 : (Cond.static ⟨"jdk/internal/util/ArraysSupport", "newLength", "(III)I"⟩) ∈ TBL := tb1 67 rfl rfl
set_option maxRecDepth 20000 in
theorem LK_152 : (Cond.initialized "jdk/internal/util/ArraysSupport") ∈ TBL := tb0 14 rfl rfl
set_option maxRecDepth 20000 in
theorem LK_code_As_newLength : Cond.code y_As_newLength b_As_newLength 4 (some .int) ∈ TBL := tb1 68 rfl rfl
set_option maxRecDepth 20000 in
theorem LK_154 : (Cond.methodLink "java/util/ArrayList" 66 ⟨"java/util/Arrays", "copyOf", "([Ljava/lang/Object;I)[Ljava/lang/Object;"⟩) ∈ TBL := tb1 74 rfl rfl
set_option maxRecDepth 20000 in
theorem LK_155 : (Cond.static ⟨"java/util/Arrays", "copyOf", "([Ljava/lang/Object;I)[Ljava/lang/Object;"⟩) ∈ TBL := tb1 75 rfl rfl
set_option maxRecDepth 20000 in
theorem LK_code_Ar_copyOf0 : Cond.code y_Ar_copyOf0 b_Ar_copyOf0 2 (some (.array (.object "java/lang/Object"))) ∈ TBL := tb1 76 rfl rfl
set_option maxRecDepth 20000 in
theorem LK_157 : (Cond.methodLink "java/util/ArrayList" 79 ⟨"java/lang/Math", "max", "(II)I"⟩) ∈ TBL := tb1 101 rfl rfl
set_option maxRecDepth 20000 in
theorem LK_158 : (Cond.classLink "java/util/ArrayList" 7 "java/lang/Object") ∈ TBL := tb1 102 rfl rfl
set_option maxRecDepth 20000 in
theorem LK_159 : (Cond.methodLink "java/util/ArrayList" 69 ⟨"java/util/ArrayList", "grow", "(I)[Ljava/lang/Object;"⟩) ∈ TBL := tb1 62 rfl rfl
set_option maxRecDepth 20000 in
theorem LK_160 : (Cond.instanceMethod ⟨"java/util/ArrayList", "grow", "(I)[Ljava/lang/Object;"⟩) ∈ TBL := tb1 64 rfl rfl
set_option maxRecDepth 20000 in
theorem LK_161 : (Cond.selects "java/util/ArrayList" ⟨"java/util/ArrayList", "grow", "(I)[Ljava/lang/Object;"⟩ ⟨"java/util/ArrayList", "grow", "(I)[Ljava/lang/Object;"⟩) ∈ TBL := tbS 2 rfl rfl
set_option maxRecDepth 20000 in
theorem LK_code_A_grow1 : Cond.code y_A_grow1 b_A_grow1 4 (some (.array (.object "java/lang/Object"))) ∈ TBL := tb1 65 rfl rfl
set_option maxRecDepth 20000 in
theorem LK_163 : (Cond.methodLink "java/util/ArrayList" 129 ⟨"java/util/ArrayList", "grow", "()[Ljava/lang/Object;"⟩) ∈ TBL := tb1 58 rfl rfl
set_option maxRecDepth 20000 in
theorem LK_164 : (Cond.instanceMethod ⟨"java/util/ArrayList", "grow", "()[Ljava/lang/Object;"⟩) ∈ TBL := tb1 60 rfl rfl
set_option maxRecDepth 20000 in
theorem LK_165 : (Cond.selects "java/util/ArrayList" ⟨"java/util/ArrayList", "grow", "()[Ljava/lang/Object;"⟩ ⟨"java/util/ArrayList", "grow", "()[Ljava/lang/Object;"⟩) ∈ TBL := tbS 1 rfl rfl
set_option maxRecDepth 20000 in
theorem LK_code_A_grow0 : Cond.code y_A_grow0 b_A_grow0 1 (some (.array (.object "java/lang/Object"))) ∈ TBL := tb1 61 rfl rfl
set_option maxRecDepth 20000 in
theorem LK_167 : (Cond.methodLink "java/util/ArrayList" 131 ⟨"java/util/ArrayList", "add", "(Ljava/lang/Object;[Ljava/lang/Object;I)V"⟩) ∈ TBL := tb1 54 rfl rfl
set_option maxRecDepth 20000 in
theorem LK_168 : (Cond.instanceMethod ⟨"java/util/ArrayList", "add", "(Ljava/lang/Object;[Ljava/lang/Object;I)V"⟩) ∈ TBL := tb1 56 rfl rfl
set_option maxRecDepth 20000 in
theorem LK_169 : (Cond.selects "java/util/ArrayList" ⟨"java/util/ArrayList", "add", "(Ljava/lang/Object;[Ljava/lang/Object;I)V"⟩ ⟨"java/util/ArrayList", "add", "(Ljava/lang/Object;[Ljava/lang/Object;I)V"⟩) ∈ TBL := tbS 0 rfl rfl
set_option maxRecDepth 20000 in
theorem LK_code_A_add1 : Cond.code y_A_add1 b_A_add1 4 none ∈ TBL := tb1 57 rfl rfl
set_option maxRecDepth 20000 in
theorem LK_171 : (Cond.methodLink "PartitionedProcedureStore" 97 ⟨"PartitionedProcedureStore", "isStatement", "(IIII)Z"⟩) ∈ TBL := tb1 18 rfl rfl
set_option maxRecDepth 20000 in
theorem LK_172 : (Cond.static ⟨"PartitionedProcedureStore", "isStatement", "(IIII)Z"⟩) ∈ TBL := tb1 19 rfl rfl
set_option maxRecDepth 20000 in
theorem LK_code_S_isStatement : Cond.code y_S_isStatement b_S_isStatement 4 (some .boolean) ∈ TBL := tb1 20 rfl rfl
set_option maxRecDepth 20000 in
theorem LK_174 : (Cond.fieldLink "PartitionedProcedureStore" 101 "PartitionedProcedureStore$Procedure" "statements" "Ljava/util/ArrayList;") ∈ TBL := tb0 132 rfl rfl
set_option maxRecDepth 20000 in
theorem LK_175 : (Cond.methodLink "PartitionedProcedureStore" 104 ⟨"java/util/ArrayList", "size", "()I"⟩) ∈ TBL := tb1 21 rfl rfl
set_option maxRecDepth 20000 in
theorem LK_176 : (Cond.instanceMethod ⟨"java/util/ArrayList", "size", "()I"⟩) ∈ TBL := tb1 22 rfl rfl
set_option maxRecDepth 20000 in
theorem LK_177 : (Cond.selects "java/util/ArrayList" ⟨"java/util/ArrayList", "size", "()I"⟩ ⟨"java/util/ArrayList", "size", "()I"⟩) ∈ TBL := tb1 23 rfl rfl
set_option maxRecDepth 20000 in
theorem LK_code_A_size : Cond.code y_A_size b_A_size 1 (some .int) ∈ TBL := tb1 24 rfl rfl
set_option maxRecDepth 20000 in
theorem LK_179 : (Cond.classLink "PartitionedProcedureStore" 108 "PartitionedProcedureStore$Statement") ∈ TBL := tb1 25 rfl rfl
set_option maxRecDepth 20000 in
theorem LK_180 : (Cond.instantiable "PartitionedProcedureStore$Statement" 4) ∈ TBL := tb1 26 rfl rfl
set_option maxRecDepth 20000 in
theorem LK_181 : (Cond.initialized "PartitionedProcedureStore$Statement") ∈ TBL := tb0 13 rfl rfl
set_option maxRecDepth 20000 in
theorem LK_code_T_init : Cond.code y_T_init b_T_init 5 none ∈ TBL := tb1 29 rfl rfl
set_option maxRecDepth 20000 in
theorem LK_183 : (Cond.methodLink "PartitionedProcedureStore" 110 ⟨"PartitionedProcedureStore$Statement", "<init>", "(IIII)V"⟩) ∈ TBL := tb1 27 rfl rfl
set_option maxRecDepth 20000 in
theorem LK_184 : (Cond.instanceMethod ⟨"PartitionedProcedureStore$Statement", "<init>", "(IIII)V"⟩) ∈ TBL := tb1 28 rfl rfl
set_option maxRecDepth 20000 in
theorem LK_185 : (Cond.methodLink "PartitionedProcedureStore" 113 ⟨"java/util/ArrayList", "add", "(Ljava/lang/Object;)Z"⟩) ∈ TBL := tb1 50 rfl rfl
set_option maxRecDepth 20000 in
theorem LK_186 : (Cond.instanceMethod ⟨"java/util/ArrayList", "add", "(Ljava/lang/Object;)Z"⟩) ∈ TBL := tb1 51 rfl rfl
set_option maxRecDepth 20000 in
theorem LK_187 : (Cond.selects "java/util/ArrayList" ⟨"java/util/ArrayList", "add", "(Ljava/lang/Object;)Z"⟩ ⟨"java/util/ArrayList", "add", "(Ljava/lang/Object;)Z"⟩) ∈ TBL := tb1 52 rfl rfl
set_option maxRecDepth 20000 in
theorem LK_code_A_add0 : Cond.code y_A_add0 b_A_add0 2 (some .boolean) ∈ TBL := tb1 53 rfl rfl
set_option maxRecDepth 20000 in
theorem LK_189 : (Cond.methodLink "java/util/Objects" 105 ⟨"jdk/internal/util/Preconditions", "checkIndex", "(IILjava/util/function/BiFunction;)I"⟩) ∈ TBL := tb1 119 rfl rfl
set_option maxRecDepth 20000 in
theorem LK_190 : (Cond.static ⟨"jdk/internal/util/Preconditions", "checkIndex", "(IILjava/util/function/BiFunction;)I"⟩) ∈ TBL := tb1 120 rfl rfl
set_option maxRecDepth 20000 in
theorem LK_191 : (Cond.initialized "jdk/internal/util/Preconditions") ∈ TBL := tb0 17 rfl rfl
set_option maxRecDepth 20000 in
theorem LK_code_Pc_checkIndex : Cond.code y_Pc_checkIndex b_Pc_checkIndex 3 (some .int) ∈ TBL := tb1 121 rfl rfl
set_option maxRecDepth 20000 in
theorem LK_193 : (Cond.methodLink "java/util/ArrayList" 118 ⟨"java/util/Objects", "checkIndex", "(II)I"⟩) ∈ TBL := tb1 116 rfl rfl
set_option maxRecDepth 20000 in
theorem LK_194 : (Cond.static ⟨"java/util/Objects", "checkIndex", "(II)I"⟩) ∈ TBL := tb1 117 rfl rfl
set_option maxRecDepth 20000 in
theorem LK_195 : (Cond.initialized "java/util/Objects") ∈ TBL := tb0 16 rfl rfl
set_option maxRecDepth 20000 in
theorem LK_code_Oj_checkIndex : Cond.code y_Oj_checkIndex b_Oj_checkIndex 2 (some .int) ∈ TBL := tb1 118 rfl rfl
set_option maxRecDepth 20000 in
theorem LK_197 : (Cond.methodLink "java/util/ArrayList" 123 ⟨"java/util/ArrayList", "elementData", "(I)Ljava/lang/Object;"⟩) ∈ TBL := tb1 122 rfl rfl
set_option maxRecDepth 20000 in
theorem LK_198 : (Cond.instanceMethod ⟨"java/util/ArrayList", "elementData", "(I)Ljava/lang/Object;"⟩) ∈ TBL := tb1 123 rfl rfl
set_option maxRecDepth 20000 in
theorem LK_199 : (Cond.selects "java/util/ArrayList" ⟨"java/util/ArrayList", "elementData", "(I)Ljava/lang/Object;"⟩ ⟨"java/util/ArrayList", "elementData", "(I)Ljava/lang/Object;"⟩) ∈ TBL := tb1 124 rfl rfl
set_option maxRecDepth 20000 in
theorem LK_code_A_elementData : Cond.code y_A_elementData b_A_elementData 2 (some (.object "java/lang/Object")) ∈ TBL := tb1 125 rfl rfl
set_option maxRecDepth 20000 in
theorem LK_201 : (Cond.fieldLink "PartitionedProcedureStore$Procedure" 38 "PartitionedProcedureStore$Statement" "op" "I") ∈ TBL := tb1 32 rfl rfl
set_option maxRecDepth 20000 in
theorem LK_202 : (Cond.methodLink "PartitionedProcedureStore$Procedure" 32 ⟨"java/util/ArrayList", "get", "(I)Ljava/lang/Object;"⟩) ∈ TBL := tb1 112 rfl rfl
set_option maxRecDepth 20000 in
theorem LK_203 : (Cond.instanceMethod ⟨"java/util/ArrayList", "get", "(I)Ljava/lang/Object;"⟩) ∈ TBL := tb1 113 rfl rfl
set_option maxRecDepth 20000 in
theorem LK_204 : (Cond.selects "java/util/ArrayList" ⟨"java/util/ArrayList", "get", "(I)Ljava/lang/Object;"⟩ ⟨"java/util/ArrayList", "get", "(I)Ljava/lang/Object;"⟩) ∈ TBL := tb1 114 rfl rfl
set_option maxRecDepth 20000 in
theorem LK_code_A_get : Cond.code y_A_get b_A_get 2 (some (.object "java/lang/Object")) ∈ TBL := tb1 115 rfl rfl
set_option maxRecDepth 20000 in
theorem LK_206 : (Cond.classLink "PartitionedProcedureStore$Procedure" 36 "PartitionedProcedureStore$Statement") ∈ TBL := tb1 126 rfl rfl
set_option maxRecDepth 20000 in
theorem LK_207 : (Cond.fieldLink "PartitionedProcedureStore$Procedure" 42 "PartitionedProcedureStore$Statement" "y" "I") ∈ TBL := tb1 37 rfl rfl
set_option maxRecDepth 20000 in
theorem LK_208 : (Cond.methodLink "PartitionedProcedureStore$Procedure" 28 ⟨"java/util/ArrayList", "size", "()I"⟩) ∈ TBL := tb1 111 rfl rfl
set_option maxRecDepth 20000 in
theorem LK_209 : (Cond.methodLink "PartitionedProcedureStore" 117 ⟨"PartitionedProcedureStore$Procedure", "isSound", "()Z"⟩) ∈ TBL := tb1 107 rfl rfl
set_option maxRecDepth 20000 in
theorem LK_210 : (Cond.instanceMethod ⟨"PartitionedProcedureStore$Procedure", "isSound", "()Z"⟩) ∈ TBL := tb1 108 rfl rfl
set_option maxRecDepth 20000 in
theorem LK_211 : (Cond.selects "PartitionedProcedureStore$Procedure" ⟨"PartitionedProcedureStore$Procedure", "isSound", "()Z"⟩ ⟨"PartitionedProcedureStore$Procedure", "isSound", "()Z"⟩) ∈ TBL := tb1 109 rfl rfl
set_option maxRecDepth 20000 in
theorem LK_code_P_isSound : Cond.code y_P_isSound b_P_isSound 4 (some .boolean) ∈ TBL := tb1 110 rfl rfl
set_option maxRecDepth 20000 in
theorem LK_213 : (Cond.methodLink "PartitionedProcedureStore$Task" 1 ⟨"java/lang/Object", "<init>", "()V"⟩) ∈ TBL := tb1 136 rfl rfl
set_option maxRecDepth 20000 in
theorem LK_214 : (Cond.fieldLink "PartitionedProcedureStore$Task" 7 "PartitionedProcedureStore$Task" "number" "I") ∈ TBL := tb1 137 rfl rfl
set_option maxRecDepth 20000 in
theorem LK_215 : (Cond.fieldLink "PartitionedProcedureStore$Task" 13 "PartitionedProcedureStore$Task" "client" "I") ∈ TBL := tb1 139 rfl rfl
set_option maxRecDepth 20000 in
theorem LK_216 : (Cond.fieldLink "PartitionedProcedureStore$Task" 16 "PartitionedProcedureStore$Task" "procedure" "LPartitionedProcedureStore$Procedure;") ∈ TBL := tb1 141 rfl rfl
set_option maxRecDepth 20000 in
theorem LK_217 : (Cond.fieldLink "PartitionedProcedureStore$Task" 20 "PartitionedProcedureStore$Task" "a" "I") ∈ TBL := tb1 144 rfl rfl
set_option maxRecDepth 20000 in
theorem LK_218 : (Cond.fieldLink "PartitionedProcedureStore$Task" 23 "PartitionedProcedureStore$Task" "b" "I") ∈ TBL := tb1 146 rfl rfl
set_option maxRecDepth 20000 in
theorem LK_219 : (Cond.fieldLink "PartitionedProcedureStore$Task" 26 "PartitionedProcedureStore$Task" "c" "I") ∈ TBL := tb1 148 rfl rfl
set_option maxRecDepth 20000 in
theorem LK_220 : (Cond.fieldLink "PartitionedProcedureStore" 146 "PartitionedProcedureStore$Site" "queue" "Ljava/util/ArrayList;") ∈ TBL := tb0 183 rfl rfl
set_option maxRecDepth 20000 in
theorem LK_221 : (Cond.methodLink "PartitionedProcedureStore$Task" 29 ⟨"java/lang/Math", "floorMod", "(II)I"⟩) ∈ TBL := tb1 175 rfl rfl
set_option maxRecDepth 20000 in
theorem LK_222 : (Cond.static ⟨"java/lang/Math", "floorMod", "(II)I"⟩) ∈ TBL := tb1 176 rfl rfl
set_option maxRecDepth 20000 in
theorem LK_code_Ma_floorMod : Cond.code y_Ma_floorMod b_Ma_floorMod 3 (some .int) ∈ TBL := tb1 177 rfl rfl
set_option maxRecDepth 20000 in
theorem LK_224 : (Cond.fieldLink "PartitionedProcedureStore" 121 "PartitionedProcedureStore$Client" "state" "I") ∈ TBL := tb0 151 rfl rfl
set_option maxRecDepth 20000 in
theorem LK_225 : (Cond.classLink "PartitionedProcedureStore" 124 "PartitionedProcedureStore$Task") ∈ TBL := tb1 131 rfl rfl
set_option maxRecDepth 20000 in
theorem LK_226 : (Cond.instantiable "PartitionedProcedureStore$Task" 6) ∈ TBL := tb1 132 rfl rfl
set_option maxRecDepth 20000 in
theorem LK_227 : (Cond.initialized "PartitionedProcedureStore$Task") ∈ TBL := tb0 18 rfl rfl
set_option maxRecDepth 20000 in
theorem LK_code_K_init : Cond.code y_K_init b_K_init 7 none ∈ TBL := tb1 135 rfl rfl
set_option maxRecDepth 20000 in
theorem LK_229 : (Cond.methodLink "PartitionedProcedureStore" 126 ⟨"PartitionedProcedureStore$Task", "<init>", "(IILPartitionedProcedureStore$Procedure;III)V"⟩) ∈ TBL := tb1 133 rfl rfl
set_option maxRecDepth 20000 in
theorem LK_230 : (Cond.instanceMethod ⟨"PartitionedProcedureStore$Task", "<init>", "(IILPartitionedProcedureStore$Procedure;III)V"⟩) ∈ TBL := tb1 134 rfl rfl
set_option maxRecDepth 20000 in
theorem LK_231 : (Cond.methodLink "PartitionedProcedureStore" 129 ⟨"PartitionedProcedureStore$Client", "begin", "(I)V"⟩) ∈ TBL := tb1 163 rfl rfl
set_option maxRecDepth 20000 in
theorem LK_232 : (Cond.instanceMethod ⟨"PartitionedProcedureStore$Client", "begin", "(I)V"⟩) ∈ TBL := tb1 164 rfl rfl
set_option maxRecDepth 20000 in
theorem LK_233 : (Cond.selects "PartitionedProcedureStore$Client" ⟨"PartitionedProcedureStore$Client", "begin", "(I)V"⟩ ⟨"PartitionedProcedureStore$Client", "begin", "(I)V"⟩) ∈ TBL := tb1 165 rfl rfl
set_option maxRecDepth 20000 in
theorem LK_code_C_begin : Cond.code y_C_begin b_C_begin 2 none ∈ TBL := tb1 166 rfl rfl
set_option maxRecDepth 20000 in
theorem LK_235 : (Cond.fieldLink "PartitionedProcedureStore" 132 "PartitionedProcedureStore$Task" "procedure" "LPartitionedProcedureStore$Procedure;") ∈ TBL := tb1 143 rfl rfl
set_option maxRecDepth 20000 in
theorem LK_236 : (Cond.fieldLink "PartitionedProcedureStore" 135 "PartitionedProcedureStore$Procedure" "multi" "Z") ∈ TBL := tb0 135 rfl rfl
set_option maxRecDepth 20000 in
theorem LK_237 : (Cond.methodLink "PartitionedProcedureStore" 142 ⟨"PartitionedProcedureStore$Task", "home", "(I)I"⟩) ∈ TBL := tb1 171 rfl rfl
set_option maxRecDepth 20000 in
theorem LK_238 : (Cond.instanceMethod ⟨"PartitionedProcedureStore$Task", "home", "(I)I"⟩) ∈ TBL := tb1 172 rfl rfl
set_option maxRecDepth 20000 in
theorem LK_239 : (Cond.selects "PartitionedProcedureStore$Task" ⟨"PartitionedProcedureStore$Task", "home", "(I)I"⟩ ⟨"PartitionedProcedureStore$Task", "home", "(I)I"⟩) ∈ TBL := tb1 173 rfl rfl
set_option maxRecDepth 20000 in
theorem LK_code_K_home : Cond.code y_K_home b_K_home 2 (some .int) ∈ TBL := tb1 174 rfl rfl
set_option maxRecDepth 20000 in
theorem LK_241 : (Cond.methodLink "PartitionedProcedureStore" 138 ⟨"PartitionedProcedureStore", "waitAtAllSites", "(LPartitionedProcedureStore$Task;)V"⟩) ∈ TBL := tb1 167 rfl rfl
set_option maxRecDepth 20000 in
theorem LK_242 : (Cond.instanceMethod ⟨"PartitionedProcedureStore", "waitAtAllSites", "(LPartitionedProcedureStore$Task;)V"⟩) ∈ TBL := tb1 169 rfl rfl
set_option maxRecDepth 20000 in
theorem LK_243 : (Cond.selects "PartitionedProcedureStore" ⟨"PartitionedProcedureStore", "waitAtAllSites", "(LPartitionedProcedureStore$Task;)V"⟩ ⟨"PartitionedProcedureStore", "waitAtAllSites", "(LPartitionedProcedureStore$Task;)V"⟩) ∈ TBL := tbS 3 rfl rfl
set_option maxRecDepth 20000 in
theorem LK_code_S_waitAtAllSites : Cond.code y_S_waitAtAllSites b_S_waitAtAllSites 6 none ∈ TBL := tb1 170 rfl rfl
set_option maxRecDepth 20000 in
theorem LK_245 : (Cond.methodLink "PartitionedProcedureStore$Site" 27 ⟨"java/util/ArrayList", "isEmpty", "()Z"⟩) ∈ TBL := tb1 186 rfl rfl
set_option maxRecDepth 20000 in
theorem LK_246 : (Cond.instanceMethod ⟨"java/util/ArrayList", "isEmpty", "()Z"⟩) ∈ TBL := tb1 187 rfl rfl
set_option maxRecDepth 20000 in
theorem LK_247 : (Cond.selects "java/util/ArrayList" ⟨"java/util/ArrayList", "isEmpty", "()Z"⟩ ⟨"java/util/ArrayList", "isEmpty", "()Z"⟩) ∈ TBL := tb1 188 rfl rfl
set_option maxRecDepth 20000 in
theorem LK_code_A_isEmpty : Cond.code y_A_isEmpty b_A_isEmpty 1 (some .boolean) ∈ TBL := tb1 189 rfl rfl
set_option maxRecDepth 20000 in
theorem LK_249 : (Cond.methodLink "PartitionedProcedureStore$Site" 31 ⟨"java/util/ArrayList", "get", "(I)Ljava/lang/Object;"⟩) ∈ TBL := tb1 190 rfl rfl
set_option maxRecDepth 20000 in
theorem LK_250 : (Cond.classLink "PartitionedProcedureStore$Site" 35 "PartitionedProcedureStore$Task") ∈ TBL := tb1 191 rfl rfl
set_option maxRecDepth 20000 in
theorem LK_251 : (Cond.methodLink "java/util/ArrayList" 112 ⟨"java/lang/System", "arraycopy", "(Ljava/lang/Object;ILjava/lang/Object;II)V"⟩) ∈ TBL := tb1 208 rfl rfl
set_option maxRecDepth 20000 in
theorem LK_252 : (Cond.methodLink "java/util/ArrayList" 144 ⟨"java/util/ArrayList", "fastRemove", "([Ljava/lang/Object;I)V"⟩) ∈ TBL := tb1 204 rfl rfl
set_option maxRecDepth 20000 in
theorem LK_253 : (Cond.instanceMethod ⟨"java/util/ArrayList", "fastRemove", "([Ljava/lang/Object;I)V"⟩) ∈ TBL := tb1 206 rfl rfl
set_option maxRecDepth 20000 in
theorem LK_254 : (Cond.selects "java/util/ArrayList" ⟨"java/util/ArrayList", "fastRemove", "([Ljava/lang/Object;I)V"⟩ ⟨"java/util/ArrayList", "fastRemove", "([Ljava/lang/Object;I)V"⟩) ∈ TBL := tbS 5 rfl rfl
set_option maxRecDepth 20000 in
theorem LK_code_A_fastRemove : Cond.code y_A_fastRemove b_A_fastRemove 4 none ∈ TBL := tb1 207 rfl rfl
set_option maxRecDepth 20000 in
theorem LK_256 : (Cond.methodLink "PartitionedProcedureStore$Site" 37 ⟨"java/util/ArrayList", "remove", "(I)Ljava/lang/Object;"⟩) ∈ TBL := tb1 200 rfl rfl
set_option maxRecDepth 20000 in
theorem LK_257 : (Cond.instanceMethod ⟨"java/util/ArrayList", "remove", "(I)Ljava/lang/Object;"⟩) ∈ TBL := tb1 201 rfl rfl
set_option maxRecDepth 20000 in
theorem LK_258 : (Cond.selects "java/util/ArrayList" ⟨"java/util/ArrayList", "remove", "(I)Ljava/lang/Object;"⟩ ⟨"java/util/ArrayList", "remove", "(I)Ljava/lang/Object;"⟩) ∈ TBL := tb1 202 rfl rfl
set_option maxRecDepth 20000 in
theorem LK_code_A_remove : Cond.code y_A_remove b_A_remove 4 (some (.object "java/lang/Object")) ∈ TBL := tb1 203 rfl rfl
set_option maxRecDepth 20000 in
theorem LK_260 : (Cond.methodLink "PartitionedProcedureStore$Table" 27 ⟨"java/lang/System", "arraycopy", "(Ljava/lang/Object;ILjava/lang/Object;II)V"⟩) ∈ TBL := tb1 217 rfl rfl
set_option maxRecDepth 20000 in
theorem LK_261 : (Cond.methodLink "PartitionedProcedureStore$Table" 33 ⟨"PartitionedProcedureStore$Table", "copyCells", "(LPartitionedProcedureStore$Table;)V"⟩) ∈ TBL := tb1 234 rfl rfl
set_option maxRecDepth 20000 in
theorem LK_262 : (Cond.instanceMethod ⟨"PartitionedProcedureStore$Table", "copyCells", "(LPartitionedProcedureStore$Table;)V"⟩) ∈ TBL := tb1 214 rfl rfl
set_option maxRecDepth 20000 in
theorem LK_263 : (Cond.selects "PartitionedProcedureStore$Table" ⟨"PartitionedProcedureStore$Table", "copyCells", "(LPartitionedProcedureStore$Table;)V"⟩ ⟨"PartitionedProcedureStore$Table", "copyCells", "(LPartitionedProcedureStore$Table;)V"⟩) ∈ TBL := tb1 215 rfl rfl
set_option maxRecDepth 20000 in
theorem LK_code_B_copyCells : Cond.code y_B_copyCells b_B_copyCells 2 none ∈ TBL := tb1 216 rfl rfl
set_option maxRecDepth 20000 in
theorem LK_265 : (Cond.methodLink "PartitionedProcedureStore" 198 ⟨"java/util/ArrayList", "get", "(I)Ljava/lang/Object;"⟩) ∈ TBL := tb1 239 rfl rfl
set_option maxRecDepth 20000 in
theorem LK_266 : (Cond.fieldLink "PartitionedProcedureStore" 248 "PartitionedProcedureStore$Task" "number" "I") ∈ TBL := tb1 138 rfl rfl
set_option maxRecDepth 20000 in
theorem LK_267 : (Cond.methodLink "PartitionedProcedureStore" 251 ⟨"java/util/ArrayList", "remove", "(I)Ljava/lang/Object;"⟩) ∈ TBL := tb2 0 rfl rfl
set_option maxRecDepth 20000 in
theorem LK_268 : (Cond.methodLink "PartitionedProcedureStore" 232 ⟨"PartitionedProcedureStore$Client", "settle", "(I)V"⟩) ∈ TBL := tb2 5 rfl rfl
set_option maxRecDepth 20000 in
theorem LK_269 : (Cond.instanceMethod ⟨"PartitionedProcedureStore$Client", "settle", "(I)V"⟩) ∈ TBL := tb2 6 rfl rfl
set_option maxRecDepth 20000 in
theorem LK_270 : (Cond.selects "PartitionedProcedureStore$Client" ⟨"PartitionedProcedureStore$Client", "settle", "(I)V"⟩ ⟨"PartitionedProcedureStore$Client", "settle", "(I)V"⟩) ∈ TBL := tb2 7 rfl rfl
set_option maxRecDepth 20000 in
theorem LK_code_C_settle : Cond.code y_C_settle b_C_settle 2 none ∈ TBL := tb2 8 rfl rfl
set_option maxRecDepth 20000 in
theorem LK_272 : (Cond.methodLink "PartitionedProcedureStore" 194 ⟨"PartitionedProcedureStore$Table", "copyFrom", "(LPartitionedProcedureStore$Table;)V"⟩) ∈ TBL := tb1 230 rfl rfl
set_option maxRecDepth 20000 in
theorem LK_273 : (Cond.instanceMethod ⟨"PartitionedProcedureStore$Table", "copyFrom", "(LPartitionedProcedureStore$Table;)V"⟩) ∈ TBL := tb1 231 rfl rfl
set_option maxRecDepth 20000 in
theorem LK_274 : (Cond.selects "PartitionedProcedureStore$Table" ⟨"PartitionedProcedureStore$Table", "copyFrom", "(LPartitionedProcedureStore$Table;)V"⟩ ⟨"PartitionedProcedureStore$Table", "copyFrom", "(LPartitionedProcedureStore$Table;)V"⟩) ∈ TBL := tb1 232 rfl rfl
set_option maxRecDepth 20000 in
theorem LK_code_B_copyFrom : Cond.code y_B_copyFrom b_B_copyFrom 2 none ∈ TBL := tb1 233 rfl rfl
set_option maxRecDepth 20000 in
theorem LK_276 : (Cond.methodLink "PartitionedProcedureStore" 245 ⟨"PartitionedProcedureStore", "dropLogUpTo", "(I)V"⟩) ∈ TBL := tb1 235 rfl rfl
set_option maxRecDepth 20000 in
theorem LK_277 : (Cond.instanceMethod ⟨"PartitionedProcedureStore", "dropLogUpTo", "(I)V"⟩) ∈ TBL := tb1 237 rfl rfl
set_option maxRecDepth 20000 in
theorem LK_278 : (Cond.selects "PartitionedProcedureStore" ⟨"PartitionedProcedureStore", "dropLogUpTo", "(I)V"⟩ ⟨"PartitionedProcedureStore", "dropLogUpTo", "(I)V"⟩) ∈ TBL := tbS 7 rfl rfl
set_option maxRecDepth 20000 in
theorem LK_code_S_dropLogUpTo : Cond.code y_S_dropLogUpTo b_S_dropLogUpTo 3 none ∈ TBL := tb1 238 rfl rfl
set_option maxRecDepth 20000 in
theorem LK_280 : (Cond.methodLink "PartitionedProcedureStore" 171 ⟨"PartitionedProcedureStore", "raiseDurable", "(I)V"⟩) ∈ TBL := tb2 1 rfl rfl
set_option maxRecDepth 20000 in
theorem LK_281 : (Cond.instanceMethod ⟨"PartitionedProcedureStore", "raiseDurable", "(I)V"⟩) ∈ TBL := tb2 3 rfl rfl
set_option maxRecDepth 20000 in
theorem LK_282 : (Cond.selects "PartitionedProcedureStore" ⟨"PartitionedProcedureStore", "raiseDurable", "(I)V"⟩ ⟨"PartitionedProcedureStore", "raiseDurable", "(I)V"⟩) ∈ TBL := tbS 8 rfl rfl
set_option maxRecDepth 20000 in
theorem LK_code_S_raiseDurable : Cond.code y_S_raiseDurable b_S_raiseDurable 6 none ∈ TBL := tb2 4 rfl rfl
set_option maxRecDepth 20000 in
theorem LK_284 : (Cond.fieldLink "PartitionedProcedureStore" 174 "PartitionedProcedureStore$Site" "marked" "Z") ∈ TBL := tb0 187 rfl rfl
set_option maxRecDepth 20000 in
theorem LK_285 : (Cond.fieldLink "PartitionedProcedureStore" 177 "PartitionedProcedureStore$Site" "rowsLeft" "I") ∈ TBL := tb0 189 rfl rfl
set_option maxRecDepth 20000 in
theorem LK_286 : (Cond.methodLink "PartitionedProcedureStore" 165 ⟨"PartitionedProcedureStore$Site", "passOn", "()V"⟩) ∈ TBL := tb1 196 rfl rfl
set_option maxRecDepth 20000 in
theorem LK_287 : (Cond.instanceMethod ⟨"PartitionedProcedureStore$Site", "passOn", "()V"⟩) ∈ TBL := tb1 197 rfl rfl
set_option maxRecDepth 20000 in
theorem LK_288 : (Cond.selects "PartitionedProcedureStore$Site" ⟨"PartitionedProcedureStore$Site", "passOn", "()V"⟩ ⟨"PartitionedProcedureStore$Site", "passOn", "()V"⟩) ∈ TBL := tb1 198 rfl rfl
set_option maxRecDepth 20000 in
theorem LK_code_Q_passOn : Cond.code y_Q_passOn b_Q_passOn 1 none ∈ TBL := tb1 199 rfl rfl
set_option maxRecDepth 20000 in
theorem LK_290 : (Cond.fieldLink "PartitionedProcedureStore" 191 "PartitionedProcedureStore$Runner" "live" "LPartitionedProcedureStore$Table;") ∈ TBL := tb0 95 rfl rfl
set_option maxRecDepth 20000 in
theorem LK_291 : (Cond.methodLink "PartitionedProcedureStore" 235 ⟨"PartitionedProcedureStore$Table", "copyPart", "(LPartitionedProcedureStore$Table;II)V"⟩) ∈ TBL := tb1 209 rfl rfl
set_option maxRecDepth 20000 in
theorem LK_292 : (Cond.instanceMethod ⟨"PartitionedProcedureStore$Table", "copyPart", "(LPartitionedProcedureStore$Table;II)V"⟩) ∈ TBL := tb1 210 rfl rfl
set_option maxRecDepth 20000 in
theorem LK_293 : (Cond.selects "PartitionedProcedureStore$Table" ⟨"PartitionedProcedureStore$Table", "copyPart", "(LPartitionedProcedureStore$Table;II)V"⟩ ⟨"PartitionedProcedureStore$Table", "copyPart", "(LPartitionedProcedureStore$Table;II)V"⟩) ∈ TBL := tb1 211 rfl rfl
set_option maxRecDepth 20000 in
theorem LK_code_B_copyPart : Cond.code y_B_copyPart b_B_copyPart 5 none ∈ TBL := tb1 212 rfl rfl
set_option maxRecDepth 20000 in
theorem LK_295 : (Cond.methodLink "PartitionedProcedureStore" 239 ⟨"PartitionedProcedureStore$Table", "copyCells", "(LPartitionedProcedureStore$Table;)V"⟩) ∈ TBL := tb1 213 rfl rfl
set_option maxRecDepth 20000 in
theorem LK_296 : (Cond.methodLink "PartitionedProcedureStore" 220 ⟨"PartitionedProcedureStore$Table", "countPart", "(II)I"⟩) ∈ TBL := tb1 218 rfl rfl
set_option maxRecDepth 20000 in
theorem LK_297 : (Cond.instanceMethod ⟨"PartitionedProcedureStore$Table", "countPart", "(II)I"⟩) ∈ TBL := tb1 219 rfl rfl
set_option maxRecDepth 20000 in
theorem LK_298 : (Cond.selects "PartitionedProcedureStore$Table" ⟨"PartitionedProcedureStore$Table", "countPart", "(II)I"⟩ ⟨"PartitionedProcedureStore$Table", "countPart", "(II)I"⟩) ∈ TBL := tb1 220 rfl rfl
set_option maxRecDepth 20000 in
theorem LK_code_B_countPart : Cond.code y_B_countPart b_B_countPart 5 (some .int) ∈ TBL := tb1 221 rfl rfl
set_option maxRecDepth 20000 in
theorem LK_300 : (Cond.methodLink "PartitionedProcedureStore" 242 ⟨"PartitionedProcedureStore$Site", "beginPart", "(I)V"⟩) ∈ TBL := tb1 222 rfl rfl
set_option maxRecDepth 20000 in
theorem LK_301 : (Cond.instanceMethod ⟨"PartitionedProcedureStore$Site", "beginPart", "(I)V"⟩) ∈ TBL := tb1 223 rfl rfl
set_option maxRecDepth 20000 in
theorem LK_302 : (Cond.selects "PartitionedProcedureStore$Site" ⟨"PartitionedProcedureStore$Site", "beginPart", "(I)V"⟩ ⟨"PartitionedProcedureStore$Site", "beginPart", "(I)V"⟩) ∈ TBL := tb1 224 rfl rfl
set_option maxRecDepth 20000 in
theorem LK_code_Q_beginPart : Cond.code y_Q_beginPart b_Q_beginPart 2 none ∈ TBL := tb1 225 rfl rfl
set_option maxRecDepth 20000 in
theorem LK_304 : (Cond.methodLink "PartitionedProcedureStore" 180 ⟨"PartitionedProcedureStore", "completeSnapshotIfCopied", "()V"⟩) ∈ TBL := tb1 226 rfl rfl
set_option maxRecDepth 20000 in
theorem LK_305 : (Cond.instanceMethod ⟨"PartitionedProcedureStore", "completeSnapshotIfCopied", "()V"⟩) ∈ TBL := tb1 228 rfl rfl
set_option maxRecDepth 20000 in
theorem LK_306 : (Cond.selects "PartitionedProcedureStore" ⟨"PartitionedProcedureStore", "completeSnapshotIfCopied", "()V"⟩ ⟨"PartitionedProcedureStore", "completeSnapshotIfCopied", "()V"⟩) ∈ TBL := tbS 6 rfl rfl
set_option maxRecDepth 20000 in
theorem LK_code_S_completeSnapshotIfCopied : Cond.code y_S_completeSnapshotIfCopied b_S_completeSnapshotIfCopied 5 none ∈ TBL := tb1 229 rfl rfl
set_option maxRecDepth 20000 in
theorem LK_308 : (Cond.fieldLink "PartitionedProcedureStore" 156 "PartitionedProcedureStore$Site" "stalled" "Z") ∈ TBL := tb0 185 rfl rfl
set_option maxRecDepth 20000 in
theorem LK_309 : (Cond.methodLink "PartitionedProcedureStore$Runner" 88 ⟨"java/util/Arrays", "fill", "([II)V"⟩) ∈ TBL := tb2 31 rfl rfl
set_option maxRecDepth 20000 in
theorem LK_310 : (Cond.static ⟨"java/util/Arrays", "fill", "([II)V"⟩) ∈ TBL := tb2 32 rfl rfl
set_option maxRecDepth 20000 in
theorem LK_code_Ar_fill1 : Cond.code y_Ar_fill1 b_Ar_fill1 4 none ∈ TBL := tb2 33 rfl rfl
set_option maxRecDepth 20000 in
theorem LK_312 : (Cond.fieldLink "PartitionedProcedureStore$Runner" 94 "PartitionedProcedureStore$Task" "a" "I") ∈ TBL := tb1 145 rfl rfl
set_option maxRecDepth 20000 in
theorem LK_313 : (Cond.fieldLink "PartitionedProcedureStore$Runner" 97 "PartitionedProcedureStore$Task" "b" "I") ∈ TBL := tb1 147 rfl rfl
set_option maxRecDepth 20000 in
theorem LK_314 : (Cond.fieldLink "PartitionedProcedureStore$Runner" 100 "PartitionedProcedureStore$Task" "c" "I") ∈ TBL := tb1 149 rfl rfl
set_option maxRecDepth 20000 in
theorem LK_315 : (Cond.methodLink "PartitionedProcedureStore$Runner" 77 ⟨"PartitionedProcedureStore$Table", "copyFrom", "(LPartitionedProcedureStore$Table;)V"⟩) ∈ TBL := tb2 29 rfl rfl
set_option maxRecDepth 20000 in
theorem LK_316 : (Cond.fieldLink "PartitionedProcedureStore$Runner" 45 "PartitionedProcedureStore$Task" "procedure" "LPartitionedProcedureStore$Procedure;") ∈ TBL := tb1 142 rfl rfl
set_option maxRecDepth 20000 in
theorem LK_317 : (Cond.fieldLink "PartitionedProcedureStore$Runner" 81 "PartitionedProcedureStore$Procedure" "multi" "Z") ∈ TBL := tb0 134 rfl rfl
set_option maxRecDepth 20000 in
theorem LK_318 : (Cond.methodLink "PartitionedProcedureStore$Runner" 85 ⟨"PartitionedProcedureStore$Task", "home", "(I)I"⟩) ∈ TBL := tb2 30 rfl rfl
set_option maxRecDepth 20000 in
theorem LK_319 : (Cond.methodLink "PartitionedProcedureStore$Runner" 137 ⟨"PartitionedProcedureStore$Runner", "isReachable", "(I)Z"⟩) ∈ TBL := tb2 49 rfl rfl
set_option maxRecDepth 20000 in
theorem LK_320 : (Cond.instanceMethod ⟨"PartitionedProcedureStore$Runner", "isReachable", "(I)Z"⟩) ∈ TBL := tb2 51 rfl rfl
set_option maxRecDepth 20000 in
theorem LK_321 : (Cond.selects "PartitionedProcedureStore$Runner" ⟨"PartitionedProcedureStore$Runner", "isReachable", "(I)Z"⟩ ⟨"PartitionedProcedureStore$Runner", "isReachable", "(I)Z"⟩) ∈ TBL := tbS 16 rfl rfl
set_option maxRecDepth 20000 in
theorem LK_code_R_isReachable : Cond.code y_R_isReachable b_R_isReachable 2 (some .boolean) ∈ TBL := tb2 52 rfl rfl
set_option maxRecDepth 20000 in
theorem LK_323 : (Cond.fieldLink "PartitionedProcedureStore$Runner" 140 "PartitionedProcedureStore$Table" "values" "[J") ∈ TBL := tb0 68 rfl rfl
set_option maxRecDepth 20000 in
theorem LK_324 : (Cond.constantLong "PartitionedProcedureStore$Runner" 123 (1000000000000 : Int64)) ∈ TBL := tb2 53 rfl rfl
set_option maxRecDepth 20000 in
theorem LK_325 : (Cond.fieldLink "PartitionedProcedureStore$Runner" 112 "PartitionedProcedureStore$Statement" "y" "I") ∈ TBL := tb1 38 rfl rfl
set_option maxRecDepth 20000 in
theorem LK_326 : (Cond.methodLink "PartitionedProcedureStore$Runner" 119 ⟨"PartitionedProcedureStore$Runner", "isPresent", "(I)Z"⟩) ∈ TBL := tb2 45 rfl rfl
set_option maxRecDepth 20000 in
theorem LK_327 : (Cond.instanceMethod ⟨"PartitionedProcedureStore$Runner", "isPresent", "(I)Z"⟩) ∈ TBL := tb2 47 rfl rfl
set_option maxRecDepth 20000 in
theorem LK_328 : (Cond.selects "PartitionedProcedureStore$Runner" ⟨"PartitionedProcedureStore$Runner", "isPresent", "(I)Z"⟩ ⟨"PartitionedProcedureStore$Runner", "isPresent", "(I)Z"⟩) ∈ TBL := tbS 15 rfl rfl
set_option maxRecDepth 20000 in
theorem LK_code_R_isPresent : Cond.code y_R_isPresent b_R_isPresent 2 (some .boolean) ∈ TBL := tb2 48 rfl rfl
set_option maxRecDepth 20000 in
theorem LK_330 : (Cond.fieldLink "PartitionedProcedureStore$Runner" 109 "PartitionedProcedureStore$Statement" "x" "I") ∈ TBL := tb1 35 rfl rfl
set_option maxRecDepth 20000 in
theorem NW_331 : (Cond.methodLinkNest "PartitionedProcedureStore$Runner" 144 ⟨"PartitionedProcedureStore", "isWithin", "(II)Z"⟩ "PartitionedProcedureStore") ∈ nestW := by decide +kernel
set_option maxRecDepth 20000 in
theorem LK_332 : (Cond.fieldLink "PartitionedProcedureStore$Runner" 148 "PartitionedProcedureStore$Table" "cells" "[I") ∈ TBL := tb0 71 rfl rfl
set_option maxRecDepth 20000 in
theorem LK_333 : (Cond.fieldLink "PartitionedProcedureStore$Runner" 103 "PartitionedProcedureStore$Statement" "op" "I") ∈ TBL := tb1 33 rfl rfl
set_option maxRecDepth 20000 in
theorem LK_334 : (Cond.methodLink "PartitionedProcedureStore$Runner" 106 ⟨"PartitionedProcedureStore$Runner", "readRow", "(LPartitionedProcedureStore$Statement;)I"⟩) ∈ TBL := tb2 41 rfl rfl
set_option maxRecDepth 20000 in
theorem LK_335 : (Cond.instanceMethod ⟨"PartitionedProcedureStore$Runner", "readRow", "(LPartitionedProcedureStore$Statement;)I"⟩) ∈ TBL := tb2 43 rfl rfl
set_option maxRecDepth 20000 in
theorem LK_336 : (Cond.selects "PartitionedProcedureStore$Runner" ⟨"PartitionedProcedureStore$Runner", "readRow", "(LPartitionedProcedureStore$Statement;)I"⟩ ⟨"PartitionedProcedureStore$Runner", "readRow", "(LPartitionedProcedureStore$Statement;)I"⟩) ∈ TBL := tbS 14 rfl rfl
set_option maxRecDepth 20000 in
theorem LK_code_R_readRow : Cond.code y_R_readRow b_R_readRow 3 (some .int) ∈ TBL := tb2 44 rfl rfl
set_option maxRecDepth 20000 in
theorem LK_338 : (Cond.methodLink "PartitionedProcedureStore$Runner" 115 ⟨"PartitionedProcedureStore$Runner", "writeRow", "(IJ)I"⟩) ∈ TBL := tb2 54 rfl rfl
set_option maxRecDepth 20000 in
theorem LK_339 : (Cond.instanceMethod ⟨"PartitionedProcedureStore$Runner", "writeRow", "(IJ)I"⟩) ∈ TBL := tb2 56 rfl rfl
set_option maxRecDepth 20000 in
theorem LK_340 : (Cond.selects "PartitionedProcedureStore$Runner" ⟨"PartitionedProcedureStore$Runner", "writeRow", "(IJ)I"⟩ ⟨"PartitionedProcedureStore$Runner", "writeRow", "(IJ)I"⟩) ∈ TBL := tbS 17 rfl rfl
set_option maxRecDepth 20000 in
theorem LK_code_R_writeRow : Cond.code y_R_writeRow b_R_writeRow 4 (some .int) ∈ TBL := tb2 57 rfl rfl
set_option maxRecDepth 20000 in
theorem LK_342 : (Cond.fieldLink "PartitionedProcedureStore$Runner" 125 "PartitionedProcedureStore$Statement" "z" "I") ∈ TBL := tb1 40 rfl rfl
set_option maxRecDepth 20000 in
theorem LK_343 : (Cond.methodLink "PartitionedProcedureStore$Runner" 128 ⟨"PartitionedProcedureStore$Runner", "loadCell", "(LPartitionedProcedureStore$Statement;)I"⟩) ∈ TBL := tb2 58 rfl rfl
set_option maxRecDepth 20000 in
theorem LK_344 : (Cond.instanceMethod ⟨"PartitionedProcedureStore$Runner", "loadCell", "(LPartitionedProcedureStore$Statement;)I"⟩) ∈ TBL := tb2 60 rfl rfl
set_option maxRecDepth 20000 in
theorem LK_345 : (Cond.selects "PartitionedProcedureStore$Runner" ⟨"PartitionedProcedureStore$Runner", "loadCell", "(LPartitionedProcedureStore$Statement;)I"⟩ ⟨"PartitionedProcedureStore$Runner", "loadCell", "(LPartitionedProcedureStore$Statement;)I"⟩) ∈ TBL := tbS 18 rfl rfl
set_option maxRecDepth 20000 in
theorem LK_code_R_loadCell : Cond.code y_R_loadCell b_R_loadCell 3 (some .int) ∈ TBL := tb2 61 rfl rfl
set_option maxRecDepth 20000 in
theorem LK_347 : (Cond.methodLink "PartitionedProcedureStore$Runner" 131 ⟨"PartitionedProcedureStore$Runner", "storeCell", "(LPartitionedProcedureStore$Statement;)I"⟩) ∈ TBL := tb2 63 rfl rfl
set_option maxRecDepth 20000 in
theorem LK_348 : (Cond.instanceMethod ⟨"PartitionedProcedureStore$Runner", "storeCell", "(LPartitionedProcedureStore$Statement;)I"⟩) ∈ TBL := tb2 65 rfl rfl
set_option maxRecDepth 20000 in
theorem LK_349 : (Cond.selects "PartitionedProcedureStore$Runner" ⟨"PartitionedProcedureStore$Runner", "storeCell", "(LPartitionedProcedureStore$Statement;)I"⟩ ⟨"PartitionedProcedureStore$Runner", "storeCell", "(LPartitionedProcedureStore$Statement;)I"⟩) ∈ TBL := tbS 19 rfl rfl
set_option maxRecDepth 20000 in
theorem LK_code_R_storeCell : Cond.code y_R_storeCell b_R_storeCell 3 (some .int) ∈ TBL := tb2 66 rfl rfl
set_option maxRecDepth 20000 in
theorem LK_351 : (Cond.methodLink "PartitionedProcedureStore$Runner" 134 ⟨"PartitionedProcedureStore$Runner", "putOut", "(I)I"⟩) ∈ TBL := tb2 67 rfl rfl
set_option maxRecDepth 20000 in
theorem LK_352 : (Cond.instanceMethod ⟨"PartitionedProcedureStore$Runner", "putOut", "(I)I"⟩) ∈ TBL := tb2 69 rfl rfl
set_option maxRecDepth 20000 in
theorem LK_353 : (Cond.selects "PartitionedProcedureStore$Runner" ⟨"PartitionedProcedureStore$Runner", "putOut", "(I)I"⟩ ⟨"PartitionedProcedureStore$Runner", "putOut", "(I)I"⟩) ∈ TBL := tbS 20 rfl rfl
set_option maxRecDepth 20000 in
theorem LK_code_R_putOut : Cond.code y_R_putOut b_R_putOut 2 (some .int) ∈ TBL := tb2 70 rfl rfl
set_option maxRecDepth 20000 in
theorem LK_355 : (Cond.methodLink "PartitionedProcedureStore$Runner" 57 ⟨"java/util/ArrayList", "size", "()I"⟩) ∈ TBL := tb2 34 rfl rfl
set_option maxRecDepth 20000 in
theorem LK_356 : (Cond.methodLink "PartitionedProcedureStore$Runner" 63 ⟨"java/util/ArrayList", "get", "(I)Ljava/lang/Object;"⟩) ∈ TBL := tb2 35 rfl rfl
set_option maxRecDepth 20000 in
theorem LK_357 : (Cond.classLink "PartitionedProcedureStore$Runner" 67 "PartitionedProcedureStore$Statement") ∈ TBL := tb2 36 rfl rfl
set_option maxRecDepth 20000 in
theorem LK_358 : (Cond.methodLink "PartitionedProcedureStore$Runner" 69 ⟨"PartitionedProcedureStore$Runner", "execute", "(LPartitionedProcedureStore$Statement;)I"⟩) ∈ TBL := tb2 37 rfl rfl
set_option maxRecDepth 20000 in
theorem LK_359 : (Cond.instanceMethod ⟨"PartitionedProcedureStore$Runner", "execute", "(LPartitionedProcedureStore$Statement;)I"⟩) ∈ TBL := tb2 39 rfl rfl
set_option maxRecDepth 20000 in
theorem LK_360 : (Cond.selects "PartitionedProcedureStore$Runner" ⟨"PartitionedProcedureStore$Runner", "execute", "(LPartitionedProcedureStore$Statement;)I"⟩ ⟨"PartitionedProcedureStore$Runner", "execute", "(LPartitionedProcedureStore$Statement;)I"⟩) ∈ TBL := tbS 13 rfl rfl
set_option maxRecDepth 20000 in
theorem LK_code_R_execute : Cond.code y_R_execute b_R_execute 2 (some .int) ∈ TBL := tb2 40 rfl rfl
set_option maxRecDepth 20000 in
theorem LK_362 : (Cond.methodLink "PartitionedProcedureStore$Runner" 73 ⟨"PartitionedProcedureStore$Runner", "abort", "(I)V"⟩) ∈ TBL := tb2 71 rfl rfl
set_option maxRecDepth 20000 in
theorem LK_363 : (Cond.instanceMethod ⟨"PartitionedProcedureStore$Runner", "abort", "(I)V"⟩) ∈ TBL := tb2 73 rfl rfl
set_option maxRecDepth 20000 in
theorem LK_364 : (Cond.selects "PartitionedProcedureStore$Runner" ⟨"PartitionedProcedureStore$Runner", "abort", "(I)V"⟩ ⟨"PartitionedProcedureStore$Runner", "abort", "(I)V"⟩) ∈ TBL := tbS 21 rfl rfl
set_option maxRecDepth 20000 in
theorem LK_code_R_abort : Cond.code y_R_abort b_R_abort 2 none ∈ TBL := tb2 74 rfl rfl
set_option maxRecDepth 20000 in
theorem LK_366 : (Cond.methodLink "PartitionedProcedureStore$Runner" 41 ⟨"PartitionedProcedureStore$Runner", "begin", "(LPartitionedProcedureStore$Task;)V"⟩) ∈ TBL := tb2 25 rfl rfl
set_option maxRecDepth 20000 in
theorem LK_367 : (Cond.instanceMethod ⟨"PartitionedProcedureStore$Runner", "begin", "(LPartitionedProcedureStore$Task;)V"⟩) ∈ TBL := tb2 27 rfl rfl
set_option maxRecDepth 20000 in
theorem LK_368 : (Cond.selects "PartitionedProcedureStore$Runner" ⟨"PartitionedProcedureStore$Runner", "begin", "(LPartitionedProcedureStore$Task;)V"⟩ ⟨"PartitionedProcedureStore$Runner", "begin", "(LPartitionedProcedureStore$Task;)V"⟩) ∈ TBL := tbS 12 rfl rfl
set_option maxRecDepth 20000 in
theorem LK_code_R_begin : Cond.code y_R_begin b_R_begin 2 none ∈ TBL := tb2 28 rfl rfl
set_option maxRecDepth 20000 in
theorem LK_370 : (Cond.fieldLink "PartitionedProcedureStore$Runner" 51 "PartitionedProcedureStore$Procedure" "statements" "Ljava/util/ArrayList;") ∈ TBL := tb0 131 rfl rfl
set_option maxRecDepth 20000 in
theorem LK_371 : (Cond.fieldLink "PartitionedProcedureStore$Client" 35 "PartitionedProcedureStore$Runner" "fault" "I") ∈ TBL := tb0 105 rfl rfl
set_option maxRecDepth 20000 in
theorem LK_372 : (Cond.fieldLink "PartitionedProcedureStore$Client" 38 "PartitionedProcedureStore$Runner" "outputSize" "I") ∈ TBL := tb0 103 rfl rfl
set_option maxRecDepth 20000 in
theorem LK_373 : (Cond.fieldLink "PartitionedProcedureStore$Client" 39 "PartitionedProcedureStore$Runner" "outputs" "[I") ∈ TBL := tb0 101 rfl rfl
set_option maxRecDepth 20000 in
theorem LK_374 : (Cond.methodLink "PartitionedProcedureStore$Client" 40 ⟨"java/lang/System", "arraycopy", "(Ljava/lang/Object;ILjava/lang/Object;II)V"⟩) ∈ TBL := tb2 79 rfl rfl
set_option maxRecDepth 20000 in
theorem LK_375 : (Cond.fieldLink "PartitionedProcedureStore" 226 "PartitionedProcedureStore$Task" "client" "I") ∈ TBL := tb1 140 rfl rfl
set_option maxRecDepth 20000 in
theorem LK_376 : (Cond.methodLink "PartitionedProcedureStore" 202 ⟨"PartitionedProcedureStore$Runner", "run", "(LPartitionedProcedureStore$Task;)Z"⟩) ∈ TBL := tb2 21 rfl rfl
set_option maxRecDepth 20000 in
theorem LK_377 : (Cond.instanceMethod ⟨"PartitionedProcedureStore$Runner", "run", "(LPartitionedProcedureStore$Task;)Z"⟩) ∈ TBL := tb2 22 rfl rfl
set_option maxRecDepth 20000 in
theorem LK_378 : (Cond.selects "PartitionedProcedureStore$Runner" ⟨"PartitionedProcedureStore$Runner", "run", "(LPartitionedProcedureStore$Task;)Z"⟩ ⟨"PartitionedProcedureStore$Runner", "run", "(LPartitionedProcedureStore$Task;)Z"⟩) ∈ TBL := tb2 23 rfl rfl
set_option maxRecDepth 20000 in
theorem LK_code_R_run : Cond.code y_R_run b_R_run 6 (some .boolean) ∈ TBL := tb2 24 rfl rfl
set_option maxRecDepth 20000 in
theorem LK_380 : (Cond.methodLink "PartitionedProcedureStore" 229 ⟨"PartitionedProcedureStore$Client", "finish", "(ZLPartitionedProcedureStore$Runner;)V"⟩) ∈ TBL := tb2 75 rfl rfl
set_option maxRecDepth 20000 in
theorem LK_381 : (Cond.instanceMethod ⟨"PartitionedProcedureStore$Client", "finish", "(ZLPartitionedProcedureStore$Runner;)V"⟩) ∈ TBL := tb2 76 rfl rfl
set_option maxRecDepth 20000 in
theorem LK_382 : (Cond.selects "PartitionedProcedureStore$Client" ⟨"PartitionedProcedureStore$Client", "finish", "(ZLPartitionedProcedureStore$Runner;)V"⟩ ⟨"PartitionedProcedureStore$Client", "finish", "(ZLPartitionedProcedureStore$Runner;)V"⟩) ∈ TBL := tb2 77 rfl rfl
set_option maxRecDepth 20000 in
theorem LK_code_C_finish : Cond.code y_C_finish b_C_finish 3 none ∈ TBL := tb2 78 rfl rfl
set_option maxRecDepth 20000 in
theorem LK_384 : (Cond.methodLink "PartitionedProcedureStore" 168 ⟨"PartitionedProcedureStore", "finish", "(LPartitionedProcedureStore$Task;)V"⟩) ∈ TBL := tb2 17 rfl rfl
set_option maxRecDepth 20000 in
theorem LK_385 : (Cond.instanceMethod ⟨"PartitionedProcedureStore", "finish", "(LPartitionedProcedureStore$Task;)V"⟩) ∈ TBL := tb2 19 rfl rfl
set_option maxRecDepth 20000 in
theorem LK_386 : (Cond.selects "PartitionedProcedureStore" ⟨"PartitionedProcedureStore", "finish", "(LPartitionedProcedureStore$Task;)V"⟩ ⟨"PartitionedProcedureStore", "finish", "(LPartitionedProcedureStore$Task;)V"⟩) ∈ TBL := tbS 11 rfl rfl
set_option maxRecDepth 20000 in
theorem LK_code_S_finish : Cond.code y_S_finish b_S_finish 3 none ∈ TBL := tb2 20 rfl rfl
set_option maxRecDepth 20000 in
theorem LK_388 : (Cond.methodLink "PartitionedProcedureStore" 149 ⟨"PartitionedProcedureStore$Site", "first", "()LPartitionedProcedureStore$Task;"⟩) ∈ TBL := tb1 182 rfl rfl
set_option maxRecDepth 20000 in
theorem LK_389 : (Cond.instanceMethod ⟨"PartitionedProcedureStore$Site", "first", "()LPartitionedProcedureStore$Task;"⟩) ∈ TBL := tb1 183 rfl rfl
set_option maxRecDepth 20000 in
theorem LK_390 : (Cond.selects "PartitionedProcedureStore$Site" ⟨"PartitionedProcedureStore$Site", "first", "()LPartitionedProcedureStore$Task;"⟩ ⟨"PartitionedProcedureStore$Site", "first", "()LPartitionedProcedureStore$Task;"⟩) ∈ TBL := tb1 184 rfl rfl
set_option maxRecDepth 20000 in
theorem LK_code_Q_first : Cond.code y_Q_first b_Q_first 1 (some (.object "PartitionedProcedureStore$Task")) ∈ TBL := tb1 185 rfl rfl
set_option maxRecDepth 20000 in
theorem LK_392 : (Cond.methodLink "PartitionedProcedureStore" 159 ⟨"PartitionedProcedureStore", "areAllStalled", "()Z"⟩) ∈ TBL := tb2 9 rfl rfl
set_option maxRecDepth 20000 in
theorem LK_393 : (Cond.instanceMethod ⟨"PartitionedProcedureStore", "areAllStalled", "()Z"⟩) ∈ TBL := tb2 11 rfl rfl
set_option maxRecDepth 20000 in
theorem LK_394 : (Cond.selects "PartitionedProcedureStore" ⟨"PartitionedProcedureStore", "areAllStalled", "()Z"⟩ ⟨"PartitionedProcedureStore", "areAllStalled", "()Z"⟩) ∈ TBL := tbS 9 rfl rfl
set_option maxRecDepth 20000 in
theorem LK_code_S_areAllStalled : Cond.code y_S_areAllStalled b_S_areAllStalled 5 (some .boolean) ∈ TBL := tb2 12 rfl rfl
set_option maxRecDepth 20000 in
theorem LK_396 : (Cond.methodLink "PartitionedProcedureStore" 162 ⟨"PartitionedProcedureStore", "passOnAtAllSites", "()V"⟩) ∈ TBL := tb2 13 rfl rfl
set_option maxRecDepth 20000 in
theorem LK_397 : (Cond.instanceMethod ⟨"PartitionedProcedureStore", "passOnAtAllSites", "()V"⟩) ∈ TBL := tb2 15 rfl rfl
set_option maxRecDepth 20000 in
theorem LK_398 : (Cond.selects "PartitionedProcedureStore" ⟨"PartitionedProcedureStore", "passOnAtAllSites", "()V"⟩ ⟨"PartitionedProcedureStore", "passOnAtAllSites", "()V"⟩) ∈ TBL := tbS 10 rfl rfl
set_option maxRecDepth 20000 in
theorem LK_code_S_passOnAtAllSites : Cond.code y_S_passOnAtAllSites b_S_passOnAtAllSites 5 none ∈ TBL := tb2 16 rfl rfl
set_option maxRecDepth 20000 in
theorem LK_400 : (Cond.methodLink "PartitionedProcedureStore" 153 ⟨"PartitionedProcedureStore", "comeToMarker", "(I)V"⟩) ∈ TBL := tb1 192 rfl rfl
set_option maxRecDepth 20000 in
theorem LK_401 : (Cond.instanceMethod ⟨"PartitionedProcedureStore", "comeToMarker", "(I)V"⟩) ∈ TBL := tb1 194 rfl rfl
set_option maxRecDepth 20000 in
theorem LK_402 : (Cond.selects "PartitionedProcedureStore" ⟨"PartitionedProcedureStore", "comeToMarker", "(I)V"⟩ ⟨"PartitionedProcedureStore", "comeToMarker", "(I)V"⟩) ∈ TBL := tbS 4 rfl rfl
set_option maxRecDepth 20000 in
theorem LK_code_S_comeToMarker : Cond.code y_S_comeToMarker b_S_comeToMarker 2 none ∈ TBL := tb1 195 rfl rfl
set_option maxRecDepth 20000 in
theorem LK_404 : (Cond.methodLink "PartitionedProcedureStore$Site" 40 ⟨"java/util/ArrayList", "clear", "()V"⟩) ∈ TBL := tb2 100 rfl rfl
set_option maxRecDepth 20000 in
theorem LK_405 : (Cond.methodLink "PartitionedProcedureStore" 188 ⟨"PartitionedProcedureStore", "dropLogAbove", "(I)V"⟩) ∈ TBL := tb2 105 rfl rfl
set_option maxRecDepth 20000 in
theorem LK_406 : (Cond.instanceMethod ⟨"PartitionedProcedureStore", "dropLogAbove", "(I)V"⟩) ∈ TBL := tb2 107 rfl rfl
set_option maxRecDepth 20000 in
theorem LK_407 : (Cond.selects "PartitionedProcedureStore" ⟨"PartitionedProcedureStore", "dropLogAbove", "(I)V"⟩ ⟨"PartitionedProcedureStore", "dropLogAbove", "(I)V"⟩) ∈ TBL := tbS 22 rfl rfl
set_option maxRecDepth 20000 in
theorem LK_code_S_dropLogAbove : Cond.code y_S_dropLogAbove b_S_dropLogAbove 3 none ∈ TBL := tb2 108 rfl rfl
set_option maxRecDepth 20000 in
theorem LK_409 : (Cond.methodLink "PartitionedProcedureStore" 185 ⟨"PartitionedProcedureStore$Client", "lose", "()V"⟩) ∈ TBL := tb2 101 rfl rfl
set_option maxRecDepth 20000 in
theorem LK_410 : (Cond.instanceMethod ⟨"PartitionedProcedureStore$Client", "lose", "()V"⟩) ∈ TBL := tb2 102 rfl rfl
set_option maxRecDepth 20000 in
theorem LK_411 : (Cond.selects "PartitionedProcedureStore$Client" ⟨"PartitionedProcedureStore$Client", "lose", "()V"⟩ ⟨"PartitionedProcedureStore$Client", "lose", "()V"⟩) ∈ TBL := tb2 103 rfl rfl
set_option maxRecDepth 20000 in
theorem LK_code_C_lose : Cond.code y_C_lose b_C_lose 1 none ∈ TBL := tb2 104 rfl rfl
set_option maxRecDepth 20000 in
theorem LK_413 : (Cond.methodLink "PartitionedProcedureStore" 183 ⟨"PartitionedProcedureStore$Site", "restart", "()V"⟩) ∈ TBL := tb2 96 rfl rfl
set_option maxRecDepth 20000 in
theorem LK_414 : (Cond.instanceMethod ⟨"PartitionedProcedureStore$Site", "restart", "()V"⟩) ∈ TBL := tb2 97 rfl rfl
set_option maxRecDepth 20000 in
theorem LK_415 : (Cond.selects "PartitionedProcedureStore$Site" ⟨"PartitionedProcedureStore$Site", "restart", "()V"⟩ ⟨"PartitionedProcedureStore$Site", "restart", "()V"⟩) ∈ TBL := tb2 98 rfl rfl
set_option maxRecDepth 20000 in
theorem LK_code_Q_restart : Cond.code y_Q_restart b_Q_restart 1 none ∈ TBL := tb2 99 rfl rfl
set_option maxRecDepth 20000 in
theorem LK_417 : (Cond.constantLong "PartitionedProcedureStore$Client" 50 (1000000000000 : Int64)) ∈ TBL := tb2 122 rfl rfl
set_option maxRecDepth 20000 in
theorem NW_418 : (Cond.methodLinkNest "PartitionedProcedureStore$Client" 46 ⟨"PartitionedProcedureStore", "isWithin", "(II)Z"⟩ "PartitionedProcedureStore") ∈ nestW := by decide +kernel
set_option maxRecDepth 20000 in
theorem LK_419 : (Cond.constantLong "PartitionedProcedureStore" 210 (1000000000000 : Int64)) ∈ TBL := tb2 123 rfl rfl
set_option maxRecDepth 20000 in
theorem LK_420 : (Cond.methodLink "PartitionedProcedureStore" 206 ⟨"PartitionedProcedureStore$Client", "tell", "(I)J"⟩) ∈ TBL := tb2 117 rfl rfl
set_option maxRecDepth 20000 in
theorem LK_421 : (Cond.instanceMethod ⟨"PartitionedProcedureStore$Client", "tell", "(I)J"⟩) ∈ TBL := tb2 118 rfl rfl
set_option maxRecDepth 20000 in
theorem LK_422 : (Cond.selects "PartitionedProcedureStore$Client" ⟨"PartitionedProcedureStore$Client", "tell", "(I)J"⟩ ⟨"PartitionedProcedureStore$Client", "tell", "(I)J"⟩) ∈ TBL := tb2 119 rfl rfl
set_option maxRecDepth 20000 in
theorem LK_code_C_tell : Cond.code y_C_tell b_C_tell 2 (some .long) ∈ TBL := tb2 120 rfl rfl
set_option maxRecDepth 20000 in
theorem LK_424 : (Cond.fieldLink "PartitionedProcedureStore" 212 "PartitionedProcedureStore$Table" "values" "[J") ∈ TBL := tb0 69 rfl rfl
set_option maxRecDepth 20000 in
theorem LK_425 : (Cond.fieldLink "PartitionedProcedureStore" 216 "PartitionedProcedureStore$Table" "cells" "[I") ∈ TBL := tb0 72 rfl rfl
set_option maxRecDepth 20000 in
theorem LK_426 : (Cond.methodLink "PartitionedProcedureStore" 223 ⟨"PartitionedProcedureStore", "stalledNumber", "()I"⟩) ∈ TBL := tb2 144 rfl rfl
set_option maxRecDepth 20000 in
theorem LK_427 : (Cond.instanceMethod ⟨"PartitionedProcedureStore", "stalledNumber", "()I"⟩) ∈ TBL := tb2 146 rfl rfl
set_option maxRecDepth 20000 in
theorem LK_428 : (Cond.selects "PartitionedProcedureStore" ⟨"PartitionedProcedureStore", "stalledNumber", "()I"⟩ ⟨"PartitionedProcedureStore", "stalledNumber", "()I"⟩) ∈ TBL := tbS 23 rfl rfl
set_option maxRecDepth 20000 in
theorem LK_code_S_stalledNumber : Cond.code y_S_stalledNumber b_S_stalledNumber 6 (some .int) ∈ TBL := tb2 147 rfl rfl
set_option maxRecDepth 20000 in
theorem LK_430 : (Cond.fieldLink "PartitionedProcedureStoreModel" 96 "PartitionedProcedureStoreModel" "sites" "I") ∈ TBL := tb2 157 rfl rfl
set_option maxRecDepth 20000 in
theorem LK_431 : (Cond.methodLink "PartitionedProcedureStoreModel" 1 ⟨"java/lang/Object", "<init>", "()V"⟩) ∈ TBL := tb2 156 rfl rfl
set_option maxRecDepth 20000 in
theorem LK_432 : (Cond.arrayClass FieldType.boolean) ∈ TBL := tb3 17 rfl rfl
set_option maxRecDepth 20000 in
theorem LK_433 : (Cond.fieldLink "PartitionedProcedureStoreModel" 7 "PartitionedProcedureStoreModel" "there" "[Z") ∈ TBL := tb2 158 rfl rfl
set_option maxRecDepth 20000 in
theorem LK_434 : (Cond.fieldLink "PartitionedProcedureStoreModel" 13 "PartitionedProcedureStoreModel" "held" "[I") ∈ TBL := tb2 159 rfl rfl
set_option maxRecDepth 20000 in
theorem LK_435 : (Cond.fieldLink "PartitionedProcedureStoreModel" 17 "PartitionedProcedureStoreModel" "baseThere" "[Z") ∈ TBL := tb2 160 rfl rfl
set_option maxRecDepth 20000 in
theorem LK_436 : (Cond.fieldLink "PartitionedProcedureStoreModel" 20 "PartitionedProcedureStoreModel" "baseHeld" "[I") ∈ TBL := tb2 161 rfl rfl
set_option maxRecDepth 20000 in
theorem LK_437 : (Cond.fieldLink "PartitionedProcedureStoreModel" 23 "PartitionedProcedureStoreModel" "oldThere" "[Z") ∈ TBL := tb2 162 rfl rfl
set_option maxRecDepth 20000 in
theorem LK_438 : (Cond.fieldLink "PartitionedProcedureStoreModel" 26 "PartitionedProcedureStoreModel" "oldHeld" "[I") ∈ TBL := tb2 163 rfl rfl
set_option maxRecDepth 20000 in
theorem LK_439 : (Cond.fieldLink "PartitionedProcedureStoreModel" 29 "PartitionedProcedureStoreModel" "deployed" "[Z") ∈ TBL := tb2 164 rfl rfl
set_option maxRecDepth 20000 in
theorem LK_440 : (Cond.fieldLink "PartitionedProcedureStoreModel" 32 "PartitionedProcedureStoreModel" "multi" "[Z") ∈ TBL := tb2 165 rfl rfl
set_option maxRecDepth 20000 in
theorem LK_441 : (Cond.fieldLink "PartitionedProcedureStoreModel" 35 "PartitionedProcedureStoreModel" "statements" "[I") ∈ TBL := tb2 166 rfl rfl
set_option maxRecDepth 20000 in
theorem LK_442 : (Cond.fieldLink "PartitionedProcedureStoreModel" 38 "PartitionedProcedureStoreModel" "op" "[I") ∈ TBL := tb2 167 rfl rfl
set_option maxRecDepth 20000 in
theorem LK_443 : (Cond.fieldLink "PartitionedProcedureStoreModel" 41 "PartitionedProcedureStoreModel" "x" "[I") ∈ TBL := tb2 168 rfl rfl
set_option maxRecDepth 20000 in
theorem LK_444 : (Cond.fieldLink "PartitionedProcedureStoreModel" 44 "PartitionedProcedureStoreModel" "y" "[I") ∈ TBL := tb2 169 rfl rfl
set_option maxRecDepth 20000 in
theorem LK_445 : (Cond.fieldLink "PartitionedProcedureStoreModel" 47 "PartitionedProcedureStoreModel" "z" "[I") ∈ TBL := tb2 170 rfl rfl
set_option maxRecDepth 20000 in
theorem LK_446 : (Cond.fieldLink "PartitionedProcedureStoreModel" 50 "PartitionedProcedureStoreModel" "drafting" "I") ∈ TBL := tb2 171 rfl rfl
set_option maxRecDepth 20000 in
theorem LK_447 : (Cond.fieldLink "PartitionedProcedureStoreModel" 54 "PartitionedProcedureStoreModel" "procedure" "[I") ∈ TBL := tb2 173 rfl rfl
set_option maxRecDepth 20000 in
theorem LK_448 : (Cond.fieldLink "PartitionedProcedureStoreModel" 57 "PartitionedProcedureStoreModel" "arguments" "[I") ∈ TBL := tb2 174 rfl rfl
set_option maxRecDepth 20000 in
theorem LK_449 : (Cond.fieldLink "PartitionedProcedureStoreModel" 60 "PartitionedProcedureStoreModel" "done" "[Z") ∈ TBL := tb2 175 rfl rfl
set_option maxRecDepth 20000 in
theorem LK_450 : (Cond.fieldLink "PartitionedProcedureStoreModel" 63 "PartitionedProcedureStoreModel" "came" "[I") ∈ TBL := tb2 176 rfl rfl
set_option maxRecDepth 20000 in
theorem LK_451 : (Cond.fieldLink "PartitionedProcedureStoreModel" 66 "PartitionedProcedureStoreModel" "fault" "[I") ∈ TBL := tb2 177 rfl rfl
set_option maxRecDepth 20000 in
theorem LK_452 : (Cond.fieldLink "PartitionedProcedureStoreModel" 69 "PartitionedProcedureStoreModel" "outs" "[I") ∈ TBL := tb2 178 rfl rfl
set_option maxRecDepth 20000 in
theorem LK_453 : (Cond.fieldLink "PartitionedProcedureStoreModel" 72 "PartitionedProcedureStoreModel" "out" "[I") ∈ TBL := tb2 179 rfl rfl
set_option maxRecDepth 20000 in
theorem LK_454 : (Cond.fieldLink "PartitionedProcedureStoreModel" 75 "PartitionedProcedureStoreModel" "left" "[I") ∈ TBL := tb2 183 rfl rfl
set_option maxRecDepth 20000 in
theorem LK_455 : (Cond.fieldLink "PartitionedProcedureStoreModel" 78 "PartitionedProcedureStoreModel" "state" "[I") ∈ TBL := tb2 184 rfl rfl
set_option maxRecDepth 20000 in
theorem LK_456 : (Cond.fieldLink "PartitionedProcedureStoreModel" 81 "PartitionedProcedureStoreModel" "command" "[I") ∈ TBL := tb2 185 rfl rfl
set_option maxRecDepth 20000 in
theorem LK_457 : (Cond.fieldLink "PartitionedProcedureStoreModel" 84 "PartitionedProcedureStoreModel" "shownOuts" "[I") ∈ TBL := tb2 186 rfl rfl
set_option maxRecDepth 20000 in
theorem LK_458 : (Cond.fieldLink "PartitionedProcedureStoreModel" 87 "PartitionedProcedureStoreModel" "shownOut" "[I") ∈ TBL := tb2 187 rfl rfl
set_option maxRecDepth 20000 in
theorem LK_459 : (Cond.fieldLink "PartitionedProcedureStoreModel" 90 "PartitionedProcedureStoreModel" "shownFault" "[I") ∈ TBL := tb2 188 rfl rfl
set_option maxRecDepth 20000 in
theorem LK_460 : (Cond.fieldLink "PartitionedProcedureStoreModel" 93 "PartitionedProcedureStoreModel" "register" "[I") ∈ TBL := tb2 189 rfl rfl
set_option maxRecDepth 20000 in
theorem LK_461 : (Cond.methodLink "PartitionedProcedureStoreModel" 99 ⟨"PartitionedProcedureStoreModel", "outside", "(II)Z"⟩) ∈ TBL := tb3 22 rfl rfl
set_option maxRecDepth 20000 in
theorem LK_462 : (Cond.static ⟨"PartitionedProcedureStoreModel", "outside", "(II)Z"⟩) ∈ TBL := tb3 23 rfl rfl
set_option maxRecDepth 20000 in
theorem LK_463 : (Cond.initialized "PartitionedProcedureStoreModel") ∈ TBL := tb0 12 rfl rfl
set_option maxRecDepth 20000 in
theorem LK_code_M_outside : Cond.code y_M_outside b_M_outside 2 (some .boolean) ∈ TBL := tb3 24 rfl rfl
set_option maxRecDepth 20000 in
theorem LK_465 : (Cond.fieldLink "PartitionedProcedureStoreModel" 133 "PartitionedProcedureStoreModel" "last" "I") ∈ TBL := tb2 172 rfl rfl
set_option maxRecDepth 20000 in
theorem LK_466 : (Cond.fieldLink "PartitionedProcedureStoreModel" 120 "PartitionedProcedureStoreModel" "complete" "I") ∈ TBL := tb2 181 rfl rfl
set_option maxRecDepth 20000 in
theorem LK_467 : (Cond.methodLink "PartitionedProcedureStoreModel" 139 ⟨"PartitionedProcedureStoreModel", "logged", "()I"⟩) ∈ TBL := tb3 37 rfl rfl
set_option maxRecDepth 20000 in
theorem LK_468 : (Cond.instanceMethod ⟨"PartitionedProcedureStoreModel", "logged", "()I"⟩) ∈ TBL := tb3 39 rfl rfl
set_option maxRecDepth 20000 in
theorem LK_469 : (Cond.selects "PartitionedProcedureStoreModel" ⟨"PartitionedProcedureStoreModel", "logged", "()I"⟩ ⟨"PartitionedProcedureStoreModel", "logged", "()I"⟩) ∈ TBL := tbS 24 rfl rfl
set_option maxRecDepth 20000 in
theorem LK_code_M_logged : Cond.code y_M_logged b_M_logged 3 (some .int) ∈ TBL := tb3 40 rfl rfl
set_option maxRecDepth 20000 in
theorem LK_471 : (Cond.methodLink "PartitionedProcedureStoreModel" 143 ⟨"PartitionedProcedureStoreModel", "next", "(I)I"⟩) ∈ TBL := tb3 41 rfl rfl
set_option maxRecDepth 20000 in
theorem LK_472 : (Cond.instanceMethod ⟨"PartitionedProcedureStoreModel", "next", "(I)I"⟩) ∈ TBL := tb3 43 rfl rfl
set_option maxRecDepth 20000 in
theorem LK_473 : (Cond.selects "PartitionedProcedureStoreModel" ⟨"PartitionedProcedureStoreModel", "next", "(I)I"⟩ ⟨"PartitionedProcedureStoreModel", "next", "(I)I"⟩) ∈ TBL := tbS 25 rfl rfl
set_option maxRecDepth 20000 in
theorem LK_code_M_next : Cond.code y_M_next b_M_next 2 (some .int) ∈ TBL := tb3 44 rfl rfl
set_option maxRecDepth 20000 in
theorem LK_475 : (Cond.methodLink "PartitionedProcedureStoreModel" 103 ⟨"PartitionedProcedureStoreModel", "partitionOf", "(I)I"⟩) ∈ TBL := tb3 53 rfl rfl
set_option maxRecDepth 20000 in
theorem LK_476 : (Cond.instanceMethod ⟨"PartitionedProcedureStoreModel", "partitionOf", "(I)I"⟩) ∈ TBL := tb3 55 rfl rfl
set_option maxRecDepth 20000 in
theorem LK_477 : (Cond.selects "PartitionedProcedureStoreModel" ⟨"PartitionedProcedureStoreModel", "partitionOf", "(I)I"⟩ ⟨"PartitionedProcedureStoreModel", "partitionOf", "(I)I"⟩) ∈ TBL := tbS 27 rfl rfl
set_option maxRecDepth 20000 in
theorem LK_code_M_partitionOf : Cond.code y_M_partitionOf b_M_partitionOf 3 (some .int) ∈ TBL := tb3 56 rfl rfl
set_option maxRecDepth 20000 in
theorem LK_479 : (Cond.methodLink "PartitionedProcedureStoreModel" 107 ⟨"PartitionedProcedureStoreModel", "foreign", "(II)Z"⟩) ∈ TBL := tb3 77 rfl rfl
set_option maxRecDepth 20000 in
theorem LK_480 : (Cond.instanceMethod ⟨"PartitionedProcedureStoreModel", "foreign", "(II)Z"⟩) ∈ TBL := tb3 79 rfl rfl
set_option maxRecDepth 20000 in
theorem LK_481 : (Cond.selects "PartitionedProcedureStoreModel" ⟨"PartitionedProcedureStoreModel", "foreign", "(II)Z"⟩ ⟨"PartitionedProcedureStoreModel", "foreign", "(II)Z"⟩) ∈ TBL := tbS 33 rfl rfl
set_option maxRecDepth 20000 in
theorem LK_code_M_foreign : Cond.code y_M_foreign b_M_foreign 3 (some .boolean) ∈ TBL := tb3 80 rfl rfl
set_option maxRecDepth 20000 in
theorem LK_483 : (Cond.methodLink "PartitionedProcedureStoreModel" 110 ⟨"PartitionedProcedureStoreModel", "put", "(IZI)Z"⟩) ∈ TBL := tb3 81 rfl rfl
set_option maxRecDepth 20000 in
theorem LK_484 : (Cond.instanceMethod ⟨"PartitionedProcedureStoreModel", "put", "(IZI)Z"⟩) ∈ TBL := tb3 83 rfl rfl
set_option maxRecDepth 20000 in
theorem LK_485 : (Cond.selects "PartitionedProcedureStoreModel" ⟨"PartitionedProcedureStoreModel", "put", "(IZI)Z"⟩ ⟨"PartitionedProcedureStoreModel", "put", "(IZI)Z"⟩) ∈ TBL := tbS 34 rfl rfl
set_option maxRecDepth 20000 in
theorem LK_code_M_put : Cond.code y_M_put b_M_put 4 (some .boolean) ∈ TBL := tb3 84 rfl rfl
set_option maxRecDepth 20000 in
theorem LK_487 : (Cond.methodLink "PartitionedProcedureStoreModel" 114 ⟨"PartitionedProcedureStoreModel", "statement", "(II)Z"⟩) ∈ TBL := tb3 73 rfl rfl
set_option maxRecDepth 20000 in
theorem LK_488 : (Cond.instanceMethod ⟨"PartitionedProcedureStoreModel", "statement", "(II)Z"⟩) ∈ TBL := tb3 75 rfl rfl
set_option maxRecDepth 20000 in
theorem LK_489 : (Cond.selects "PartitionedProcedureStoreModel" ⟨"PartitionedProcedureStoreModel", "statement", "(II)Z"⟩ ⟨"PartitionedProcedureStoreModel", "statement", "(II)Z"⟩) ∈ TBL := tbS 32 rfl rfl
set_option maxRecDepth 20000 in
theorem LK_code_M_statement : Cond.code y_M_statement b_M_statement 5 (some .boolean) ∈ TBL := tb3 76 rfl rfl
set_option maxRecDepth 20000 in
theorem LK_491 : (Cond.methodLink "PartitionedProcedureStoreModel" 123 ⟨"PartitionedProcedureStoreModel", "execute", "(I)V"⟩) ∈ TBL := tb3 69 rfl rfl
set_option maxRecDepth 20000 in
theorem LK_492 : (Cond.instanceMethod ⟨"PartitionedProcedureStoreModel", "execute", "(I)V"⟩) ∈ TBL := tb3 71 rfl rfl
set_option maxRecDepth 20000 in
theorem LK_493 : (Cond.selects "PartitionedProcedureStoreModel" ⟨"PartitionedProcedureStoreModel", "execute", "(I)V"⟩ ⟨"PartitionedProcedureStoreModel", "execute", "(I)V"⟩) ∈ TBL := tbS 31 rfl rfl
set_option maxRecDepth 20000 in
theorem LK_code_M_execute : Cond.code y_M_execute b_M_execute 5 none ∈ TBL := tb3 72 rfl rfl
set_option maxRecDepth 20000 in
theorem LK_495 : (Cond.fieldLink "PartitionedProcedureStoreModel" 117 "PartitionedProcedureStoreModel" "durable" "I") ∈ TBL := tb2 180 rfl rfl
set_option maxRecDepth 20000 in
theorem LK_496 : (Cond.methodLink "PartitionedProcedureStoreModel" 136 ⟨"PartitionedProcedureStoreModel", "tellClients", "()V"⟩) ∈ TBL := tb3 85 rfl rfl
set_option maxRecDepth 20000 in
theorem LK_497 : (Cond.instanceMethod ⟨"PartitionedProcedureStoreModel", "tellClients", "()V"⟩) ∈ TBL := tb3 87 rfl rfl
set_option maxRecDepth 20000 in
theorem LK_498 : (Cond.selects "PartitionedProcedureStoreModel" ⟨"PartitionedProcedureStoreModel", "tellClients", "()V"⟩ ⟨"PartitionedProcedureStoreModel", "tellClients", "()V"⟩) ∈ TBL := tbS 35 rfl rfl
set_option maxRecDepth 20000 in
theorem LK_code_M_tellClients : Cond.code y_M_tellClients b_M_tellClients 4 none ∈ TBL := tb3 88 rfl rfl
set_option maxRecDepth 20000 in
theorem LK_500 : (Cond.fieldLink "PartitionedProcedureStoreModel" 127 "PartitionedProcedureStoreModel" "underWay" "I") ∈ TBL := tb2 182 rfl rfl
set_option maxRecDepth 20000 in
theorem LK_501 : (Cond.methodLink "PartitionedProcedureStoreModel" 130 ⟨"PartitionedProcedureStoreModel", "replay", "(I)V"⟩) ∈ TBL := tb3 65 rfl rfl
set_option maxRecDepth 20000 in
theorem LK_502 : (Cond.instanceMethod ⟨"PartitionedProcedureStoreModel", "replay", "(I)V"⟩) ∈ TBL := tb3 67 rfl rfl
set_option maxRecDepth 20000 in
theorem LK_503 : (Cond.selects "PartitionedProcedureStoreModel" ⟨"PartitionedProcedureStoreModel", "replay", "(I)V"⟩ ⟨"PartitionedProcedureStoreModel", "replay", "(I)V"⟩) ∈ TBL := tbS 30 rfl rfl
set_option maxRecDepth 20000 in
theorem LK_code_M_replay : Cond.code y_M_replay b_M_replay 3 none ∈ TBL := tb3 68 rfl rfl
set_option maxRecDepth 20000 in
theorem LK_505 : (Cond.methodLink "PartitionedProcedureStoreModel" 152 ⟨"PartitionedProcedureStoreModel", "completeIfDone", "()V"⟩) ∈ TBL := tb3 61 rfl rfl
set_option maxRecDepth 20000 in
theorem LK_506 : (Cond.instanceMethod ⟨"PartitionedProcedureStoreModel", "completeIfDone", "()V"⟩) ∈ TBL := tb3 63 rfl rfl
set_option maxRecDepth 20000 in
theorem LK_507 : (Cond.selects "PartitionedProcedureStoreModel" ⟨"PartitionedProcedureStoreModel", "completeIfDone", "()V"⟩ ⟨"PartitionedProcedureStoreModel", "completeIfDone", "()V"⟩) ∈ TBL := tbS 29 rfl rfl
set_option maxRecDepth 20000 in
theorem LK_code_M_completeIfDone : Cond.code y_M_completeIfDone b_M_completeIfDone 2 none ∈ TBL := tb3 64 rfl rfl
set_option maxRecDepth 20000 in
theorem LK_509 : (Cond.methodLink "PartitionedProcedureStoreModel" 149 ⟨"PartitionedProcedureStoreModel", "rowsOf", "(I)I"⟩) ∈ TBL := tb3 57 rfl rfl
set_option maxRecDepth 20000 in
theorem LK_510 : (Cond.instanceMethod ⟨"PartitionedProcedureStoreModel", "rowsOf", "(I)I"⟩) ∈ TBL := tb3 59 rfl rfl
set_option maxRecDepth 20000 in
theorem LK_511 : (Cond.selects "PartitionedProcedureStoreModel" ⟨"PartitionedProcedureStoreModel", "rowsOf", "(I)I"⟩ ⟨"PartitionedProcedureStoreModel", "rowsOf", "(I)I"⟩) ∈ TBL := tbS 28 rfl rfl
set_option maxRecDepth 20000 in
theorem LK_code_M_rowsOf : Cond.code y_M_rowsOf b_M_rowsOf 4 (some .int) ∈ TBL := tb3 60 rfl rfl
set_option maxRecDepth 20000 in
theorem LK_513 : (Cond.methodLink "PartitionedProcedureStoreModel" 146 ⟨"PartitionedProcedureStoreModel", "waits", "(II)Z"⟩) ∈ TBL := tb3 49 rfl rfl
set_option maxRecDepth 20000 in
theorem LK_514 : (Cond.instanceMethod ⟨"PartitionedProcedureStoreModel", "waits", "(II)Z"⟩) ∈ TBL := tb3 51 rfl rfl
set_option maxRecDepth 20000 in
theorem LK_515 : (Cond.selects "PartitionedProcedureStoreModel" ⟨"PartitionedProcedureStoreModel", "waits", "(II)Z"⟩ ⟨"PartitionedProcedureStoreModel", "waits", "(II)Z"⟩) ∈ TBL := tbS 26 rfl rfl
set_option maxRecDepth 20000 in
theorem LK_code_M_waits : Cond.code y_M_waits b_M_waits 3 (some .boolean) ∈ TBL := tb3 52 rfl rfl
set_option maxRecDepth 20000 in
theorem LK_517 : (Cond.constantLong "PartitionedProcedureStoreModel" 155 (1000000000000 : Int64)) ∈ TBL := tb3 113 rfl rfl
set_option maxRecDepth 20000 in
theorem LK_518 : (Cond.methodLink "PartitionedProcedureStoreModel" 157 ⟨"PartitionedProcedureStoreModel", "stalledAt", "()I"⟩) ∈ TBL := tb3 134 rfl rfl
set_option maxRecDepth 20000 in
theorem LK_519 : (Cond.instanceMethod ⟨"PartitionedProcedureStoreModel", "stalledAt", "()I"⟩) ∈ TBL := tb3 136 rfl rfl
set_option maxRecDepth 20000 in
theorem LK_520 : (Cond.selects "PartitionedProcedureStoreModel" ⟨"PartitionedProcedureStoreModel", "stalledAt", "()I"⟩ ⟨"PartitionedProcedureStoreModel", "stalledAt", "()I"⟩) ∈ TBL := tbS 36 rfl rfl
set_option maxRecDepth 20000 in
theorem LK_code_M_stalledAt : Cond.code y_M_stalledAt b_M_stalledAt 2 (some .int) ∈ TBL := tb3 137 rfl rfl
set_option maxRecDepth 20000 in
theorem LK_522 : (Cond.classLink "PartitionedProcedureStoreLaw" 7 "PartitionedProcedureStore") ∈ TBL := tb0 19 rfl rfl
set_option maxRecDepth 20000 in
theorem LK_523 : (Cond.instantiable "PartitionedProcedureStore" 13) ∈ TBL := tb0 20 rfl rfl
set_option maxRecDepth 20000 in
theorem LK_524 : (Cond.methodLink "PartitionedProcedureStoreLaw" 9 ⟨"PartitionedProcedureStoreLaw", "cell", "([II)I"⟩) ∈ TBL := tb2 148 rfl rfl
set_option maxRecDepth 20000 in
theorem LK_525 : (Cond.static ⟨"PartitionedProcedureStoreLaw", "cell", "([II)I"⟩) ∈ TBL := tb2 149 rfl rfl
set_option maxRecDepth 20000 in
theorem LK_526 : (Cond.initialized "PartitionedProcedureStoreLaw") ∈ TBL := tb0 0 rfl rfl
set_option maxRecDepth 20000 in
theorem LK_code_L_cell : Cond.code y_L_cell b_L_cell 2 (some .int) ∈ TBL := tb2 150 rfl rfl
set_option maxRecDepth 20000 in
theorem LK_code_S_init : Cond.code y_S_init b_S_init 3 none ∈ TBL := tb0 23 rfl rfl
set_option maxRecDepth 20000 in
theorem LK_529 : (Cond.methodLink "PartitionedProcedureStoreLaw" 15 ⟨"PartitionedProcedureStore", "<init>", "(I)V"⟩) ∈ TBL := tb0 21 rfl rfl
set_option maxRecDepth 20000 in
theorem LK_530 : (Cond.instanceMethod ⟨"PartitionedProcedureStore", "<init>", "(I)V"⟩) ∈ TBL := tb0 22 rfl rfl
set_option maxRecDepth 20000 in
theorem LK_531 : (Cond.classLink "PartitionedProcedureStoreLaw" 18 "PartitionedProcedureStoreModel") ∈ TBL := tb2 151 rfl rfl
set_option maxRecDepth 20000 in
theorem LK_532 : (Cond.instantiable "PartitionedProcedureStoreModel" 33) ∈ TBL := tb2 152 rfl rfl
set_option maxRecDepth 20000 in
theorem LK_code_M_init : Cond.code y_M_init b_M_init 2 none ∈ TBL := tb2 155 rfl rfl
set_option maxRecDepth 20000 in
theorem LK_534 : (Cond.methodLink "PartitionedProcedureStoreLaw" 20 ⟨"PartitionedProcedureStoreModel", "<init>", "(I)V"⟩) ∈ TBL := tb2 153 rfl rfl
set_option maxRecDepth 20000 in
theorem LK_535 : (Cond.instanceMethod ⟨"PartitionedProcedureStoreModel", "<init>", "(I)V"⟩) ∈ TBL := tb2 154 rfl rfl
set_option maxRecDepth 20000 in
theorem LK_536 : (Cond.methodLink "PartitionedProcedureStoreLaw" 21 ⟨"PartitionedProcedureStore", "open", "(IZ)I"⟩) ∈ TBL := tb0 239 rfl rfl
set_option maxRecDepth 20000 in
theorem LK_537 : (Cond.instanceMethod ⟨"PartitionedProcedureStore", "open", "(IZ)I"⟩) ∈ TBL := tb1 0 rfl rfl
set_option maxRecDepth 20000 in
theorem LK_538 : (Cond.selects "PartitionedProcedureStore" ⟨"PartitionedProcedureStore", "open", "(IZ)I"⟩ ⟨"PartitionedProcedureStore", "open", "(IZ)I"⟩) ∈ TBL := tb1 1 rfl rfl
set_option maxRecDepth 20000 in
theorem LK_code_S_open : Cond.code y_S_open b_S_open 3 (some .int) ∈ TBL := tb1 2 rfl rfl
set_option maxRecDepth 20000 in
theorem LK_540 : (Cond.methodLink "PartitionedProcedureStoreLaw" 25 ⟨"PartitionedProcedureStoreModel", "open", "(IZ)I"⟩) ∈ TBL := tb3 18 rfl rfl
set_option maxRecDepth 20000 in
theorem LK_541 : (Cond.instanceMethod ⟨"PartitionedProcedureStoreModel", "open", "(IZ)I"⟩) ∈ TBL := tb3 19 rfl rfl
set_option maxRecDepth 20000 in
theorem LK_542 : (Cond.selects "PartitionedProcedureStoreModel" ⟨"PartitionedProcedureStoreModel", "open", "(IZ)I"⟩ ⟨"PartitionedProcedureStoreModel", "open", "(IZ)I"⟩) ∈ TBL := tb3 20 rfl rfl
set_option maxRecDepth 20000 in
theorem LK_code_M_open : Cond.code y_M_open b_M_open 3 (some .int) ∈ TBL := tb3 21 rfl rfl
set_option maxRecDepth 20000 in
theorem LK_544 : (Cond.methodLink "PartitionedProcedureStoreLaw" 26 ⟨"PartitionedProcedureStore", "add", "(IIII)I"⟩) ∈ TBL := tb1 14 rfl rfl
set_option maxRecDepth 20000 in
theorem LK_545 : (Cond.instanceMethod ⟨"PartitionedProcedureStore", "add", "(IIII)I"⟩) ∈ TBL := tb1 15 rfl rfl
set_option maxRecDepth 20000 in
theorem LK_546 : (Cond.selects "PartitionedProcedureStore" ⟨"PartitionedProcedureStore", "add", "(IIII)I"⟩ ⟨"PartitionedProcedureStore", "add", "(IIII)I"⟩) ∈ TBL := tb1 16 rfl rfl
set_option maxRecDepth 20000 in
theorem LK_code_S_add : Cond.code y_S_add b_S_add 6 (some .int) ∈ TBL := tb1 17 rfl rfl
set_option maxRecDepth 20000 in
theorem LK_548 : (Cond.methodLink "PartitionedProcedureStoreLaw" 30 ⟨"PartitionedProcedureStoreModel", "add", "(IIII)I"⟩) ∈ TBL := tb3 25 rfl rfl
set_option maxRecDepth 20000 in
theorem LK_549 : (Cond.instanceMethod ⟨"PartitionedProcedureStoreModel", "add", "(IIII)I"⟩) ∈ TBL := tb3 26 rfl rfl
set_option maxRecDepth 20000 in
theorem LK_550 : (Cond.selects "PartitionedProcedureStoreModel" ⟨"PartitionedProcedureStoreModel", "add", "(IIII)I"⟩ ⟨"PartitionedProcedureStoreModel", "add", "(IIII)I"⟩) ∈ TBL := tb3 27 rfl rfl
set_option maxRecDepth 20000 in
theorem LK_code_M_add : Cond.code y_M_add b_M_add 7 (some .int) ∈ TBL := tb3 28 rfl rfl
set_option maxRecDepth 20000 in
theorem LK_552 : (Cond.methodLink "PartitionedProcedureStoreLaw" 31 ⟨"PartitionedProcedureStore", "deploy", "()I"⟩) ∈ TBL := tb1 103 rfl rfl
set_option maxRecDepth 20000 in
theorem LK_553 : (Cond.instanceMethod ⟨"PartitionedProcedureStore", "deploy", "()I"⟩) ∈ TBL := tb1 104 rfl rfl
set_option maxRecDepth 20000 in
theorem LK_554 : (Cond.selects "PartitionedProcedureStore" ⟨"PartitionedProcedureStore", "deploy", "()I"⟩ ⟨"PartitionedProcedureStore", "deploy", "()I"⟩) ∈ TBL := tb1 105 rfl rfl
set_option maxRecDepth 20000 in
theorem LK_code_S_deploy : Cond.code y_S_deploy b_S_deploy 2 (some .int) ∈ TBL := tb1 106 rfl rfl
set_option maxRecDepth 20000 in
theorem LK_556 : (Cond.methodLink "PartitionedProcedureStoreLaw" 35 ⟨"PartitionedProcedureStoreModel", "deploy", "()I"⟩) ∈ TBL := tb3 29 rfl rfl
set_option maxRecDepth 20000 in
theorem LK_557 : (Cond.instanceMethod ⟨"PartitionedProcedureStoreModel", "deploy", "()I"⟩) ∈ TBL := tb3 30 rfl rfl
set_option maxRecDepth 20000 in
theorem LK_558 : (Cond.selects "PartitionedProcedureStoreModel" ⟨"PartitionedProcedureStoreModel", "deploy", "()I"⟩ ⟨"PartitionedProcedureStoreModel", "deploy", "()I"⟩) ∈ TBL := tb3 31 rfl rfl
set_option maxRecDepth 20000 in
theorem LK_code_M_deploy : Cond.code y_M_deploy b_M_deploy 5 (some .int) ∈ TBL := tb3 32 rfl rfl
set_option maxRecDepth 20000 in
theorem LK_560 : (Cond.methodLink "PartitionedProcedureStoreLaw" 36 ⟨"PartitionedProcedureStore", "invoke", "(IIIII)I"⟩) ∈ TBL := tb1 127 rfl rfl
set_option maxRecDepth 20000 in
theorem LK_561 : (Cond.instanceMethod ⟨"PartitionedProcedureStore", "invoke", "(IIIII)I"⟩) ∈ TBL := tb1 128 rfl rfl
set_option maxRecDepth 20000 in
theorem LK_562 : (Cond.selects "PartitionedProcedureStore" ⟨"PartitionedProcedureStore", "invoke", "(IIIII)I"⟩ ⟨"PartitionedProcedureStore", "invoke", "(IIIII)I"⟩) ∈ TBL := tb1 129 rfl rfl
set_option maxRecDepth 20000 in
theorem LK_code_S_invoke : Cond.code y_S_invoke b_S_invoke 7 (some .int) ∈ TBL := tb1 130 rfl rfl
set_option maxRecDepth 20000 in
theorem LK_564 : (Cond.methodLink "PartitionedProcedureStoreLaw" 40 ⟨"PartitionedProcedureStoreModel", "invoke", "(IIIII)I"⟩) ∈ TBL := tb3 33 rfl rfl
set_option maxRecDepth 20000 in
theorem LK_565 : (Cond.instanceMethod ⟨"PartitionedProcedureStoreModel", "invoke", "(IIIII)I"⟩) ∈ TBL := tb3 34 rfl rfl
set_option maxRecDepth 20000 in
theorem LK_566 : (Cond.selects "PartitionedProcedureStoreModel" ⟨"PartitionedProcedureStoreModel", "invoke", "(IIIII)I"⟩ ⟨"PartitionedProcedureStoreModel", "invoke", "(IIIII)I"⟩) ∈ TBL := tb3 35 rfl rfl
set_option maxRecDepth 20000 in
theorem LK_code_M_invoke : Cond.code y_M_invoke b_M_invoke 7 (some .int) ∈ TBL := tb3 36 rfl rfl
set_option maxRecDepth 20000 in
theorem LK_568 : (Cond.methodLink "PartitionedProcedureStoreLaw" 41 ⟨"PartitionedProcedureStore", "step", "(I)I"⟩) ∈ TBL := tb1 178 rfl rfl
set_option maxRecDepth 20000 in
theorem LK_569 : (Cond.instanceMethod ⟨"PartitionedProcedureStore", "step", "(I)I"⟩) ∈ TBL := tb1 179 rfl rfl
set_option maxRecDepth 20000 in
theorem LK_570 : (Cond.selects "PartitionedProcedureStore" ⟨"PartitionedProcedureStore", "step", "(I)I"⟩ ⟨"PartitionedProcedureStore", "step", "(I)I"⟩) ∈ TBL := tb1 180 rfl rfl
set_option maxRecDepth 20000 in
theorem LK_code_S_step : Cond.code y_S_step b_S_step 3 (some .int) ∈ TBL := tb1 181 rfl rfl
set_option maxRecDepth 20000 in
theorem LK_572 : (Cond.methodLink "PartitionedProcedureStoreLaw" 45 ⟨"PartitionedProcedureStoreModel", "step", "(I)I"⟩) ∈ TBL := tb3 45 rfl rfl
set_option maxRecDepth 20000 in
theorem LK_573 : (Cond.instanceMethod ⟨"PartitionedProcedureStoreModel", "step", "(I)I"⟩) ∈ TBL := tb3 46 rfl rfl
set_option maxRecDepth 20000 in
theorem LK_574 : (Cond.selects "PartitionedProcedureStoreModel" ⟨"PartitionedProcedureStoreModel", "step", "(I)I"⟩ ⟨"PartitionedProcedureStoreModel", "step", "(I)I"⟩) ∈ TBL := tb3 47 rfl rfl
set_option maxRecDepth 20000 in
theorem LK_code_M_step : Cond.code y_M_step b_M_step 3 (some .int) ∈ TBL := tb3 48 rfl rfl
set_option maxRecDepth 20000 in
theorem LK_576 : (Cond.methodLink "PartitionedProcedureStoreLaw" 46 ⟨"PartitionedProcedureStore", "flush", "()I"⟩) ∈ TBL := tb2 80 rfl rfl
set_option maxRecDepth 20000 in
theorem LK_577 : (Cond.instanceMethod ⟨"PartitionedProcedureStore", "flush", "()I"⟩) ∈ TBL := tb2 81 rfl rfl
set_option maxRecDepth 20000 in
theorem LK_578 : (Cond.selects "PartitionedProcedureStore" ⟨"PartitionedProcedureStore", "flush", "()I"⟩ ⟨"PartitionedProcedureStore", "flush", "()I"⟩) ∈ TBL := tb2 82 rfl rfl
set_option maxRecDepth 20000 in
theorem LK_code_S_flush : Cond.code y_S_flush b_S_flush 1 (some .int) ∈ TBL := tb2 83 rfl rfl
set_option maxRecDepth 20000 in
theorem LK_580 : (Cond.methodLink "PartitionedProcedureStoreLaw" 49 ⟨"PartitionedProcedureStoreModel", "flush", "()I"⟩) ∈ TBL := tb3 89 rfl rfl
set_option maxRecDepth 20000 in
theorem LK_581 : (Cond.instanceMethod ⟨"PartitionedProcedureStoreModel", "flush", "()I"⟩) ∈ TBL := tb3 90 rfl rfl
set_option maxRecDepth 20000 in
theorem LK_582 : (Cond.selects "PartitionedProcedureStoreModel" ⟨"PartitionedProcedureStoreModel", "flush", "()I"⟩ ⟨"PartitionedProcedureStoreModel", "flush", "()I"⟩) ∈ TBL := tb3 91 rfl rfl
set_option maxRecDepth 20000 in
theorem LK_code_M_flush : Cond.code y_M_flush b_M_flush 1 (some .int) ∈ TBL := tb3 92 rfl rfl
set_option maxRecDepth 20000 in
theorem LK_584 : (Cond.methodLink "PartitionedProcedureStoreLaw" 50 ⟨"PartitionedProcedureStore", "snapshot", "()I"⟩) ∈ TBL := tb2 84 rfl rfl
set_option maxRecDepth 20000 in
theorem LK_585 : (Cond.instanceMethod ⟨"PartitionedProcedureStore", "snapshot", "()I"⟩) ∈ TBL := tb2 85 rfl rfl
set_option maxRecDepth 20000 in
theorem LK_586 : (Cond.selects "PartitionedProcedureStore" ⟨"PartitionedProcedureStore", "snapshot", "()I"⟩ ⟨"PartitionedProcedureStore", "snapshot", "()I"⟩) ∈ TBL := tb2 86 rfl rfl
set_option maxRecDepth 20000 in
theorem LK_code_S_snapshot : Cond.code y_S_snapshot b_S_snapshot 5 (some .int) ∈ TBL := tb2 87 rfl rfl
set_option maxRecDepth 20000 in
theorem LK_588 : (Cond.methodLink "PartitionedProcedureStoreLaw" 53 ⟨"PartitionedProcedureStoreModel", "snapshot", "()I"⟩) ∈ TBL := tb3 93 rfl rfl
set_option maxRecDepth 20000 in
theorem LK_589 : (Cond.instanceMethod ⟨"PartitionedProcedureStoreModel", "snapshot", "()I"⟩) ∈ TBL := tb3 94 rfl rfl
set_option maxRecDepth 20000 in
theorem LK_590 : (Cond.selects "PartitionedProcedureStoreModel" ⟨"PartitionedProcedureStoreModel", "snapshot", "()I"⟩ ⟨"PartitionedProcedureStoreModel", "snapshot", "()I"⟩) ∈ TBL := tb3 95 rfl rfl
set_option maxRecDepth 20000 in
theorem LK_code_M_snapshot : Cond.code y_M_snapshot b_M_snapshot 1 (some .int) ∈ TBL := tb3 96 rfl rfl
set_option maxRecDepth 20000 in
theorem LK_592 : (Cond.methodLink "PartitionedProcedureStoreLaw" 54 ⟨"PartitionedProcedureStore", "scan", "(II)I"⟩) ∈ TBL := tb2 88 rfl rfl
set_option maxRecDepth 20000 in
theorem LK_593 : (Cond.instanceMethod ⟨"PartitionedProcedureStore", "scan", "(II)I"⟩) ∈ TBL := tb2 89 rfl rfl
set_option maxRecDepth 20000 in
theorem LK_594 : (Cond.selects "PartitionedProcedureStore" ⟨"PartitionedProcedureStore", "scan", "(II)I"⟩ ⟨"PartitionedProcedureStore", "scan", "(II)I"⟩) ∈ TBL := tb2 90 rfl rfl
set_option maxRecDepth 20000 in
theorem LK_code_S_scan : Cond.code y_S_scan b_S_scan 4 (some .int) ∈ TBL := tb2 91 rfl rfl
set_option maxRecDepth 20000 in
theorem LK_596 : (Cond.methodLink "PartitionedProcedureStoreLaw" 58 ⟨"PartitionedProcedureStoreModel", "scan", "(II)I"⟩) ∈ TBL := tb3 97 rfl rfl
set_option maxRecDepth 20000 in
theorem LK_597 : (Cond.instanceMethod ⟨"PartitionedProcedureStoreModel", "scan", "(II)I"⟩) ∈ TBL := tb3 98 rfl rfl
set_option maxRecDepth 20000 in
theorem LK_598 : (Cond.selects "PartitionedProcedureStoreModel" ⟨"PartitionedProcedureStoreModel", "scan", "(II)I"⟩ ⟨"PartitionedProcedureStoreModel", "scan", "(II)I"⟩) ∈ TBL := tb3 99 rfl rfl
set_option maxRecDepth 20000 in
theorem LK_code_M_scan : Cond.code y_M_scan b_M_scan 5 (some .int) ∈ TBL := tb3 100 rfl rfl
set_option maxRecDepth 20000 in
theorem LK_600 : (Cond.methodLink "PartitionedProcedureStoreLaw" 59 ⟨"PartitionedProcedureStore", "crash", "()I"⟩) ∈ TBL := tb2 92 rfl rfl
set_option maxRecDepth 20000 in
theorem LK_601 : (Cond.instanceMethod ⟨"PartitionedProcedureStore", "crash", "()I"⟩) ∈ TBL := tb2 93 rfl rfl
set_option maxRecDepth 20000 in
theorem LK_602 : (Cond.selects "PartitionedProcedureStore" ⟨"PartitionedProcedureStore", "crash", "()I"⟩ ⟨"PartitionedProcedureStore", "crash", "()I"⟩) ∈ TBL := tb2 94 rfl rfl
set_option maxRecDepth 20000 in
theorem LK_code_S_crash : Cond.code y_S_crash b_S_crash 5 (some .int) ∈ TBL := tb2 95 rfl rfl
set_option maxRecDepth 20000 in
theorem LK_604 : (Cond.methodLink "PartitionedProcedureStoreLaw" 62 ⟨"PartitionedProcedureStoreModel", "crash", "()I"⟩) ∈ TBL := tb3 101 rfl rfl
set_option maxRecDepth 20000 in
theorem LK_605 : (Cond.instanceMethod ⟨"PartitionedProcedureStoreModel", "crash", "()I"⟩) ∈ TBL := tb3 102 rfl rfl
set_option maxRecDepth 20000 in
theorem LK_606 : (Cond.selects "PartitionedProcedureStoreModel" ⟨"PartitionedProcedureStoreModel", "crash", "()I"⟩ ⟨"PartitionedProcedureStoreModel", "crash", "()I"⟩) ∈ TBL := tb3 103 rfl rfl
set_option maxRecDepth 20000 in
theorem LK_code_M_crash : Cond.code y_M_crash b_M_crash 2 (some .int) ∈ TBL := tb3 104 rfl rfl
set_option maxRecDepth 20000 in
theorem LK_608 : (Cond.methodLink "PartitionedProcedureStoreLaw" 63 ⟨"PartitionedProcedureStore", "answer", "(I)I"⟩) ∈ TBL := tb2 109 rfl rfl
set_option maxRecDepth 20000 in
theorem LK_609 : (Cond.instanceMethod ⟨"PartitionedProcedureStore", "answer", "(I)I"⟩) ∈ TBL := tb2 110 rfl rfl
set_option maxRecDepth 20000 in
theorem LK_610 : (Cond.selects "PartitionedProcedureStore" ⟨"PartitionedProcedureStore", "answer", "(I)I"⟩ ⟨"PartitionedProcedureStore", "answer", "(I)I"⟩) ∈ TBL := tb2 111 rfl rfl
set_option maxRecDepth 20000 in
theorem LK_code_S_answer : Cond.code y_S_answer b_S_answer 2 (some .int) ∈ TBL := tb2 112 rfl rfl
set_option maxRecDepth 20000 in
theorem LK_612 : (Cond.methodLink "PartitionedProcedureStoreLaw" 66 ⟨"PartitionedProcedureStoreModel", "answer", "(I)I"⟩) ∈ TBL := tb3 105 rfl rfl
set_option maxRecDepth 20000 in
theorem LK_613 : (Cond.instanceMethod ⟨"PartitionedProcedureStoreModel", "answer", "(I)I"⟩) ∈ TBL := tb3 106 rfl rfl
set_option maxRecDepth 20000 in
theorem LK_614 : (Cond.selects "PartitionedProcedureStoreModel" ⟨"PartitionedProcedureStoreModel", "answer", "(I)I"⟩ ⟨"PartitionedProcedureStoreModel", "answer", "(I)I"⟩) ∈ TBL := tb3 107 rfl rfl
set_option maxRecDepth 20000 in
theorem LK_code_M_answer : Cond.code y_M_answer b_M_answer 2 (some .int) ∈ TBL := tb3 108 rfl rfl
set_option maxRecDepth 20000 in
theorem LK_616 : (Cond.methodLink "PartitionedProcedureStoreLaw" 67 ⟨"PartitionedProcedureStore", "output", "(II)J"⟩) ∈ TBL := tb2 113 rfl rfl
set_option maxRecDepth 20000 in
theorem LK_617 : (Cond.instanceMethod ⟨"PartitionedProcedureStore", "output", "(II)J"⟩) ∈ TBL := tb2 114 rfl rfl
set_option maxRecDepth 20000 in
theorem LK_618 : (Cond.selects "PartitionedProcedureStore" ⟨"PartitionedProcedureStore", "output", "(II)J"⟩ ⟨"PartitionedProcedureStore", "output", "(II)J"⟩) ∈ TBL := tb2 115 rfl rfl
set_option maxRecDepth 20000 in
theorem LK_code_S_output : Cond.code y_S_output b_S_output 3 (some .long) ∈ TBL := tb2 116 rfl rfl
set_option maxRecDepth 20000 in
theorem LK_620 : (Cond.methodLink "PartitionedProcedureStoreLaw" 71 ⟨"PartitionedProcedureStoreModel", "output", "(II)J"⟩) ∈ TBL := tb3 109 rfl rfl
set_option maxRecDepth 20000 in
theorem LK_621 : (Cond.instanceMethod ⟨"PartitionedProcedureStoreModel", "output", "(II)J"⟩) ∈ TBL := tb3 110 rfl rfl
set_option maxRecDepth 20000 in
theorem LK_622 : (Cond.selects "PartitionedProcedureStoreModel" ⟨"PartitionedProcedureStoreModel", "output", "(II)J"⟩ ⟨"PartitionedProcedureStoreModel", "output", "(II)J"⟩) ∈ TBL := tb3 111 rfl rfl
set_option maxRecDepth 20000 in
theorem LK_code_M_output : Cond.code y_M_output b_M_output 3 (some .long) ∈ TBL := tb3 112 rfl rfl
set_option maxRecDepth 20000 in
theorem LK_624 : (Cond.methodLink "PartitionedProcedureStoreLaw" 72 ⟨"PartitionedProcedureStore", "row", "(I)J"⟩) ∈ TBL := tb2 124 rfl rfl
set_option maxRecDepth 20000 in
theorem LK_625 : (Cond.instanceMethod ⟨"PartitionedProcedureStore", "row", "(I)J"⟩) ∈ TBL := tb2 125 rfl rfl
set_option maxRecDepth 20000 in
theorem LK_626 : (Cond.selects "PartitionedProcedureStore" ⟨"PartitionedProcedureStore", "row", "(I)J"⟩ ⟨"PartitionedProcedureStore", "row", "(I)J"⟩) ∈ TBL := tb2 126 rfl rfl
set_option maxRecDepth 20000 in
theorem LK_code_S_row : Cond.code y_S_row b_S_row 2 (some .long) ∈ TBL := tb2 127 rfl rfl
set_option maxRecDepth 20000 in
theorem LK_628 : (Cond.methodLink "PartitionedProcedureStoreLaw" 76 ⟨"PartitionedProcedureStoreModel", "row", "(I)J"⟩) ∈ TBL := tb3 114 rfl rfl
set_option maxRecDepth 20000 in
theorem LK_629 : (Cond.instanceMethod ⟨"PartitionedProcedureStoreModel", "row", "(I)J"⟩) ∈ TBL := tb3 115 rfl rfl
set_option maxRecDepth 20000 in
theorem LK_630 : (Cond.selects "PartitionedProcedureStoreModel" ⟨"PartitionedProcedureStoreModel", "row", "(I)J"⟩ ⟨"PartitionedProcedureStoreModel", "row", "(I)J"⟩) ∈ TBL := tb3 116 rfl rfl
set_option maxRecDepth 20000 in
theorem LK_code_M_row : Cond.code y_M_row b_M_row 2 (some .long) ∈ TBL := tb3 117 rfl rfl
set_option maxRecDepth 20000 in
theorem LK_632 : (Cond.methodLink "PartitionedProcedureStoreLaw" 77 ⟨"PartitionedProcedureStore", "replicated", "(I)J"⟩) ∈ TBL := tb2 128 rfl rfl
set_option maxRecDepth 20000 in
theorem LK_633 : (Cond.instanceMethod ⟨"PartitionedProcedureStore", "replicated", "(I)J"⟩) ∈ TBL := tb2 129 rfl rfl
set_option maxRecDepth 20000 in
theorem LK_634 : (Cond.selects "PartitionedProcedureStore" ⟨"PartitionedProcedureStore", "replicated", "(I)J"⟩ ⟨"PartitionedProcedureStore", "replicated", "(I)J"⟩) ∈ TBL := tb2 130 rfl rfl
set_option maxRecDepth 20000 in
theorem LK_code_S_replicated : Cond.code y_S_replicated b_S_replicated 2 (some .long) ∈ TBL := tb2 131 rfl rfl
set_option maxRecDepth 20000 in
theorem LK_636 : (Cond.methodLink "PartitionedProcedureStoreLaw" 80 ⟨"PartitionedProcedureStoreModel", "replicated", "(I)J"⟩) ∈ TBL := tb3 118 rfl rfl
set_option maxRecDepth 20000 in
theorem LK_637 : (Cond.instanceMethod ⟨"PartitionedProcedureStoreModel", "replicated", "(I)J"⟩) ∈ TBL := tb3 119 rfl rfl
set_option maxRecDepth 20000 in
theorem LK_638 : (Cond.selects "PartitionedProcedureStoreModel" ⟨"PartitionedProcedureStoreModel", "replicated", "(I)J"⟩ ⟨"PartitionedProcedureStoreModel", "replicated", "(I)J"⟩) ∈ TBL := tb3 120 rfl rfl
set_option maxRecDepth 20000 in
theorem LK_code_M_replicated : Cond.code y_M_replicated b_M_replicated 2 (some .long) ∈ TBL := tb3 121 rfl rfl
set_option maxRecDepth 20000 in
theorem LK_640 : (Cond.methodLink "PartitionedProcedureStoreLaw" 81 ⟨"PartitionedProcedureStore", "waiting", "(I)I"⟩) ∈ TBL := tb2 132 rfl rfl
set_option maxRecDepth 20000 in
theorem LK_641 : (Cond.instanceMethod ⟨"PartitionedProcedureStore", "waiting", "(I)I"⟩) ∈ TBL := tb2 133 rfl rfl
set_option maxRecDepth 20000 in
theorem LK_642 : (Cond.selects "PartitionedProcedureStore" ⟨"PartitionedProcedureStore", "waiting", "(I)I"⟩ ⟨"PartitionedProcedureStore", "waiting", "(I)I"⟩) ∈ TBL := tb2 134 rfl rfl
set_option maxRecDepth 20000 in
theorem LK_code_S_waiting : Cond.code y_S_waiting b_S_waiting 2 (some .int) ∈ TBL := tb2 135 rfl rfl
set_option maxRecDepth 20000 in
theorem LK_644 : (Cond.methodLink "PartitionedProcedureStoreLaw" 84 ⟨"PartitionedProcedureStoreModel", "waiting", "(I)I"⟩) ∈ TBL := tb3 122 rfl rfl
set_option maxRecDepth 20000 in
theorem LK_645 : (Cond.instanceMethod ⟨"PartitionedProcedureStoreModel", "waiting", "(I)I"⟩) ∈ TBL := tb3 123 rfl rfl
set_option maxRecDepth 20000 in
theorem LK_646 : (Cond.selects "PartitionedProcedureStoreModel" ⟨"PartitionedProcedureStoreModel", "waiting", "(I)I"⟩ ⟨"PartitionedProcedureStoreModel", "waiting", "(I)I"⟩) ∈ TBL := tb3 124 rfl rfl
set_option maxRecDepth 20000 in
theorem LK_code_M_waiting : Cond.code y_M_waiting b_M_waiting 4 (some .int) ∈ TBL := tb3 125 rfl rfl
set_option maxRecDepth 20000 in
theorem LK_648 : (Cond.methodLink "PartitionedProcedureStoreLaw" 85 ⟨"PartitionedProcedureStore", "rows", "(I)I"⟩) ∈ TBL := tb2 136 rfl rfl
set_option maxRecDepth 20000 in
theorem LK_649 : (Cond.instanceMethod ⟨"PartitionedProcedureStore", "rows", "(I)I"⟩) ∈ TBL := tb2 137 rfl rfl
set_option maxRecDepth 20000 in
theorem LK_650 : (Cond.selects "PartitionedProcedureStore" ⟨"PartitionedProcedureStore", "rows", "(I)I"⟩ ⟨"PartitionedProcedureStore", "rows", "(I)I"⟩) ∈ TBL := tb2 138 rfl rfl
set_option maxRecDepth 20000 in
theorem LK_code_S_rows : Cond.code y_S_rows b_S_rows 2 (some .int) ∈ TBL := tb2 139 rfl rfl
set_option maxRecDepth 20000 in
theorem LK_652 : (Cond.methodLink "PartitionedProcedureStoreLaw" 88 ⟨"PartitionedProcedureStoreModel", "rows", "(I)I"⟩) ∈ TBL := tb3 126 rfl rfl
set_option maxRecDepth 20000 in
theorem LK_653 : (Cond.instanceMethod ⟨"PartitionedProcedureStoreModel", "rows", "(I)I"⟩) ∈ TBL := tb3 127 rfl rfl
set_option maxRecDepth 20000 in
theorem LK_654 : (Cond.selects "PartitionedProcedureStoreModel" ⟨"PartitionedProcedureStoreModel", "rows", "(I)I"⟩ ⟨"PartitionedProcedureStoreModel", "rows", "(I)I"⟩) ∈ TBL := tb3 128 rfl rfl
set_option maxRecDepth 20000 in
theorem LK_code_M_rows : Cond.code y_M_rows b_M_rows 2 (some .int) ∈ TBL := tb3 129 rfl rfl
set_option maxRecDepth 20000 in
theorem LK_656 : (Cond.methodLink "PartitionedProcedureStoreLaw" 89 ⟨"PartitionedProcedureStore", "count", "(I)I"⟩) ∈ TBL := tb2 140 rfl rfl
set_option maxRecDepth 20000 in
theorem LK_657 : (Cond.instanceMethod ⟨"PartitionedProcedureStore", "count", "(I)I"⟩) ∈ TBL := tb2 141 rfl rfl
set_option maxRecDepth 20000 in
theorem LK_658 : (Cond.selects "PartitionedProcedureStore" ⟨"PartitionedProcedureStore", "count", "(I)I"⟩ ⟨"PartitionedProcedureStore", "count", "(I)I"⟩) ∈ TBL := tb2 142 rfl rfl
set_option maxRecDepth 20000 in
theorem LK_code_S_count : Cond.code y_S_count b_S_count 2 (some .int) ∈ TBL := tb2 143 rfl rfl
set_option maxRecDepth 20000 in
theorem LK_660 : (Cond.methodLink "PartitionedProcedureStoreLaw" 92 ⟨"PartitionedProcedureStoreModel", "count", "(I)I"⟩) ∈ TBL := tb3 130 rfl rfl
set_option maxRecDepth 20000 in
theorem LK_661 : (Cond.instanceMethod ⟨"PartitionedProcedureStoreModel", "count", "(I)I"⟩) ∈ TBL := tb3 131 rfl rfl
set_option maxRecDepth 20000 in
theorem LK_662 : (Cond.selects "PartitionedProcedureStoreModel" ⟨"PartitionedProcedureStoreModel", "count", "(I)I"⟩ ⟨"PartitionedProcedureStoreModel", "count", "(I)I"⟩) ∈ TBL := tb3 132 rfl rfl
set_option maxRecDepth 20000 in
theorem LK_code_M_count : Cond.code y_M_count b_M_count 2 (some .int) ∈ TBL := tb3 133 rfl rfl
