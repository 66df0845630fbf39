section
-- ===== PART A: goes FIRST, ahead of the names: the tables' words, and 'selects' of the private methods out of them =====
/-- a private method of a class that the tables say can be made, by its rows of tables_1 -/
def lw_okq (q : MethodName × Nat) : Prop := (q.1.cls ≠ "java/lang/invoke/MethodHandle" ∧ q.1.cls ≠ "java/lang/invoke/VarHandle") ∧ Cond.instantiable q.1.cls q.2 ∈ tables_1 ∧ Cond.privateMethod q.1 ∈ tables_1 ∧ Cond.instanceMethod q.1 ∈ tables_1
theorem lw_p0 : lw_okq (⟨"TaskTrees$MountTable", "addView", "()LTaskTrees$View;"⟩, 6) := ⟨⟨by decide +kernel, by decide +kernel⟩, List.mem_of_getElem? (i := 108) (by decide +kernel), List.mem_of_getElem? (i := 305) (by decide +kernel), List.mem_of_getElem? (i := 306) (by decide +kernel)⟩
theorem lw_p1 : lw_okq (⟨"TaskTrees$MountTable", "occupy", "(LTaskTrees$View;II)LTaskTrees$Mount;"⟩, 6) := ⟨⟨by decide +kernel, by decide +kernel⟩, List.mem_of_getElem? (i := 108) (by decide +kernel), List.mem_of_getElem? (i := 325) (by decide +kernel), List.mem_of_getElem? (i := 326) (by decide +kernel)⟩
theorem lw_p2 : lw_okq (⟨"TaskTrees$Mount", "cover", "(ILTaskTrees$Mount;)V"⟩, 9) := ⟨⟨by decide +kernel, by decide +kernel⟩, List.mem_of_getElem? (i := 132) (by decide +kernel), List.mem_of_getElem? (i := 461) (by decide +kernel), List.mem_of_getElem? (i := 462) (by decide +kernel)⟩
theorem lw_p3 : lw_okq (⟨"TaskTrees$Clock", "look", "(LTaskTrees$Task;)V"⟩, 3) := ⟨⟨by decide +kernel, by decide +kernel⟩, List.mem_of_getElem? (i := 91) (by decide +kernel), List.mem_of_getElem? (i := 469) (by decide +kernel), List.mem_of_getElem? (i := 470) (by decide +kernel)⟩
theorem lw_p4 : lw_okq (⟨"TaskTrees$Clock", "offerTask", "(LTaskTrees$Task;)V"⟩, 3) := ⟨⟨by decide +kernel, by decide +kernel⟩, List.mem_of_getElem? (i := 91) (by decide +kernel), List.mem_of_getElem? (i := 477) (by decide +kernel), List.mem_of_getElem? (i := 478) (by decide +kernel)⟩
theorem lw_p5 : lw_okq (⟨"TaskTrees$Clock", "offerGroup", "(LTaskTrees$Group;)V"⟩, 3) := ⟨⟨by decide +kernel, by decide +kernel⟩, List.mem_of_getElem? (i := 91) (by decide +kernel), List.mem_of_getElem? (i := 485) (by decide +kernel), List.mem_of_getElem? (i := 486) (by decide +kernel)⟩
theorem lw_p6 : lw_okq (⟨"TaskTrees$TaskTable", "retire", "(LTaskTrees$Task;)V"⟩, 4) := ⟨⟨by decide +kernel, by decide +kernel⟩, List.mem_of_getElem? (i := 47) (by decide +kernel), List.mem_of_getElem? (i := 509) (by decide +kernel), List.mem_of_getElem? (i := 510) (by decide +kernel)⟩
theorem lw_p7 : lw_okq (⟨"TaskTrees$TaskTable", "emptySpace", "(LTaskTrees$Task;)I"⟩, 4) := ⟨⟨by decide +kernel, by decide +kernel⟩, List.mem_of_getElem? (i := 47) (by decide +kernel), List.mem_of_getElem? (i := 521) (by decide +kernel), List.mem_of_getElem? (i := 522) (by decide +kernel)⟩
theorem lw_p8 : lw_okq (⟨"TaskTrees$TaskTable", "dropLostZombies", "()V"⟩, 4) := ⟨⟨by decide +kernel, by decide +kernel⟩, List.mem_of_getElem? (i := 47) (by decide +kernel), List.mem_of_getElem? (i := 537) (by decide +kernel), List.mem_of_getElem? (i := 538) (by decide +kernel)⟩
theorem lw_p9 : lw_okq (⟨"TaskTrees$Place", "enter", "(LTaskTrees$Mount;I)V"⟩, 2) := ⟨⟨by decide +kernel, by decide +kernel⟩, List.mem_of_getElem? (i := 118) (by decide +kernel), List.mem_of_getElem? (i := 622) (by decide +kernel), List.mem_of_getElem? (i := 623) (by decide +kernel)⟩
theorem lw_p10 : lw_okq (⟨"TaskTrees$MountTable", "removeOne", "(LTaskTrees$Mount;)V"⟩, 6) := ⟨⟨by decide +kernel, by decide +kernel⟩, List.mem_of_getElem? (i := 108) (by decide +kernel), List.mem_of_getElem? (i := 637) (by decide +kernel), List.mem_of_getElem? (i := 638) (by decide +kernel)⟩
theorem lw_p11 : lw_okq (⟨"java/lang/Throwable", "fillInStackTrace", "(I)Ljava/lang/Throwable;"⟩, 6) := ⟨⟨by decide +kernel, by decide +kernel⟩, List.mem_of_getElem? (i := 706) (by decide +kernel), List.mem_of_getElem? (i := 704) (by decide +kernel), List.mem_of_getElem? (i := 705) (by decide +kernel)⟩
theorem lw_p12 : lw_okq (⟨"TaskTrees$Memory", "takeCaches", "(LTaskTrees$Group;I)V"⟩, 3) := ⟨⟨by decide +kernel, by decide +kernel⟩, List.mem_of_getElem? (i := 74) (by decide +kernel), List.mem_of_getElem? (i := 833) (by decide +kernel), List.mem_of_getElem? (i := 834) (by decide +kernel)⟩
theorem lw_p13 : lw_okq (⟨"TaskTrees$Memory", "killVictims", "(LTaskTrees$Group;LTaskTrees$Task;I)I"⟩, 3) := ⟨⟨by decide +kernel, by decide +kernel⟩, List.mem_of_getElem? (i := 74) (by decide +kernel), List.mem_of_getElem? (i := 851) (by decide +kernel), List.mem_of_getElem? (i := 852) (by decide +kernel)⟩
theorem lw_p14 : lw_okq (⟨"TaskTrees$Clock", "choose", "()LTaskTrees$Task;"⟩, 3) := ⟨⟨by decide +kernel, by decide +kernel⟩, List.mem_of_getElem? (i := 91) (by decide +kernel), List.mem_of_getElem? (i := 909) (by decide +kernel), List.mem_of_getElem? (i := 910) (by decide +kernel)⟩
theorem lw_p15 : lw_okq (⟨"TaskTrees$Clock", "run", "(LTaskTrees$Task;)V"⟩, 3) := ⟨⟨by decide +kernel, by decide +kernel⟩, List.mem_of_getElem? (i := 91) (by decide +kernel), List.mem_of_getElem? (i := 915) (by decide +kernel), List.mem_of_getElem? (i := 916) (by decide +kernel)⟩
def lw_privs_1 : List (MethodName × Nat) := [(⟨"TaskTrees$MountTable", "addView", "()LTaskTrees$View;"⟩, 6), (⟨"TaskTrees$MountTable", "occupy", "(LTaskTrees$View;II)LTaskTrees$Mount;"⟩, 6), (⟨"TaskTrees$Mount", "cover", "(ILTaskTrees$Mount;)V"⟩, 9), (⟨"TaskTrees$Clock", "look", "(LTaskTrees$Task;)V"⟩, 3), (⟨"TaskTrees$Clock", "offerTask", "(LTaskTrees$Task;)V"⟩, 3), (⟨"TaskTrees$Clock", "offerGroup", "(LTaskTrees$Group;)V"⟩, 3), (⟨"TaskTrees$TaskTable", "retire", "(LTaskTrees$Task;)V"⟩, 4), (⟨"TaskTrees$TaskTable", "emptySpace", "(LTaskTrees$Task;)I"⟩, 4), (⟨"TaskTrees$TaskTable", "dropLostZombies", "()V"⟩, 4), (⟨"TaskTrees$Place", "enter", "(LTaskTrees$Mount;I)V"⟩, 2), (⟨"TaskTrees$MountTable", "removeOne", "(LTaskTrees$Mount;)V"⟩, 6), (⟨"java/lang/Throwable", "fillInStackTrace", "(I)Ljava/lang/Throwable;"⟩, 6), (⟨"TaskTrees$Memory", "takeCaches", "(LTaskTrees$Group;I)V"⟩, 3), (⟨"TaskTrees$Memory", "killVictims", "(LTaskTrees$Group;LTaskTrees$Task;I)I"⟩, 3), (⟨"TaskTrees$Clock", "choose", "()LTaskTrees$Task;"⟩, 3), (⟨"TaskTrees$Clock", "run", "(LTaskTrees$Task;)V"⟩, 3)]
theorem lw_r1 : ∀ q ∈ lw_privs_1, lw_okq q := List.forall_mem_cons.mpr ⟨lw_p0, List.forall_mem_cons.mpr ⟨lw_p1, List.forall_mem_cons.mpr ⟨lw_p2, List.forall_mem_cons.mpr ⟨lw_p3, List.forall_mem_cons.mpr ⟨lw_p4, List.forall_mem_cons.mpr ⟨lw_p5, List.forall_mem_cons.mpr ⟨lw_p6, List.forall_mem_cons.mpr ⟨lw_p7, List.forall_mem_cons.mpr ⟨lw_p8, List.forall_mem_cons.mpr ⟨lw_p9, List.forall_mem_cons.mpr ⟨lw_p10, List.forall_mem_cons.mpr ⟨lw_p11, List.forall_mem_cons.mpr ⟨lw_p12, List.forall_mem_cons.mpr ⟨lw_p13, List.forall_mem_cons.mpr ⟨lw_p14, List.forall_mem_cons.mpr ⟨lw_p15, fun _ h => absurd h List.not_mem_nil⟩⟩⟩⟩⟩⟩⟩⟩⟩⟩⟩⟩⟩⟩⟩⟩
theorem lw_p16 : lw_okq (⟨"TaskTrees$Clock", "beginPeriod", "()V"⟩, 3) := ⟨⟨by decide +kernel, by decide +kernel⟩, List.mem_of_getElem? (i := 91) (by decide +kernel), List.mem_of_getElem? (i := 921) (by decide +kernel), List.mem_of_getElem? (i := 922) (by decide +kernel)⟩
theorem lw_p17 : lw_okq (⟨"TaskTrees$MountTable", "placesFor", "(LTaskTrees$Mount;I)I"⟩, 6) := ⟨⟨by decide +kernel, by decide +kernel⟩, List.mem_of_getElem? (i := 108) (by decide +kernel), List.mem_of_getElem? (i := 937) (by decide +kernel), List.mem_of_getElem? (i := 938) (by decide +kernel)⟩
theorem lw_p18 : lw_okq (⟨"TaskTrees$MountTable", "newPeer", "(Z)I"⟩, 6) := ⟨⟨by decide +kernel, by decide +kernel⟩, List.mem_of_getElem? (i := 108) (by decide +kernel), List.mem_of_getElem? (i := 941) (by decide +kernel), List.mem_of_getElem? (i := 942) (by decide +kernel)⟩
theorem lw_p19 : lw_okq (⟨"TaskTrees$MountTable", "addOne", "(LTaskTrees$Mount;III)I"⟩, 6) := ⟨⟨by decide +kernel, by decide +kernel⟩, List.mem_of_getElem? (i := 108) (by decide +kernel), List.mem_of_getElem? (i := 945) (by decide +kernel), List.mem_of_getElem? (i := 946) (by decide +kernel)⟩
theorem lw_p20 : lw_okq (⟨"TaskTreesModel", "newGroup", "(I)I"⟩, 41) := ⟨⟨by decide +kernel, by decide +kernel⟩, List.mem_of_getElem? (i := 981) (by decide +kernel), List.mem_of_getElem? (i := 987) (by decide +kernel), List.mem_of_getElem? (i := 988) (by decide +kernel)⟩
theorem lw_p21 : lw_okq (⟨"TaskTreesModel", "make", "(IIIII)I"⟩, 41) := ⟨⟨by decide +kernel, by decide +kernel⟩, List.mem_of_getElem? (i := 981) (by decide +kernel), List.mem_of_getElem? (i := 992) (by decide +kernel), List.mem_of_getElem? (i := 993) (by decide +kernel)⟩
theorem lw_p22 : lw_okq (⟨"TaskTreesModel", "isLive", "(I)Z"⟩, 41) := ⟨⟨by decide +kernel, by decide +kernel⟩, List.mem_of_getElem? (i := 981) (by decide +kernel), List.mem_of_getElem? (i := 1131) (by decide +kernel), List.mem_of_getElem? (i := 1132) (by decide +kernel)⟩
theorem lw_p23 : lw_okq (⟨"TaskTreesModel", "isTask", "(I)Z"⟩, 41) := ⟨⟨by decide +kernel, by decide +kernel⟩, List.mem_of_getElem? (i := 981) (by decide +kernel), List.mem_of_getElem? (i := 1135) (by decide +kernel), List.mem_of_getElem? (i := 1136) (by decide +kernel)⟩
theorem lw_p24 : lw_okq (⟨"TaskTreesModel", "liveIn", "(I)I"⟩, 41) := ⟨⟨by decide +kernel, by decide +kernel⟩, List.mem_of_getElem? (i := 981) (by decide +kernel), List.mem_of_getElem? (i := 1142) (by decide +kernel), List.mem_of_getElem? (i := 1143) (by decide +kernel)⟩
theorem lw_p25 : lw_okq (⟨"TaskTreesModel", "isWithin", "(II)Z"⟩, 41) := ⟨⟨by decide +kernel, by decide +kernel⟩, List.mem_of_getElem? (i := 981) (by decide +kernel), List.mem_of_getElem? (i := 1146) (by decide +kernel), List.mem_of_getElem? (i := 1147) (by decide +kernel)⟩
theorem lw_p26 : lw_okq (⟨"TaskTreesModel", "depth", "(I)I"⟩, 41) := ⟨⟨by decide +kernel, by decide +kernel⟩, List.mem_of_getElem? (i := 981) (by decide +kernel), List.mem_of_getElem? (i := 1150) (by decide +kernel), List.mem_of_getElem? (i := 1151) (by decide +kernel)⟩
theorem lw_p27 : lw_okq (⟨"TaskTreesModel", "mountsOf", "(I)I"⟩, 41) := ⟨⟨by decide +kernel, by decide +kernel⟩, List.mem_of_getElem? (i := 981) (by decide +kernel), List.mem_of_getElem? (i := 1154) (by decide +kernel), List.mem_of_getElem? (i := 1155) (by decide +kernel)⟩
theorem lw_p28 : lw_okq (⟨"TaskTreesModel", "freeMounts", "()I"⟩, 41) := ⟨⟨by decide +kernel, by decide +kernel⟩, List.mem_of_getElem? (i := 981) (by decide +kernel), List.mem_of_getElem? (i := 1158) (by decide +kernel), List.mem_of_getElem? (i := 1159) (by decide +kernel)⟩
theorem lw_p29 : lw_okq (⟨"TaskTreesModel", "nextNumber", "(I)I"⟩, 41) := ⟨⟨by decide +kernel, by decide +kernel⟩, List.mem_of_getElem? (i := 981) (by decide +kernel), List.mem_of_getElem? (i := 1162) (by decide +kernel), List.mem_of_getElem? (i := 1163) (by decide +kernel)⟩
theorem lw_p30 : lw_okq (⟨"TaskTreesModel", "holder", "(II)I"⟩, 41) := ⟨⟨by decide +kernel, by decide +kernel⟩, List.mem_of_getElem? (i := 981) (by decide +kernel), List.mem_of_getElem? (i := 1166) (by decide +kernel), List.mem_of_getElem? (i := 1167) (by decide +kernel)⟩
theorem lw_p31 : lw_okq (⟨"TaskTreesModel", "copyView", "(I)I"⟩, 41) := ⟨⟨by decide +kernel, by decide +kernel⟩, List.mem_of_getElem? (i := 981) (by decide +kernel), List.mem_of_getElem? (i := 1170) (by decide +kernel), List.mem_of_getElem? (i := 1171) (by decide +kernel)⟩
def lw_privs_2 : List (MethodName × Nat) := [(⟨"TaskTrees$Clock", "beginPeriod", "()V"⟩, 3), (⟨"TaskTrees$MountTable", "placesFor", "(LTaskTrees$Mount;I)I"⟩, 6), (⟨"TaskTrees$MountTable", "newPeer", "(Z)I"⟩, 6), (⟨"TaskTrees$MountTable", "addOne", "(LTaskTrees$Mount;III)I"⟩, 6), (⟨"TaskTreesModel", "newGroup", "(I)I"⟩, 41), (⟨"TaskTreesModel", "make", "(IIIII)I"⟩, 41), (⟨"TaskTreesModel", "isLive", "(I)Z"⟩, 41), (⟨"TaskTreesModel", "isTask", "(I)Z"⟩, 41), (⟨"TaskTreesModel", "liveIn", "(I)I"⟩, 41), (⟨"TaskTreesModel", "isWithin", "(II)Z"⟩, 41), (⟨"TaskTreesModel", "depth", "(I)I"⟩, 41), (⟨"TaskTreesModel", "mountsOf", "(I)I"⟩, 41), (⟨"TaskTreesModel", "freeMounts", "()I"⟩, 41), (⟨"TaskTreesModel", "nextNumber", "(I)I"⟩, 41), (⟨"TaskTreesModel", "holder", "(II)I"⟩, 41), (⟨"TaskTreesModel", "copyView", "(I)I"⟩, 41)]
theorem lw_r2 : ∀ q ∈ lw_privs_2, lw_okq q := List.forall_mem_cons.mpr ⟨lw_p16, List.forall_mem_cons.mpr ⟨lw_p17, List.forall_mem_cons.mpr ⟨lw_p18, List.forall_mem_cons.mpr ⟨lw_p19, List.forall_mem_cons.mpr ⟨lw_p20, List.forall_mem_cons.mpr ⟨lw_p21, List.forall_mem_cons.mpr ⟨lw_p22, List.forall_mem_cons.mpr ⟨lw_p23, List.forall_mem_cons.mpr ⟨lw_p24, List.forall_mem_cons.mpr ⟨lw_p25, List.forall_mem_cons.mpr ⟨lw_p26, List.forall_mem_cons.mpr ⟨lw_p27, List.forall_mem_cons.mpr ⟨lw_p28, List.forall_mem_cons.mpr ⟨lw_p29, List.forall_mem_cons.mpr ⟨lw_p30, List.forall_mem_cons.mpr ⟨lw_p31, fun _ h => absurd h List.not_mem_nil⟩⟩⟩⟩⟩⟩⟩⟩⟩⟩⟩⟩⟩⟩⟩⟩
theorem lw_p32 : lw_okq (⟨"TaskTreesModel", "come", "(IZ)V"⟩, 41) := ⟨⟨by decide +kernel, by decide +kernel⟩, List.mem_of_getElem? (i := 981) (by decide +kernel), List.mem_of_getElem? (i := 1174) (by decide +kernel), List.mem_of_getElem? (i := 1175) (by decide +kernel)⟩
theorem lw_p33 : lw_okq (⟨"TaskTreesModel", "leastTime", "(IZI)J"⟩, 41) := ⟨⟨by decide +kernel, by decide +kernel⟩, List.mem_of_getElem? (i := 981) (by decide +kernel), List.mem_of_getElem? (i := 1178) (by decide +kernel), List.mem_of_getElem? (i := 1179) (by decide +kernel)⟩
theorem lw_p34 : lw_okq (⟨"TaskTreesModel", "findReady", "()V"⟩, 41) := ⟨⟨by decide +kernel, by decide +kernel⟩, List.mem_of_getElem? (i := 981) (by decide +kernel), List.mem_of_getElem? (i := 1183) (by decide +kernel), List.mem_of_getElem? (i := 1184) (by decide +kernel)⟩
theorem lw_p35 : lw_okq (⟨"TaskTreesModel", "isReady", "(I)Z"⟩, 41) := ⟨⟨by decide +kernel, by decide +kernel⟩, List.mem_of_getElem? (i := 981) (by decide +kernel), List.mem_of_getElem? (i := 1187) (by decide +kernel), List.mem_of_getElem? (i := 1188) (by decide +kernel)⟩
theorem lw_p36 : lw_okq (⟨"TaskTreesModel", "leave", "(I)I"⟩, 41) := ⟨⟨by decide +kernel, by decide +kernel⟩, List.mem_of_getElem? (i := 981) (by decide +kernel), List.mem_of_getElem? (i := 1195) (by decide +kernel), List.mem_of_getElem? (i := 1196) (by decide +kernel)⟩
theorem lw_p37 : lw_okq (⟨"TaskTreesModel", "end", "(I)V"⟩, 41) := ⟨⟨by decide +kernel, by decide +kernel⟩, List.mem_of_getElem? (i := 981) (by decide +kernel), List.mem_of_getElem? (i := 1199) (by decide +kernel), List.mem_of_getElem? (i := 1200) (by decide +kernel)⟩
theorem lw_p38 : lw_okq (⟨"TaskTreesModel", "liesIn", "(II)Z"⟩, 41) := ⟨⟨by decide +kernel, by decide +kernel⟩, List.mem_of_getElem? (i := 981) (by decide +kernel), List.mem_of_getElem? (i := 1203) (by decide +kernel), List.mem_of_getElem? (i := 1204) (by decide +kernel)⟩
theorem lw_p39 : lw_okq (⟨"TaskTreesModel", "forget", "(I)V"⟩, 41) := ⟨⟨by decide +kernel, by decide +kernel⟩, List.mem_of_getElem? (i := 981) (by decide +kernel), List.mem_of_getElem? (i := 1207) (by decide +kernel), List.mem_of_getElem? (i := 1208) (by decide +kernel)⟩
theorem lw_p40 : lw_okq (⟨"TaskTreesModel", "isGroup", "(I)Z"⟩, 41) := ⟨⟨by decide +kernel, by decide +kernel⟩, List.mem_of_getElem? (i := 981) (by decide +kernel), List.mem_of_getElem? (i := 1242) (by decide +kernel), List.mem_of_getElem? (i := 1243) (by decide +kernel)⟩
theorem lw_p41 : lw_okq (⟨"TaskTreesModel", "uses", "(I)I"⟩, 41) := ⟨⟨by decide +kernel, by decide +kernel⟩, List.mem_of_getElem? (i := 981) (by decide +kernel), List.mem_of_getElem? (i := 1255) (by decide +kernel), List.mem_of_getElem? (i := 1256) (by decide +kernel)⟩
theorem lw_p42 : lw_okq (⟨"TaskTreesModel", "makeRoom", "(II)I"⟩, 41) := ⟨⟨by decide +kernel, by decide +kernel⟩, List.mem_of_getElem? (i := 981) (by decide +kernel), List.mem_of_getElem? (i := 1267) (by decide +kernel), List.mem_of_getElem? (i := 1268) (by decide +kernel)⟩
theorem lw_p43 : lw_okq (⟨"TaskTreesModel", "tooFull", "(II)I"⟩, 41) := ⟨⟨by decide +kernel, by decide +kernel⟩, List.mem_of_getElem? (i := 981) (by decide +kernel), List.mem_of_getElem? (i := 1271) (by decide +kernel), List.mem_of_getElem? (i := 1272) (by decide +kernel)⟩
theorem lw_p44 : lw_okq (⟨"TaskTreesModel", "takeCache", "(II)V"⟩, 41) := ⟨⟨by decide +kernel, by decide +kernel⟩, List.mem_of_getElem? (i := 981) (by decide +kernel), List.mem_of_getElem? (i := 1275) (by decide +kernel), List.mem_of_getElem? (i := 1276) (by decide +kernel)⟩
theorem lw_p45 : lw_okq (⟨"TaskTreesModel", "victim", "(I)I"⟩, 41) := ⟨⟨by decide +kernel, by decide +kernel⟩, List.mem_of_getElem? (i := 981) (by decide +kernel), List.mem_of_getElem? (i := 1279) (by decide +kernel), List.mem_of_getElem? (i := 1280) (by decide +kernel)⟩
theorem lw_p46 : lw_okq (⟨"TaskTreesModel", "tick", "()I"⟩, 41) := ⟨⟨by decide +kernel, by decide +kernel⟩, List.mem_of_getElem? (i := 981) (by decide +kernel), List.mem_of_getElem? (i := 1306) (by decide +kernel), List.mem_of_getElem? (i := 1307) (by decide +kernel)⟩
theorem lw_p47 : lw_okq (⟨"TaskTreesModel", "walk", "(II)Z"⟩, 41) := ⟨⟨by decide +kernel, by decide +kernel⟩, List.mem_of_getElem? (i := 981) (by decide +kernel), List.mem_of_getElem? (i := 1328) (by decide +kernel), List.mem_of_getElem? (i := 1329) (by decide +kernel)⟩
def lw_privs_3 : List (MethodName × Nat) := [(⟨"TaskTreesModel", "come", "(IZ)V"⟩, 41), (⟨"TaskTreesModel", "leastTime", "(IZI)J"⟩, 41), (⟨"TaskTreesModel", "findReady", "()V"⟩, 41), (⟨"TaskTreesModel", "isReady", "(I)Z"⟩, 41), (⟨"TaskTreesModel", "leave", "(I)I"⟩, 41), (⟨"TaskTreesModel", "end", "(I)V"⟩, 41), (⟨"TaskTreesModel", "liesIn", "(II)Z"⟩, 41), (⟨"TaskTreesModel", "forget", "(I)V"⟩, 41), (⟨"TaskTreesModel", "isGroup", "(I)Z"⟩, 41), (⟨"TaskTreesModel", "uses", "(I)I"⟩, 41), (⟨"TaskTreesModel", "makeRoom", "(II)I"⟩, 41), (⟨"TaskTreesModel", "tooFull", "(II)I"⟩, 41), (⟨"TaskTreesModel", "takeCache", "(II)V"⟩, 41), (⟨"TaskTreesModel", "victim", "(I)I"⟩, 41), (⟨"TaskTreesModel", "tick", "()I"⟩, 41), (⟨"TaskTreesModel", "walk", "(II)Z"⟩, 41)]
theorem lw_r3 : ∀ q ∈ lw_privs_3, lw_okq q := List.forall_mem_cons.mpr ⟨lw_p32, List.forall_mem_cons.mpr ⟨lw_p33, List.forall_mem_cons.mpr ⟨lw_p34, List.forall_mem_cons.mpr ⟨lw_p35, List.forall_mem_cons.mpr ⟨lw_p36, List.forall_mem_cons.mpr ⟨lw_p37, List.forall_mem_cons.mpr ⟨lw_p38, List.forall_mem_cons.mpr ⟨lw_p39, List.forall_mem_cons.mpr ⟨lw_p40, List.forall_mem_cons.mpr ⟨lw_p41, List.forall_mem_cons.mpr ⟨lw_p42, List.forall_mem_cons.mpr ⟨lw_p43, List.forall_mem_cons.mpr ⟨lw_p44, List.forall_mem_cons.mpr ⟨lw_p45, List.forall_mem_cons.mpr ⟨lw_p46, List.forall_mem_cons.mpr ⟨lw_p47, fun _ h => absurd h List.not_mem_nil⟩⟩⟩⟩⟩⟩⟩⟩⟩⟩⟩⟩⟩⟩⟩⟩
theorem lw_p48 : lw_okq (⟨"TaskTreesModel", "rise", "()V"⟩, 41) := ⟨⟨by decide +kernel, by decide +kernel⟩, List.mem_of_getElem? (i := 981) (by decide +kernel), List.mem_of_getElem? (i := 1332) (by decide +kernel), List.mem_of_getElem? (i := 1333) (by decide +kernel)⟩
theorem lw_p49 : lw_okq (⟨"TaskTreesModel", "mountAt", "(II)I"⟩, 41) := ⟨⟨by decide +kernel, by decide +kernel⟩, List.mem_of_getElem? (i := 981) (by decide +kernel), List.mem_of_getElem? (i := 1336) (by decide +kernel), List.mem_of_getElem? (i := 1337) (by decide +kernel)⟩
theorem lw_p50 : lw_okq (⟨"TaskTreesModel", "isPeer", "(III)Z"⟩, 41) := ⟨⟨by decide +kernel, by decide +kernel⟩, List.mem_of_getElem? (i := 981) (by decide +kernel), List.mem_of_getElem? (i := 1340) (by decide +kernel), List.mem_of_getElem? (i := 1341) (by decide +kernel)⟩
theorem lw_p51 : lw_okq (⟨"TaskTreesModel", "isBusy", "(I)Z"⟩, 41) := ⟨⟨by decide +kernel, by decide +kernel⟩, List.mem_of_getElem? (i := 981) (by decide +kernel), List.mem_of_getElem? (i := 1348) (by decide +kernel), List.mem_of_getElem? (i := 1349) (by decide +kernel)⟩
def lw_privs_4 : List (MethodName × Nat) := [(⟨"TaskTreesModel", "rise", "()V"⟩, 41), (⟨"TaskTreesModel", "mountAt", "(II)I"⟩, 41), (⟨"TaskTreesModel", "isPeer", "(III)Z"⟩, 41), (⟨"TaskTreesModel", "isBusy", "(I)Z"⟩, 41)]
theorem lw_r4 : ∀ q ∈ lw_privs_4, lw_okq q := List.forall_mem_cons.mpr ⟨lw_p48, List.forall_mem_cons.mpr ⟨lw_p49, List.forall_mem_cons.mpr ⟨lw_p50, List.forall_mem_cons.mpr ⟨lw_p51, fun _ h => absurd h List.not_mem_nil⟩⟩⟩⟩
def lw_privs : List (MethodName × Nat) := lw_privs_1 ++ (lw_privs_2 ++ (lw_privs_3 ++ (lw_privs_4)))
def lw_tbl : List Cond := k2_sels lw_privs ++ tables_1
theorem lw_privs_ok : ∀ q ∈ lw_privs, lw_okq q := by
  show ∀ q ∈ lw_privs_1 ++ (lw_privs_2 ++ (lw_privs_3 ++ (lw_privs_4))), lw_okq q
  exact List.forall_mem_append.mpr ⟨lw_r1, List.forall_mem_append.mpr ⟨lw_r2, List.forall_mem_append.mpr ⟨lw_r3, lw_r4⟩⟩⟩
end
section
/-! names, fields: rows of the printed NAMES of the claim -/
def RX0 : String := "TaskTrees$Clock"
def TX0 : u_T := fun k => match k with
  | 0 => ("TaskTrees$Clock", "tasks", "LTaskTrees$TaskTable;", true)
  | 1 => ("TaskTrees$Clock", "groups", "LTaskTrees$GroupTable;", true)
  | _ => ("TaskTrees$Clock", "now", "I", false)
def tyX0 : Nat → FieldType := fun k => match k with
  | 0 => .object "TaskTrees$TaskTable"
  | 1 => .object "TaskTrees$GroupTable"
  | _ => .int
abbrev wsX00 : List Cond := u_ws RX0 TX0 3
theorem nmX0 : ∀ a, a < 3 → ∀ b, b < 3 → a ≠ b → (TX0 a).2.1 ≠ (TX0 b).2.1 := by decide +kernel
theorem tyX0_ok : ∀ k, k < 3 → parseFieldDescriptor (TX0 k).2.2.1 = some (tyX0 k) := by decide +kernel
abbrev cX0_init : ByteArray := prog_2_method_1_code
def yX0_init : MethodName := ⟨RX0, "<init>", "(LTaskTrees$TaskTable;LTaskTrees$GroupTable;)V"⟩
abbrev cX0_tick : ByteArray := prog_2_method_2_code
def yX0_tick : MethodName := ⟨RX0, "tick", "()LTaskTrees$Task;"⟩
abbrev cX0_admit : ByteArray := prog_2_method_3_code
/-- the method's name as the Statement's own table has it (tables_1_2, its entry 225) -/
def yX0_adOf : Option Cond → MethodName
  | some (.instanceMethod m) => m
  | _ => ⟨RX0, "", ""⟩
def yX0_admit : MethodName := yX0_adOf (tables_1_2[225]?)
theorem yX0_admit_is : yX0_admit.cls = RX0 ∧ yX0_admit.desc = "(LTaskTrees$Task;Z)V" := by decide +kernel
abbrev cX0_admitGroup : ByteArray := prog_2_method_4_code
def yX0_admitGroup : MethodName := ⟨RX0, "admitGroup", "(LTaskTrees$Group;)V"⟩
abbrev cX0_look : ByteArray := prog_2_method_5_code
def yX0_look : MethodName := ⟨RX0, "look", "(LTaskTrees$Task;)V"⟩
abbrev cX0_offerTask : ByteArray := prog_2_method_6_code
def yX0_offerTask : MethodName := ⟨RX0, "offerTask", "(LTaskTrees$Task;)V"⟩
abbrev cX0_offerGroup : ByteArray := prog_2_method_7_code
def yX0_offerGroup : MethodName := ⟨RX0, "offerGroup", "(LTaskTrees$Group;)V"⟩
abbrev cX0_choose : ByteArray := prog_2_method_8_code
def yX0_choose : MethodName := ⟨RX0, "choose", "()LTaskTrees$Task;"⟩
abbrev cX0_run : ByteArray := prog_2_method_9_code
def yX0_run : MethodName := ⟨RX0, "run", "(LTaskTrees$Task;)V"⟩
abbrev cX0_beginPeriod : ByteArray := prog_2_method_10_code
def yX0_beginPeriod : MethodName := ⟨RX0, "beginPeriod", "()V"⟩
def RX1 : String := "TaskTrees$Group"
def TX1 : u_T := fun k => match k with
  | 0 => ("TaskTrees$Group", "id", "I", true)
  | 1 => ("TaskTrees$Group", "outer", "LTaskTrees$Group;", true)
  | 2 => ("TaskTrees$Group", "depth", "I", true)
  | 3 => ("TaskTrees$Group", "max", "I", false)
  | 4 => ("TaskTrees$Group", "most", "I", false)
  | 5 => ("TaskTrees$Group", "weight", "I", false)
  | 6 => ("TaskTrees$Group", "quota", "I", false)
  | 7 => ("TaskTrees$Group", "uses", "I", false)
  | 8 => ("TaskTrees$Group", "live", "I", false)
  | 9 => ("TaskTrees$Group", "cached", "I", false)
  | 10 => ("TaskTrees$Group", "ranInPeriod", "I", false)
  | 11 => ("TaskTrees$Group", "clockTime", "J", false)
  | 12 => ("TaskTrees$Group", "firstTask", "LTaskTrees$Task;", false)
  | _ => ("TaskTrees$Group", "firstGroup", "LTaskTrees$Group;", false)
def tyX1 : Nat → FieldType := fun k => match k with
  | 0 => .int
  | 1 => .object "TaskTrees$Group"
  | 2 => .int
  | 3 => .int
  | 4 => .int
  | 5 => .int
  | 6 => .int
  | 7 => .int
  | 8 => .int
  | 9 => .int
  | 10 => .int
  | 11 => .long
  | 12 => .object "TaskTrees$Task"
  | _ => .object "TaskTrees$Group"
abbrev wsX10 : List Cond := u_ws RX1 TX1 14
theorem nmX1 : ∀ a, a < 14 → ∀ b, b < 14 → a ≠ b → (TX1 a).2.1 ≠ (TX1 b).2.1 := by decide +kernel
theorem tyX1_ok : ∀ k, k < 14 → parseFieldDescriptor (TX1 k).2.2.1 = some (tyX1 k) := by decide +kernel
abbrev cX1_init : ByteArray := prog_3_method_1_code
def yX1_init : MethodName := ⟨RX1, "<init>", "(ILTaskTrees$Group;)V"⟩
abbrev cX1_liesIn : ByteArray := prog_3_method_2_code
def yX1_liesIn : MethodName := ⟨RX1, "liesIn", "(LTaskTrees$Group;)Z"⟩
abbrev cX1_addUse : ByteArray := prog_3_method_3_code
def yX1_addUse : MethodName := ⟨RX1, "addUse", "(I)V"⟩
abbrev cX1_addLive : ByteArray := prog_3_method_4_code
def yX1_addLive : MethodName := ⟨RX1, "addLive", "(I)V"⟩
abbrev cX1_keepCached : ByteArray := prog_3_method_5_code
def yX1_keepCached : MethodName := ⟨RX1, "keepCached", "(I)V"⟩
abbrev cX1_lacking : ByteArray := prog_3_method_6_code
def yX1_lacking : MethodName := ⟨RX1, "lacking", "(I)I"⟩
abbrev cX1_takesTask : ByteArray := prog_3_method_7_code
def yX1_takesTask : MethodName := ⟨RX1, "takesTask", "()Z"⟩
abbrev cX1_takesFrom : ByteArray := prog_3_method_8_code
def yX1_takesFrom : MethodName := ⟨RX1, "takesFrom", "(LTaskTrees$Task;)Z"⟩
abbrev cX1_holdsMoreThan : ByteArray := prog_3_method_9_code
def yX1_holdsMoreThan : MethodName := ⟨RX1, "holdsMoreThan", "(II)Z"⟩
abbrev cX1_change : ByteArray := prog_3_method_10_code
def yX1_change : MethodName := ⟨RX1, "change", "(II)I"⟩
abbrev cX1_isReady : ByteArray := prog_3_method_11_code
def yX1_isReady : MethodName := ⟨RX1, "isReady", "()Z"⟩
abbrev cX1_leadsToGroup : ByteArray := prog_3_method_12_code
def yX1_leadsToGroup : MethodName := ⟨RX1, "leadsToGroup", "()Z"⟩
abbrev cX1_leastTime : ByteArray := prog_3_method_13_code
def yX1_leastTime : MethodName := ⟨RX1, "leastTime", "()J"⟩
abbrev cX1_tell : ByteArray := prog_3_method_14_code
def yX1_tell : MethodName := ⟨RX1, "tell", "(I)I"⟩
def RX2 : String := "TaskTrees$GroupTable"
def TX2 : u_T := fun k => match k with
  | 0 => ("TaskTrees$GroupTable", "rows", "[LTaskTrees$Group;", true)
  | _ => ("TaskTrees$GroupTable", "made", "I", false)
def tyX2 : Nat → FieldType := fun k => match k with
  | 0 => .array (.object "TaskTrees$Group")
  | _ => .int
abbrev wsX20 : List Cond := u_ws RX2 TX2 2
theorem nmX2 : ∀ a, a < 2 → ∀ b, b < 2 → a ≠ b → (TX2 a).2.1 ≠ (TX2 b).2.1 := by decide +kernel
theorem tyX2_ok : ∀ k, k < 2 → parseFieldDescriptor (TX2 k).2.2.1 = some (tyX2 k) := by decide +kernel
abbrev cX2_init : ByteArray := prog_4_method_1_code
def yX2_init : MethodName := ⟨RX2, "<init>", "()V"⟩
abbrev cX2_madeAt : ByteArray := prog_4_method_2_code
def yX2_madeAt : MethodName := ⟨RX2, "madeAt", "(I)LTaskTrees$Group;"⟩
abbrev cX2_hasRoom : ByteArray := prog_4_method_3_code
def yX2_hasRoom : MethodName := ⟨RX2, "hasRoom", "(LTaskTrees$Group;)Z"⟩
abbrev cX2_open : ByteArray := prog_4_method_4_code
def yX2_open : MethodName := ⟨RX2, "open", "(LTaskTrees$Group;)LTaskTrees$Group;"⟩
abbrev cX2_richestIn : ByteArray := prog_4_method_5_code
def yX2_richestIn : MethodName := ⟨RX2, "richestIn", "(LTaskTrees$Group;)LTaskTrees$Group;"⟩
def RX3 : String := "TaskTrees$Memory"
def TX3 : u_T := fun k => match k with
  | 0 => ("TaskTrees$Memory", "tasks", "LTaskTrees$TaskTable;", true)
  | 1 => ("TaskTrees$Memory", "groups", "LTaskTrees$GroupTable;", true)
  | _ => ("TaskTrees$Memory", "victims", "I", false)
def tyX3 : Nat → FieldType := fun k => match k with
  | 0 => .object "TaskTrees$TaskTable"
  | 1 => .object "TaskTrees$GroupTable"
  | _ => .int
abbrev wsX30 : List Cond := u_ws RX3 TX3 3
theorem nmX3 : ∀ a, a < 3 → ∀ b, b < 3 → a ≠ b → (TX3 a).2.1 ≠ (TX3 b).2.1 := by decide +kernel
theorem tyX3_ok : ∀ k, k < 3 → parseFieldDescriptor (TX3 k).2.2.1 = some (tyX3 k) := by decide +kernel
abbrev cX3_init : ByteArray := prog_5_method_1_code
def yX3_init : MethodName := ⟨RX3, "<init>", "(LTaskTrees$TaskTable;LTaskTrees$GroupTable;)V"⟩
abbrev cX3_makeRoom : ByteArray := prog_5_method_2_code
def yX3_makeRoom : MethodName := ⟨RX3, "makeRoom", "(LTaskTrees$Task;I)I"⟩
abbrev cX3_takeCaches : ByteArray := prog_5_method_3_code
def yX3_takeCaches : MethodName := ⟨RX3, "takeCaches", "(LTaskTrees$Group;I)V"⟩
abbrev cX3_killVictims : ByteArray := prog_5_method_4_code
def yX3_killVictims : MethodName := ⟨RX3, "killVictims", "(LTaskTrees$Group;LTaskTrees$Task;I)I"⟩
def RX4 : String := "TaskTrees$Mount"
def TX4 : u_T := fun k => match k with
  | 0 => ("TaskTrees$Mount", "id", "I", true)
  | 1 => ("TaskTrees$Mount", "tops", "[LTaskTrees$Mount;", true)
  | 2 => ("TaskTrees$Mount", "view", "LTaskTrees$View;", false)
  | 3 => ("TaskTrees$Mount", "under", "LTaskTrees$Mount;", false)
  | 4 => ("TaskTrees$Mount", "directory", "I", false)
  | 5 => ("TaskTrees$Mount", "carried", "I", false)
  | 6 => ("TaskTrees$Mount", "volume", "I", false)
  | 7 => ("TaskTrees$Mount", "peer", "I", false)
  | _ => ("TaskTrees$Mount", "twin", "LTaskTrees$Mount;", false)
def tyX4 : Nat → FieldType := fun k => match k with
  | 0 => .int
  | 1 => .array (.object "TaskTrees$Mount")
  | 2 => .object "TaskTrees$View"
  | 3 => .object "TaskTrees$Mount"
  | 4 => .int
  | 5 => .int
  | 6 => .int
  | 7 => .int
  | _ => .object "TaskTrees$Mount"
abbrev wsX40 : List Cond := u_ws RX4 TX4 9
theorem nmX4 : ∀ a, a < 9 → ∀ b, b < 9 → a ≠ b → (TX4 a).2.1 ≠ (TX4 b).2.1 := by decide +kernel
theorem tyX4_ok : ∀ k, k < 9 → parseFieldDescriptor (TX4 k).2.2.1 = some (tyX4 k) := by decide +kernel
abbrev cX4_init : ByteArray := prog_6_method_1_code
def yX4_init : MethodName := ⟨RX4, "<init>", "(I)V"⟩
abbrev cX4_begin : ByteArray := prog_6_method_2_code
def yX4_begin : MethodName := ⟨RX4, "begin", "(LTaskTrees$View;II)V"⟩
abbrev cX4_over : ByteArray := prog_6_method_3_code
def yX4_over : MethodName := ⟨RX4, "over", "(I)LTaskTrees$Mount;"⟩
abbrev cX4_cover : ByteArray := prog_6_method_4_code
def yX4_cover : MethodName := ⟨RX4, "cover", "(ILTaskTrees$Mount;)V"⟩
abbrev cX4_putOn : ByteArray := prog_6_method_5_code
def yX4_putOn : MethodName := ⟨RX4, "putOn", "(LTaskTrees$Mount;I)V"⟩
abbrev cX4_takeOff : ByteArray := prog_6_method_6_code
def yX4_takeOff : MethodName := ⟨RX4, "takeOff", "()V"⟩
abbrev cX4_tell : ByteArray := prog_6_method_7_code
def yX4_tell : MethodName := ⟨RX4, "tell", "(I)I"⟩
def RX5 : String := "TaskTrees$MountTable"
def TX5 : u_T := fun k => match k with
  | 0 => ("TaskTrees$MountTable", "rows", "[LTaskTrees$Mount;", true)
  | 1 => ("TaskTrees$MountTable", "views", "[LTaskTrees$View;", true)
  | 2 => ("TaskTrees$MountTable", "place", "LTaskTrees$Place;", true)
  | 3 => ("TaskTrees$MountTable", "there", "I", false)
  | 4 => ("TaskTrees$MountTable", "viewsMade", "I", false)
  | _ => ("TaskTrees$MountTable", "lastPeer", "I", false)
def tyX5 : Nat → FieldType := fun k => match k with
  | 0 => .array (.object "TaskTrees$Mount")
  | 1 => .array (.object "TaskTrees$View")
  | 2 => .object "TaskTrees$Place"
  | 3 => .int
  | 4 => .int
  | _ => .int
abbrev wsX50 : List Cond := u_ws RX5 TX5 6
theorem nmX5 : ∀ a, a < 6 → ∀ b, b < 6 → a ≠ b → (TX5 a).2.1 ≠ (TX5 b).2.1 := by decide +kernel
theorem tyX5_ok : ∀ k, k < 6 → parseFieldDescriptor (TX5 k).2.2.1 = some (tyX5 k) := by decide +kernel
abbrev cX5_init : ByteArray := prog_7_method_1_code
def yX5_init : MethodName := ⟨RX5, "<init>", "()V"⟩
abbrev cX5_viewAt : ByteArray := prog_7_method_2_code
def yX5_viewAt : MethodName := ⟨RX5, "viewAt", "(I)LTaskTrees$View;"⟩
abbrev cX5_mountAt : ByteArray := prog_7_method_3_code
def yX5_mountAt : MethodName := ⟨RX5, "mountAt", "(I)LTaskTrees$Mount;"⟩
abbrev cX5_openView : ByteArray := prog_7_method_4_code
def yX5_openView : MethodName := ⟨RX5, "openView", "()LTaskTrees$View;"⟩
abbrev cX5_addView : ByteArray := prog_7_method_5_code
def yX5_addView : MethodName := ⟨RX5, "addView", "()LTaskTrees$View;"⟩
abbrev cX5_occupy : ByteArray := prog_7_method_6_code
def yX5_occupy : MethodName := ⟨RX5, "occupy", "(LTaskTrees$View;II)LTaskTrees$Mount;"⟩
abbrev cX5_newPeer : ByteArray := prog_7_method_7_code
def yX5_newPeer : MethodName := ⟨RX5, "newPeer", "(Z)I"⟩
abbrev cX5_changePeer : ByteArray := prog_7_method_8_code
def yX5_changePeer : MethodName := ⟨RX5, "changePeer", "(LTaskTrees$Mount;Z)I"⟩
abbrev cX5_canCopy : ByteArray := prog_7_method_9_code
def yX5_canCopy : MethodName := ⟨RX5, "canCopy", "(LTaskTrees$View;)Z"⟩
abbrev cX5_copyView : ByteArray := prog_7_method_10_code
def yX5_copyView : MethodName := ⟨RX5, "copyView", "(LTaskTrees$View;)LTaskTrees$View;"⟩
abbrev cX5_placeTwin : ByteArray := prog_7_method_11_code
def yX5_placeTwin : MethodName := ⟨RX5, "placeTwin", "(LTaskTrees$Mount;)V"⟩
abbrev cX5_add : ByteArray := prog_7_method_12_code
def yX5_add : MethodName := ⟨RX5, "add", "(LTaskTrees$Mount;IIZ)I"⟩
abbrev cX5_addOne : ByteArray := prog_7_method_13_code
def yX5_addOne : MethodName := ⟨RX5, "addOne", "(LTaskTrees$Mount;III)I"⟩
abbrev cX5_placesFor : ByteArray := prog_7_method_14_code
def yX5_placesFor : MethodName := ⟨RX5, "placesFor", "(LTaskTrees$Mount;I)I"⟩
abbrev cX5_isPeer : ByteArray := prog_7_method_15_code
def yX5_isPeer : MethodName := ⟨RX5, "isPeer", "(LTaskTrees$Mount;LTaskTrees$Mount;)Z"⟩
abbrev cX5_remove : ByteArray := prog_7_method_16_code
def yX5_remove : MethodName := ⟨RX5, "remove", "(LTaskTrees$Mount;)I"⟩
abbrev cX5_removeOne : ByteArray := prog_7_method_17_code
def yX5_removeOne : MethodName := ⟨RX5, "removeOne", "(LTaskTrees$Mount;)V"⟩
def RX6 : String := "TaskTrees$Place"
def TX6 : u_T := fun k => match k with
  | 0 => ("TaskTrees$Place", "mount", "LTaskTrees$Mount;", false)
  | _ => ("TaskTrees$Place", "directory", "I", false)
def tyX6 : Nat → FieldType := fun k => match k with
  | 0 => .object "TaskTrees$Mount"
  | _ => .int
abbrev wsX60 : List Cond := u_ws RX6 TX6 2
theorem nmX6 : ∀ a, a < 2 → ∀ b, b < 2 → a ≠ b → (TX6 a).2.1 ≠ (TX6 b).2.1 := by decide +kernel
theorem tyX6_ok : ∀ k, k < 2 → parseFieldDescriptor (TX6 k).2.2.1 = some (tyX6 k) := by decide +kernel
abbrev cX6_init : ByteArray := prog_8_method_1_code
def yX6_init : MethodName := ⟨RX6, "<init>", "()V"⟩
abbrev cX6_reach : ByteArray := prog_8_method_2_code
def yX6_reach : MethodName := ⟨RX6, "reach", "(LTaskTrees$View;I)Z"⟩
abbrev cX6_highestBit : ByteArray := prog_8_method_3_code
def yX6_highestBit : MethodName := ⟨RX6, "highestBit", "(I)I"⟩
abbrev cX6_enter : ByteArray := prog_8_method_4_code
def yX6_enter : MethodName := ⟨RX6, "enter", "(LTaskTrees$Mount;I)V"⟩
abbrev cX6_code : ByteArray := prog_8_method_5_code
def yX6_code : MethodName := ⟨RX6, "code", "()I"⟩
def RX7 : String := "TaskTrees$Space"
def TX7 : u_T := fun k => match k with
  | 0 => ("TaskTrees$Space", "id", "I", true)
  | 1 => ("TaskTrees$Space", "outer", "LTaskTrees$Space;", true)
  | 2 => ("TaskTrees$Space", "depth", "I", true)
  | 3 => ("TaskTrees$Space", "holders", "[LTaskTrees$Task;", true)
  | 4 => ("TaskTrees$Space", "init", "LTaskTrees$Task;", false)
  | _ => ("TaskTrees$Space", "lastGiven", "I", false)
def tyX7 : Nat → FieldType := fun k => match k with
  | 0 => .int
  | 1 => .object "TaskTrees$Space"
  | 2 => .int
  | 3 => .array (.object "TaskTrees$Task")
  | 4 => .object "TaskTrees$Task"
  | _ => .int
abbrev wsX70 : List Cond := u_ws RX7 TX7 6
theorem nmX7 : ∀ a, a < 6 → ∀ b, b < 6 → a ≠ b → (TX7 a).2.1 ≠ (TX7 b).2.1 := by decide +kernel
theorem tyX7_ok : ∀ k, k < 6 → parseFieldDescriptor (TX7 k).2.2.1 = some (tyX7 k) := by decide +kernel
abbrev cX7_init : ByteArray := prog_9_method_1_code
def yX7_init : MethodName := ⟨RX7, "<init>", "(ILTaskTrees$Space;)V"⟩
abbrev cX7_liesIn : ByteArray := prog_9_method_2_code
def yX7_liesIn : MethodName := ⟨RX7, "liesIn", "(LTaskTrees$Space;)Z"⟩
abbrev cX7_nextNumber : ByteArray := prog_9_method_3_code
def yX7_nextNumber : MethodName := ⟨RX7, "nextNumber", "()I"⟩
abbrev cX7_take : ByteArray := prog_9_method_4_code
def yX7_take : MethodName := ⟨RX7, "take", "(LTaskTrees$Task;)V"⟩
abbrev cX7_drop : ByteArray := prog_9_method_5_code
def yX7_drop : MethodName := ⟨RX7, "drop", "(LTaskTrees$Task;)V"⟩
abbrev cX7_holder : ByteArray := prog_9_method_6_code
def yX7_holder : MethodName := ⟨RX7, "holder", "(I)LTaskTrees$Task;"⟩
abbrev cX7_numberOf : ByteArray := prog_9_method_7_code
def yX7_numberOf : MethodName := ⟨RX7, "numberOf", "(LTaskTrees$Task;)I"⟩
def RX8 : String := "TaskTrees$Task"
def TX8 : u_T := fun k => match k with
  | 0 => ("TaskTrees$Task", "id", "I", true)
  | 1 => ("TaskTrees$Task", "space", "LTaskTrees$Space;", true)
  | 2 => ("TaskTrees$Task", "view", "LTaskTrees$View;", true)
  | 3 => ("TaskTrees$Task", "parent", "LTaskTrees$Task;", false)
  | 4 => ("TaskTrees$Task", "group", "LTaskTrees$Group;", false)
  | 5 => ("TaskTrees$Task", "state", "I", false)
  | 6 => ("TaskTrees$Task", "pages", "I", false)
  | 7 => ("TaskTrees$Task", "points", "I", false)
  | 8 => ("TaskTrees$Task", "ticksRun", "I", false)
  | 9 => ("TaskTrees$Task", "asleep", "Z", false)
  | _ => ("TaskTrees$Task", "clockTime", "J", false)
def tyX8 : Nat → FieldType := fun k => match k with
  | 0 => .int
  | 1 => .object "TaskTrees$Space"
  | 2 => .object "TaskTrees$View"
  | 3 => .object "TaskTrees$Task"
  | 4 => .object "TaskTrees$Group"
  | 5 => .int
  | 6 => .int
  | 7 => .int
  | 8 => .int
  | 9 => .boolean
  | _ => .long
abbrev wsX80 : List Cond := u_ws RX8 TX8 11
theorem nmX8 : ∀ a, a < 11 → ∀ b, b < 11 → a ≠ b → (TX8 a).2.1 ≠ (TX8 b).2.1 := by decide +kernel
theorem tyX8_ok : ∀ k, k < 11 → parseFieldDescriptor (TX8 k).2.2.1 = some (tyX8 k) := by decide +kernel
abbrev cX8_init : ByteArray := prog_10_method_1_code
def yX8_init : MethodName := ⟨RX8, "<init>", "(ILTaskTrees$Task;LTaskTrees$Space;LTaskTrees$Group;LTaskTrees$View;)V"⟩
abbrev cX8_isReady : ByteArray := prog_10_method_2_code
def yX8_isReady : MethodName := ⟨RX8, "isReady", "()Z"⟩
abbrev cX8_mayBeKilled : ByteArray := prog_10_method_3_code
def yX8_mayBeKilled : MethodName := ⟨RX8, "mayBeKilled", "()Z"⟩
abbrev cX8_score : ByteArray := prog_10_method_4_code
def yX8_score : MethodName := ⟨RX8, "score", "()I"⟩
abbrev cX8_isLostZombie : ByteArray := prog_10_method_5_code
def yX8_isLostZombie : MethodName := ⟨RX8, "isLostZombie", "()Z"⟩
abbrev cX8_heir : ByteArray := prog_10_method_6_code
def yX8_heir : MethodName := ⟨RX8, "heir", "()LTaskTrees$Task;"⟩
abbrev cX8_hold : ByteArray := prog_10_method_7_code
def yX8_hold : MethodName := ⟨RX8, "hold", "(I)V"⟩
abbrev cX8_changeGroup : ByteArray := prog_10_method_8_code
def yX8_changeGroup : MethodName := ⟨RX8, "changeGroup", "(LTaskTrees$Group;)V"⟩
abbrev cX8_vanish : ByteArray := prog_10_method_9_code
def yX8_vanish : MethodName := ⟨RX8, "vanish", "()V"⟩
abbrev cX8_tell : ByteArray := prog_10_method_10_code
def yX8_tell : MethodName := ⟨RX8, "tell", "(I)I"⟩
def RX9 : String := "TaskTrees$TaskTable"
def TX9 : u_T := fun k => match k with
  | 0 => ("TaskTrees$TaskTable", "rows", "[LTaskTrees$Task;", true)
  | 1 => ("TaskTrees$TaskTable", "spaces", "[LTaskTrees$Space;", true)
  | 2 => ("TaskTrees$TaskTable", "made", "I", false)
  | _ => ("TaskTrees$TaskTable", "spacesMade", "I", false)
def tyX9 : Nat → FieldType := fun k => match k with
  | 0 => .array (.object "TaskTrees$Task")
  | 1 => .array (.object "TaskTrees$Space")
  | 2 => .int
  | _ => .int
abbrev wsX90 : List Cond := u_ws RX9 TX9 4
theorem nmX9 : ∀ a, a < 4 → ∀ b, b < 4 → a ≠ b → (TX9 a).2.1 ≠ (TX9 b).2.1 := by decide +kernel
theorem tyX9_ok : ∀ k, k < 4 → parseFieldDescriptor (TX9 k).2.2.1 = some (tyX9 k) := by decide +kernel
abbrev cX9_init : ByteArray := prog_11_method_1_code
def yX9_init : MethodName := ⟨RX9, "<init>", "()V"⟩
abbrev cX9_everMade : ByteArray := prog_11_method_2_code
def yX9_everMade : MethodName := ⟨RX9, "everMade", "(I)LTaskTrees$Task;"⟩
abbrev cX9_living : ByteArray := prog_11_method_3_code
def yX9_living : MethodName := ⟨RX9, "living", "(I)LTaskTrees$Task;"⟩
abbrev cX9_spaceAt : ByteArray := prog_11_method_4_code
def yX9_spaceAt : MethodName := ⟨RX9, "spaceAt", "(I)LTaskTrees$Space;"⟩
abbrev cX9_inState : ByteArray := prog_11_method_5_code
def yX9_inState : MethodName := ⟨RX9, "inState", "(I)I"⟩
abbrev cX9_hasRoom : ByteArray := prog_11_method_6_code
def yX9_hasRoom : MethodName := ⟨RX9, "hasRoom", "(LTaskTrees$Space;Z)Z"⟩
abbrev cX9_openSpace : ByteArray := prog_11_method_7_code
def yX9_openSpace : MethodName := ⟨RX9, "openSpace", "(LTaskTrees$Space;)LTaskTrees$Space;"⟩
abbrev cX9_bear : ByteArray := prog_11_method_8_code
def yX9_bear : MethodName := ⟨RX9, "bear", "(LTaskTrees$Task;LTaskTrees$Space;LTaskTrees$Group;LTaskTrees$View;)LTaskTrees$Task;"⟩
abbrev cX9_end : ByteArray := prog_11_method_9_code
def yX9_end : MethodName := ⟨RX9, "end", "(LTaskTrees$Task;)I"⟩
abbrev cX9_retire : ByteArray := prog_11_method_10_code
def yX9_retire : MethodName := ⟨RX9, "retire", "(LTaskTrees$Task;)V"⟩
abbrev cX9_emptySpace : ByteArray := prog_11_method_11_code
def yX9_emptySpace : MethodName := ⟨RX9, "emptySpace", "(LTaskTrees$Task;)I"⟩
abbrev cX9_dropLostZombies : ByteArray := prog_11_method_12_code
def yX9_dropLostZombies : MethodName := ⟨RX9, "dropLostZombies", "()V"⟩
abbrev cX9_bury : ByteArray := prog_11_method_13_code
def yX9_bury : MethodName := ⟨RX9, "bury", "(LTaskTrees$Task;)I"⟩
abbrev cX9_victimIn : ByteArray := prog_11_method_14_code
def yX9_victimIn : MethodName := ⟨RX9, "victimIn", "(LTaskTrees$Group;)LTaskTrees$Task;"⟩
def RX10 : String := "TaskTrees$View"
def TX10 : u_T := fun k => match k with
  | 0 => ("TaskTrees$View", "id", "I", true)
  | _ => ("TaskTrees$View", "root", "LTaskTrees$Mount;", false)
def tyX10 : Nat → FieldType := fun k => match k with
  | 0 => .int
  | _ => .object "TaskTrees$Mount"
abbrev wsX100 : List Cond := u_ws RX10 TX10 2
theorem nmX10 : ∀ a, a < 2 → ∀ b, b < 2 → a ≠ b → (TX10 a).2.1 ≠ (TX10 b).2.1 := by decide +kernel
theorem tyX10_ok : ∀ k, k < 2 → parseFieldDescriptor (TX10 k).2.2.1 = some (tyX10 k) := by decide +kernel
abbrev cX10_init : ByteArray := prog_12_method_1_code
def yX10_init : MethodName := ⟨RX10, "<init>", "(I)V"⟩
def RX11 : String := "TaskTrees"
def TX11 : u_T := fun k => match k with
  | 0 => ("TaskTrees", "groups", "LTaskTrees$GroupTable;", true)
  | 1 => ("TaskTrees", "tasks", "LTaskTrees$TaskTable;", true)
  | 2 => ("TaskTrees", "memory", "LTaskTrees$Memory;", true)
  | 3 => ("TaskTrees", "clock", "LTaskTrees$Clock;", true)
  | _ => ("TaskTrees", "mounts", "LTaskTrees$MountTable;", true)
def tyX11 : Nat → FieldType := fun k => match k with
  | 0 => .object "TaskTrees$GroupTable"
  | 1 => .object "TaskTrees$TaskTable"
  | 2 => .object "TaskTrees$Memory"
  | 3 => .object "TaskTrees$Clock"
  | _ => .object "TaskTrees$MountTable"
abbrev wsX110 : List Cond := u_ws RX11 TX11 5
theorem nmX11 : ∀ a, a < 5 → ∀ b, b < 5 → a ≠ b → (TX11 a).2.1 ≠ (TX11 b).2.1 := by decide +kernel
theorem tyX11_ok : ∀ k, k < 5 → parseFieldDescriptor (TX11 k).2.2.1 = some (tyX11 k) := by decide +kernel
abbrev cX11_init : ByteArray := prog_1_method_1_code
def yX11_init : MethodName := ⟨RX11, "<init>", "()V"⟩
abbrev cX11_fork : ByteArray := prog_1_method_2_code
def yX11_fork : MethodName := ⟨RX11, "fork", "(IZZ)I"⟩
abbrev cX11_exit : ByteArray := prog_1_method_3_code
def yX11_exit : MethodName := ⟨RX11, "exit", "(I)I"⟩
abbrev cX11_reap : ByteArray := prog_1_method_4_code
def yX11_reap : MethodName := ⟨RX11, "reap", "(I)I"⟩
abbrev cX11_kill : ByteArray := prog_1_method_5_code
def yX11_kill : MethodName := ⟨RX11, "kill", "(II)I"⟩
abbrev cX11_number : ByteArray := prog_1_method_6_code
def yX11_number : MethodName := ⟨RX11, "number", "(II)I"⟩
abbrev cX11_find : ByteArray := prog_1_method_7_code
def yX11_find : MethodName := ⟨RX11, "find", "(II)I"⟩
abbrev cX11_task : ByteArray := prog_1_method_8_code
def yX11_task : MethodName := ⟨RX11, "task", "(II)I"⟩
abbrev cX11_count : ByteArray := prog_1_method_9_code
def yX11_count : MethodName := ⟨RX11, "count", "(I)I"⟩
abbrev cX11_group : ByteArray := prog_1_method_10_code
def yX11_group : MethodName := ⟨RX11, "group", "(I)I"⟩
abbrev cX11_set : ByteArray := prog_1_method_11_code
def yX11_set : MethodName := ⟨RX11, "set", "(III)I"⟩
abbrev cX11_told : ByteArray := prog_1_method_12_code
def yX11_told : MethodName := ⟨RX11, "told", "(II)I"⟩
abbrev cX11_charge : ByteArray := prog_1_method_13_code
def yX11_charge : MethodName := ⟨RX11, "charge", "(II)I"⟩
abbrev cX11_release : ByteArray := prog_1_method_14_code
def yX11_release : MethodName := ⟨RX11, "release", "(II)I"⟩
abbrev cX11_cache : ByteArray := prog_1_method_15_code
def yX11_cache : MethodName := ⟨RX11, "cache", "(II)I"⟩
abbrev cX11_move : ByteArray := prog_1_method_16_code
def yX11_move : MethodName := ⟨RX11, "move", "(II)I"⟩
abbrev cX11_badness : ByteArray := prog_1_method_17_code
def yX11_badness : MethodName := ⟨RX11, "badness", "(II)I"⟩
abbrev cX11_ticks : ByteArray := prog_1_method_18_code
def yX11_ticks : MethodName := ⟨RX11, "ticks", "(I)I"⟩
abbrev cX11_sleep : ByteArray := prog_1_method_19_code
def yX11_sleep : MethodName := ⟨RX11, "sleep", "(IZ)I"⟩
abbrev cX11_ran : ByteArray := prog_1_method_20_code
def yX11_ran : MethodName := ⟨RX11, "ran", "(I)I"⟩
abbrev cX11_time : ByteArray := prog_1_method_21_code
def yX11_time : MethodName := ⟨RX11, "time", "(ZI)J"⟩
abbrev cX11_mount : ByteArray := prog_1_method_22_code
def yX11_mount : MethodName := ⟨RX11, "mount", "(IIIZ)I"⟩
abbrev cX11_unmount : ByteArray := prog_1_method_23_code
def yX11_unmount : MethodName := ⟨RX11, "unmount", "(II)I"⟩
abbrev cX11_at : ByteArray := prog_1_method_24_code
def yX11_at : MethodName := ⟨RX11, "at", "(II)I"⟩
abbrev cX11_share : ByteArray := prog_1_method_25_code
def yX11_share : MethodName := ⟨RX11, "share", "(IZ)I"⟩
abbrev cX11_mounted : ByteArray := prog_1_method_26_code
def yX11_mounted : MethodName := ⟨RX11, "mounted", "(II)I"⟩
def RX12 : String := "TaskTreesModel"
def TX12 : u_T := fun k => match k with
  | 0 => ("TaskTreesModel", "thrown", "I", false)
  | 1 => ("TaskTreesModel", "tasks", "I", false)
  | 2 => ("TaskTreesModel", "state", "[I", true)
  | 3 => ("TaskTreesModel", "parent", "[I", true)
  | 4 => ("TaskTreesModel", "space", "[I", true)
  | 5 => ("TaskTreesModel", "group", "[I", true)
  | 6 => ("TaskTreesModel", "view", "[I", true)
  | 7 => ("TaskTreesModel", "pages", "[I", true)
  | 8 => ("TaskTreesModel", "badness", "[I", true)
  | 9 => ("TaskTreesModel", "asleep", "[Z", true)
  | 10 => ("TaskTreesModel", "time", "[J", true)
  | 11 => ("TaskTreesModel", "ran", "[I", true)
  | 12 => ("TaskTreesModel", "numbers", "[I", true)
  | 13 => ("TaskTreesModel", "spaces", "I", false)
  | 14 => ("TaskTreesModel", "around", "[I", true)
  | 15 => ("TaskTreesModel", "init", "[I", true)
  | 16 => ("TaskTreesModel", "given", "[I", true)
  | 17 => ("TaskTreesModel", "groups", "I", false)
  | 18 => ("TaskTreesModel", "within", "[I", true)
  | 19 => ("TaskTreesModel", "most", "[I", true)
  | 20 => ("TaskTreesModel", "max", "[I", true)
  | 21 => ("TaskTreesModel", "weight", "[I", true)
  | 22 => ("TaskTreesModel", "quota", "[I", true)
  | 23 => ("TaskTreesModel", "cached", "[I", true)
  | 24 => ("TaskTreesModel", "ranNow", "[I", true)
  | 25 => ("TaskTreesModel", "groupTime", "[J", true)
  | 26 => ("TaskTreesModel", "clock", "I", false)
  | 27 => ("TaskTreesModel", "victims", "I", false)
  | 28 => ("TaskTreesModel", "views", "I", false)
  | 29 => ("TaskTreesModel", "root", "[I", true)
  | 30 => ("TaskTreesModel", "there", "[Z", true)
  | 31 => ("TaskTreesModel", "viewOf", "[I", true)
  | 32 => ("TaskTreesModel", "inMount", "[I", true)
  | 33 => ("TaskTreesModel", "inPlace", "[I", true)
  | 34 => ("TaskTreesModel", "volumes", "[I", true)
  | 35 => ("TaskTreesModel", "peers", "[I", true)
  | 36 => ("TaskTreesModel", "peerLast", "I", false)
  | 37 => ("TaskTreesModel", "atMount", "I", false)
  | 38 => ("TaskTreesModel", "atPlace", "I", false)
  | 39 => ("TaskTreesModel", "has", "[Z", true)
  | _ => ("TaskTreesModel", "copies", "[I", true)
def tyX12 : Nat → FieldType := fun k => match k with
  | 0 => .int
  | 1 => .int
  | 2 => .array .int
  | 3 => .array .int
  | 4 => .array .int
  | 5 => .array .int
  | 6 => .array .int
  | 7 => .array .int
  | 8 => .array .int
  | 9 => .array .boolean
  | 10 => .array .long
  | 11 => .array .int
  | 12 => .array .int
  | 13 => .int
  | 14 => .array .int
  | 15 => .array .int
  | 16 => .array .int
  | 17 => .int
  | 18 => .array .int
  | 19 => .array .int
  | 20 => .array .int
  | 21 => .array .int
  | 22 => .array .int
  | 23 => .array .int
  | 24 => .array .int
  | 25 => .array .long
  | 26 => .int
  | 27 => .int
  | 28 => .int
  | 29 => .array .int
  | 30 => .array .boolean
  | 31 => .array .int
  | 32 => .array .int
  | 33 => .array .int
  | 34 => .array .int
  | 35 => .array .int
  | 36 => .int
  | 37 => .int
  | 38 => .int
  | 39 => .array .boolean
  | _ => .array .int
abbrev wsX120 : List Cond := u_ws RX12 TX12 41
theorem nmX12 : ∀ a, a < 41 → ∀ b, b < 41 → a ≠ b → (TX12 a).2.1 ≠ (TX12 b).2.1 := by decide +kernel
theorem tyX12_ok : ∀ k, k < 41 → parseFieldDescriptor (TX12 k).2.2.1 = some (tyX12 k) := by decide +kernel
abbrev cX12_init : ByteArray := prog_14_method_1_code
def yX12_init : MethodName := ⟨RX12, "<init>", "()V"⟩
abbrev cX12_thrown : ByteArray := prog_14_method_2_code
def yX12_thrown : MethodName := ⟨RX12, "thrown", "()I"⟩
abbrev cX12_in : ByteArray := prog_14_method_3_code
def yX12_in : MethodName := ⟨RX12, "in", "(JJJ)Z"⟩
abbrev cX12_isTask : ByteArray := prog_14_method_4_code
def yX12_isTask : MethodName := ⟨RX12, "isTask", "(I)Z"⟩
abbrev cX12_isLive : ByteArray := prog_14_method_5_code
def yX12_isLive : MethodName := ⟨RX12, "isLive", "(I)Z"⟩
abbrev cX12_isGroup : ByteArray := prog_14_method_6_code
def yX12_isGroup : MethodName := ⟨RX12, "isGroup", "(I)Z"⟩
abbrev cX12_liesIn : ByteArray := prog_14_method_7_code
def yX12_liesIn : MethodName := ⟨RX12, "liesIn", "(II)Z"⟩
abbrev cX12_isWithin : ByteArray := prog_14_method_8_code
def yX12_isWithin : MethodName := ⟨RX12, "isWithin", "(II)Z"⟩
abbrev cX12_holder : ByteArray := prog_14_method_9_code
def yX12_holder : MethodName := ⟨RX12, "holder", "(II)I"⟩
abbrev cX12_nextNumber : ByteArray := prog_14_method_10_code
def yX12_nextNumber : MethodName := ⟨RX12, "nextNumber", "(I)I"⟩
abbrev cX12_depth : ByteArray := prog_14_method_11_code
def yX12_depth : MethodName := ⟨RX12, "depth", "(I)I"⟩
abbrev cX12_freeMounts : ByteArray := prog_14_method_12_code
def yX12_freeMounts : MethodName := ⟨RX12, "freeMounts", "()I"⟩
abbrev cX12_mountsOf : ByteArray := prog_14_method_13_code
def yX12_mountsOf : MethodName := ⟨RX12, "mountsOf", "(I)I"⟩
abbrev cX12_fork : ByteArray := prog_14_method_14_code
def yX12_fork : MethodName := ⟨RX12, "fork", "(IZZ)I"⟩
abbrev cX12_forget : ByteArray := prog_14_method_15_code
def yX12_forget : MethodName := ⟨RX12, "forget", "(I)V"⟩
abbrev cX12_end : ByteArray := prog_14_method_16_code
def yX12_end : MethodName := ⟨RX12, "end", "(I)V"⟩
abbrev cX12_leave : ByteArray := prog_14_method_17_code
def yX12_leave : MethodName := ⟨RX12, "leave", "(I)I"⟩
abbrev cX12_exit : ByteArray := prog_14_method_18_code
def yX12_exit : MethodName := ⟨RX12, "exit", "(I)I"⟩
abbrev cX12_reap : ByteArray := prog_14_method_19_code
def yX12_reap : MethodName := ⟨RX12, "reap", "(I)I"⟩
abbrev cX12_kill : ByteArray := prog_14_method_20_code
def yX12_kill : MethodName := ⟨RX12, "kill", "(II)I"⟩
abbrev cX12_number : ByteArray := prog_14_method_21_code
def yX12_number : MethodName := ⟨RX12, "number", "(II)I"⟩
abbrev cX12_find : ByteArray := prog_14_method_22_code
def yX12_find : MethodName := ⟨RX12, "find", "(II)I"⟩
abbrev cX12_task : ByteArray := prog_14_method_23_code
def yX12_task : MethodName := ⟨RX12, "task", "(II)I"⟩
abbrev cX12_count : ByteArray := prog_14_method_24_code
def yX12_count : MethodName := ⟨RX12, "count", "(I)I"⟩
abbrev cX12_newGroup : ByteArray := prog_14_method_25_code
def yX12_newGroup : MethodName := ⟨RX12, "newGroup", "(I)I"⟩
abbrev cX12_liveIn : ByteArray := prog_14_method_26_code
def yX12_liveIn : MethodName := ⟨RX12, "liveIn", "(I)I"⟩
abbrev cX12_uses : ByteArray := prog_14_method_27_code
def yX12_uses : MethodName := ⟨RX12, "uses", "(I)I"⟩
abbrev cX12_group : ByteArray := prog_14_method_28_code
def yX12_group : MethodName := ⟨RX12, "group", "(I)I"⟩
abbrev cX12_set : ByteArray := prog_14_method_29_code
def yX12_set : MethodName := ⟨RX12, "set", "(III)I"⟩
abbrev cX12_told : ByteArray := prog_14_method_30_code
def yX12_told : MethodName := ⟨RX12, "told", "(II)I"⟩
abbrev cX12_tooFull : ByteArray := prog_14_method_31_code
def yX12_tooFull : MethodName := ⟨RX12, "tooFull", "(II)I"⟩
abbrev cX12_takeCache : ByteArray := prog_14_method_32_code
def yX12_takeCache : MethodName := ⟨RX12, "takeCache", "(II)V"⟩
abbrev cX12_victim : ByteArray := prog_14_method_33_code
def yX12_victim : MethodName := ⟨RX12, "victim", "(I)I"⟩
abbrev cX12_makeRoom : ByteArray := prog_14_method_34_code
def yX12_makeRoom : MethodName := ⟨RX12, "makeRoom", "(II)I"⟩
abbrev cX12_charge : ByteArray := prog_14_method_35_code
def yX12_charge : MethodName := ⟨RX12, "charge", "(II)I"⟩
abbrev cX12_release : ByteArray := prog_14_method_36_code
def yX12_release : MethodName := ⟨RX12, "release", "(II)I"⟩
abbrev cX12_cache : ByteArray := prog_14_method_37_code
def yX12_cache : MethodName := ⟨RX12, "cache", "(II)I"⟩
abbrev cX12_move : ByteArray := prog_14_method_38_code
def yX12_move : MethodName := ⟨RX12, "move", "(II)I"⟩
abbrev cX12_badness : ByteArray := prog_14_method_39_code
def yX12_badness : MethodName := ⟨RX12, "badness", "(II)I"⟩
abbrev cX12_isReady : ByteArray := prog_14_method_40_code
def yX12_isReady : MethodName := ⟨RX12, "isReady", "(I)Z"⟩
abbrev cX12_findReady : ByteArray := prog_14_method_41_code
def yX12_findReady : MethodName := ⟨RX12, "findReady", "()V"⟩
abbrev cX12_leastTime : ByteArray := prog_14_method_42_code
def yX12_leastTime : MethodName := ⟨RX12, "leastTime", "(IZI)J"⟩
abbrev cX12_come : ByteArray := prog_14_method_43_code
def yX12_come : MethodName := ⟨RX12, "come", "(IZ)V"⟩
abbrev cX12_tick : ByteArray := prog_14_method_44_code
def yX12_tick : MethodName := ⟨RX12, "tick", "()I"⟩
abbrev cX12_ticks : ByteArray := prog_14_method_45_code
def yX12_ticks : MethodName := ⟨RX12, "ticks", "(I)I"⟩
abbrev cX12_sleep : ByteArray := prog_14_method_46_code
def yX12_sleep : MethodName := ⟨RX12, "sleep", "(IZ)I"⟩
abbrev cX12_ran : ByteArray := prog_14_method_47_code
def yX12_ran : MethodName := ⟨RX12, "ran", "(I)I"⟩
abbrev cX12_time : ByteArray := prog_14_method_48_code
def yX12_time : MethodName := ⟨RX12, "time", "(ZI)J"⟩
abbrev cX12_make : ByteArray := prog_14_method_49_code
def yX12_make : MethodName := ⟨RX12, "make", "(IIIII)I"⟩
abbrev cX12_copyView : ByteArray := prog_14_method_50_code
def yX12_copyView : MethodName := ⟨RX12, "copyView", "(I)I"⟩
abbrev cX12_mountAt : ByteArray := prog_14_method_51_code
def yX12_mountAt : MethodName := ⟨RX12, "mountAt", "(II)I"⟩
abbrev cX12_rise : ByteArray := prog_14_method_52_code
def yX12_rise : MethodName := ⟨RX12, "rise", "()V"⟩
abbrev cX12_walk : ByteArray := prog_14_method_53_code
def yX12_walk : MethodName := ⟨RX12, "walk", "(II)Z"⟩
abbrev cX12_mount : ByteArray := prog_14_method_54_code
def yX12_mount : MethodName := ⟨RX12, "mount", "(IIIZ)I"⟩
abbrev cX12_isPeer : ByteArray := prog_14_method_55_code
def yX12_isPeer : MethodName := ⟨RX12, "isPeer", "(III)Z"⟩
abbrev cX12_isBusy : ByteArray := prog_14_method_56_code
def yX12_isBusy : MethodName := ⟨RX12, "isBusy", "(I)Z"⟩
abbrev cX12_unmount : ByteArray := prog_14_method_57_code
def yX12_unmount : MethodName := ⟨RX12, "unmount", "(II)I"⟩
abbrev cX12_at : ByteArray := prog_14_method_58_code
def yX12_at : MethodName := ⟨RX12, "at", "(II)I"⟩
abbrev cX12_share : ByteArray := prog_14_method_59_code
def yX12_share : MethodName := ⟨RX12, "share", "(IZ)I"⟩
abbrev cX12_mounted : ByteArray := prog_14_method_60_code
def yX12_mounted : MethodName := ⟨RX12, "mounted", "(II)I"⟩
def RL : String := "TaskTreesLaw"
abbrev cL_number : ByteArray := method_3_code
def yL_number : MethodName := ⟨RL, "number", "(LTaskTrees;II[J)I"⟩
abbrev cL_find : ByteArray := method_4_code
def yL_find : MethodName := ⟨RL, "find", "(LTaskTrees;II[J)I"⟩
abbrev cL_task : ByteArray := method_5_code
def yL_task : MethodName := ⟨RL, "task", "(LTaskTrees;II[J)I"⟩
abbrev cL_count : ByteArray := method_6_code
def yL_count : MethodName := ⟨RL, "count", "(LTaskTrees;I[J)I"⟩
abbrev cL_set : ByteArray := method_7_code
def yL_set : MethodName := ⟨RL, "set", "(LTaskTrees;III[J)I"⟩
abbrev cL_told : ByteArray := method_8_code
def yL_told : MethodName := ⟨RL, "told", "(LTaskTrees;II[J)I"⟩
abbrev cL_charge : ByteArray := method_9_code
def yL_charge : MethodName := ⟨RL, "charge", "(LTaskTrees;II[J)I"⟩
abbrev cL_release : ByteArray := method_10_code
def yL_release : MethodName := ⟨RL, "release", "(LTaskTrees;II[J)I"⟩
abbrev cL_cache : ByteArray := method_11_code
def yL_cache : MethodName := ⟨RL, "cache", "(LTaskTrees;II[J)I"⟩
abbrev cL_badness : ByteArray := method_12_code
def yL_badness : MethodName := ⟨RL, "badness", "(LTaskTrees;II[J)I"⟩
abbrev cL_ticks : ByteArray := method_13_code
def yL_ticks : MethodName := ⟨RL, "ticks", "(LTaskTrees;I[J)I"⟩
abbrev cL_mount : ByteArray := method_14_code
def yL_mount : MethodName := ⟨RL, "mount", "(LTaskTrees;IIIZ[J)I"⟩
abbrev cL_share : ByteArray := method_15_code
def yL_share : MethodName := ⟨RL, "share", "(LTaskTrees;IZ[J)I"⟩
abbrev cL_mounted : ByteArray := method_16_code
def yL_mounted : MethodName := ⟨RL, "mounted", "(LTaskTrees;II[J)I"⟩
abbrev cL_law : ByteArray := code
def yL_law : MethodName := ⟨RL, "law", "([I)Z"⟩
abbrev vwCl : List vw_C := [(RX0, TX0, 3), (RX1, TX1, 14), (RX2, TX2, 2), (RX3, TX3, 3), (RX4, TX4, 9), (RX5, TX5, 6), (RX6, TX6, 2), (RX7, TX7, 6), (RX8, TX8, 11), (RX9, TX9, 4), (RX10, TX10, 2), (RX11, TX11, 5), (RX12, TX12, 41)]
end
section
set_option maxRecDepth 20000 in
theorem tst_1 : lw_tbl[517]? = some (Cond.instanceMethod yX0_admit) := rfl
set_option maxRecDepth 20000 in
theorem tst_2 : lw_tbl[516]? = some (Cond.methodLink "TaskTrees" 98 yX0_admit) := rfl
set_option maxRecDepth 20000 in
theorem tst_3 : lw_tbl[519]? = some (Cond.code yX0_admit cX0_admit 5 none) := rfl
end
