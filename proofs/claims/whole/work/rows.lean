section
-- ===== PART A: goes FIRST, ahead of the names: the tables' words, and 'selects' of the private methods out of them =====
/-- a private method of a class that the tables say can be made, by its rows of tables_1 -/
def lw_okq (q : MethodName × Nat) : Prop := (q.1.cls ≠ "java/lang/invoke/MethodHandle" ∧ q.1.cls ≠ "java/lang/invoke/VarHandle") ∧ Cond.instantiable q.1.cls q.2 ∈ tables_1 ∧ Cond.privateMethod q.1 ∈ tables_1 ∧ Cond.instanceMethod q.1 ∈ tables_1
theorem lw_p0 : lw_okq (⟨"TaskTrees$MountTable", "addView", "()LTaskTrees$View;"⟩, 6) := ⟨⟨by decide +kernel, by decide +kernel⟩, List.mem_of_getElem? (i := 108) (by decide +kernel), List.mem_of_getElem? (i := 305) (by decide +kernel), List.mem_of_getElem? (i := 306) (by decide +kernel)⟩
theorem lw_p1 : lw_okq (⟨"TaskTrees$MountTable", "occupy", "(LTaskTrees$View;II)LTaskTrees$Mount;"⟩, 6) := ⟨⟨by decide +kernel, by decide +kernel⟩, List.mem_of_getElem? (i := 108) (by decide +kernel), List.mem_of_getElem? (i := 325) (by decide +kernel), List.mem_of_getElem? (i := 326) (by decide +kernel)⟩
theorem lw_p2 : lw_okq (⟨"TaskTrees$Mount", "cover", "(ILTaskTrees$Mount;)V"⟩, 9) := ⟨⟨by decide +kernel, by decide +kernel⟩, List.mem_of_getElem? (i := 132) (by decide +kernel), List.mem_of_getElem? (i := 461) (by decide +kernel), List.mem_of_getElem? (i := 462) (by decide +kernel)⟩
theorem lw_p3 : lw_okq (⟨"TaskTrees$Clock", "look", "(LTaskTrees$Task;)V"⟩, 3) := ⟨⟨by decide +kernel, by decide +kernel⟩, List.mem_of_getElem? (i := 91) (by decide +kernel), List.mem_of_getElem? (i := 469) (by decide +kernel), List.mem_of_getElem? (i := 470) (by decide +kernel)⟩
theorem lw_p4 : lw_okq (⟨"TaskTrees$Clock", "offerTask", "(LTaskTrees$Task;)V"⟩, 3) := ⟨⟨by decide +kernel, by decide +kernel⟩, List.mem_of_getElem? (i := 91) (by decide +kernel), List.mem_of_getElem? (i := 477) (by decide +kernel), List.mem_of_getElem? (i := 478) (by decide +kernel)⟩
theorem lw_p5 : lw_okq (⟨"TaskTrees$Clock", "offerGroup", "(LTaskTrees$Group;)V"⟩, 3) := ⟨⟨by decide +kernel, by decide +kernel⟩, List.mem_of_getElem? (i := 91) (by decide +kernel), List.mem_of_getElem? (i := 485) (by decide +kernel), List.mem_of_getElem? (i := 486) (by decide +kernel)⟩
theorem lw_p6 : lw_okq (⟨"TaskTrees$TaskTable", "retire", "(LTaskTrees$Task;)V"⟩, 4) := ⟨⟨by decide +kernel, by decide +kernel⟩, List.mem_of_getElem? (i := 47) (by decide +kernel), List.mem_of_getElem? (i := 509) (by decide +kernel), List.mem_of_getElem? (i := 510) (by decide +kernel)⟩
theorem lw_p7 : lw_okq (⟨"TaskTrees$TaskTable", "emptySpace", "(LTaskTrees$Task;)I"⟩, 4) := ⟨⟨by decide +kernel, by decide +kernel⟩, List.mem_of_getElem? (i := 47) (by decide +kernel), List.mem_of_getElem? (i := 521) (by decide +kernel), List.mem_of_getElem? (i := 522) (by decide +kernel)⟩
theorem lw_p8 : lw_okq (⟨"TaskTrees$TaskTable", "dropLostZombies", "()V"⟩, 4) := ⟨⟨by decide +kernel, by decide +kernel⟩, List.mem_of_getElem? (i := 47) (by decide +kernel), List.mem_of_getElem? (i := 537) (by decide +kernel), List.mem_of_getElem? (i := 538) (by decide +kernel)⟩
theorem lw_p9 : lw_okq (⟨"TaskTrees$Place", "enter", "(LTaskTrees$Mount;I)V"⟩, 2) := ⟨⟨by decide +kernel, by decide +kernel⟩, List.mem_of_getElem? (i := 118) (by decide +kernel), List.mem_of_getElem? (i := 622) (by decide +kernel), List.mem_of_getElem? (i := 623) (by decide +kernel)⟩
theorem lw_p10 : lw_okq (⟨"TaskTrees$MountTable", "removeOne", "(LTaskTrees$Mount;)V"⟩, 6) := ⟨⟨by decide +kernel, by decide +kernel⟩, List.mem_of_getElem? (i := 108) (by decide +kernel), List.mem_of_getElem? (i := 637) (by decide +kernel), List.mem_of_getElem? (i := 638) (by decide +kernel)⟩
theorem lw_p11 : lw_okq (⟨"java/lang/Throwable", "fillInStackTrace", "(I)Ljava/lang/Throwable;"⟩, 6) := ⟨⟨by decide +kernel, by decide +kernel⟩, List.mem_of_getElem? (i := 706) (by decide +kernel), List.mem_of_getElem? (i := 704) (by decide +kernel), List.mem_of_getElem? (i := 705) (by decide +kernel)⟩
theorem lw_p12 : lw_okq (⟨"TaskTrees$Memory", "takeCaches", "(LTaskTrees$Group;I)V"⟩, 3) := ⟨⟨by decide +kernel, by decide +kernel⟩, List.mem_of_getElem? (i := 74) (by decide +kernel), List.mem_of_getElem? (i := 833) (by decide +kernel), List.mem_of_getElem? (i := 834) (by decide +kernel)⟩
theorem lw_p13 : lw_okq (⟨"TaskTrees$Memory", "killVictims", "(LTaskTrees$Group;LTaskTrees$Task;I)I"⟩, 3) := ⟨⟨by decide +kernel, by decide +kernel⟩, List.mem_of_getElem? (i := 74) (by decide +kernel), List.mem_of_getElem? (i := 851) (by decide +kernel), List.mem_of_getElem? (i := 852) (by decide +kernel)⟩
theorem lw_p14 : lw_okq (⟨"TaskTrees$Clock", "choose", "()LTaskTrees$Task;"⟩, 3) := ⟨⟨by decide +kernel, by decide +kernel⟩, List.mem_of_getElem? (i := 91) (by decide +kernel), List.mem_of_getElem? (i := 909) (by decide +kernel), List.mem_of_getElem? (i := 910) (by decide +kernel)⟩
theorem lw_p15 : lw_okq (⟨"TaskTrees$Clock", "run", "(LTaskTrees$Task;)V"⟩, 3) := ⟨⟨by decide +kernel, by decide +kernel⟩, List.mem_of_getElem? (i := 91) (by decide +kernel), List.mem_of_getElem? (i := 915) (by decide +kernel), List.mem_of_getElem? (i := 916) (by decide +kernel)⟩
def lw_privs_1 : List (MethodName × Nat) := [(⟨"TaskTrees$MountTable", "addView", "()LTaskTrees$View;"⟩, 6), (⟨"TaskTrees$MountTable", "occupy", "(LTaskTrees$View;II)LTaskTrees$Mount;"⟩, 6), (⟨"TaskTrees$Mount", "cover", "(ILTaskTrees$Mount;)V"⟩, 9), (⟨"TaskTrees$Clock", "look", "(LTaskTrees$Task;)V"⟩, 3), (⟨"TaskTrees$Clock", "offerTask", "(LTaskTrees$Task;)V"⟩, 3), (⟨"TaskTrees$Clock", "offerGroup", "(LTaskTrees$Group;)V"⟩, 3), (⟨"TaskTrees$TaskTable", "retire", "(LTaskTrees$Task;)V"⟩, 4), (⟨"TaskTrees$TaskTable", "emptySpace", "(LTaskTrees$Task;)I"⟩, 4), (⟨"TaskTrees$TaskTable", "dropLostZombies", "()V"⟩, 4), (⟨"TaskTrees$Place", "enter", "(LTaskTrees$Mount;I)V"⟩, 2), (⟨"TaskTrees$MountTable", "removeOne", "(LTaskTrees$Mount;)V"⟩, 6), (⟨"java/lang/Throwable", "fillInStackTrace", "(I)Ljava/lang/Throwable;"⟩, 6), (⟨"TaskTrees$Memory", "takeCaches", "(LTaskTrees$Group;I)V"⟩, 3), (⟨"TaskTrees$Memory", "killVictims", "(LTaskTrees$Group;LTaskTrees$Task;I)I"⟩, 3), (⟨"TaskTrees$Clock", "choose", "()LTaskTrees$Task;"⟩, 3), (⟨"TaskTrees$Clock", "run", "(LTaskTrees$Task;)V"⟩, 3)]
theorem lw_r1 : ∀ q ∈ lw_privs_1, lw_okq q := List.forall_mem_cons.mpr ⟨lw_p0, List.forall_mem_cons.mpr ⟨lw_p1, List.forall_mem_cons.mpr ⟨lw_p2, List.forall_mem_cons.mpr ⟨lw_p3, List.forall_mem_cons.mpr ⟨lw_p4, List.forall_mem_cons.mpr ⟨lw_p5, List.forall_mem_cons.mpr ⟨lw_p6, List.forall_mem_cons.mpr ⟨lw_p7, List.forall_mem_cons.mpr ⟨lw_p8, List.forall_mem_cons.mpr ⟨lw_p9, List.forall_mem_cons.mpr ⟨lw_p10, List.forall_mem_cons.mpr ⟨lw_p11, List.forall_mem_cons.mpr ⟨lw_p12, List.forall_mem_cons.mpr ⟨lw_p13, List.forall_mem_cons.mpr ⟨lw_p14, List.forall_mem_cons.mpr ⟨lw_p15, fun _ h => absurd h List.not_mem_nil⟩⟩⟩⟩⟩⟩⟩⟩⟩⟩⟩⟩⟩⟩⟩⟩
theorem lw_p16 : lw_okq (⟨"TaskTrees$Clock", "beginPeriod", "()V"⟩, 3) := ⟨⟨by decide +kernel, by decide +kernel⟩, List.mem_of_getElem? (i := 91) (by decide +kernel), List.mem_of_getElem? (i := 921) (by decide +kernel), List.mem_of_getElem? (i := 922) (by decide +kernel)⟩
theorem lw_p17 : lw_okq (⟨"TaskTrees$MountTable", "placesFor", "(LTaskTrees$Mount;I)I"⟩, 6) := ⟨⟨by decide +kernel, by decide +kernel⟩, List.mem_of_getElem? (i := 108) (by decide +kernel), List.mem_of_getElem? (i := 937) (by decide +kernel), List.mem_of_getElem? (i := 938) (by decide +kernel)⟩
theorem lw_p18 : lw_okq (⟨"TaskTrees$MountTable", "newPeer", "(Z)I"⟩, 6) := ⟨⟨by decide +kernel, by decide +kernel⟩, List.mem_of_getElem? (i := 108) (by decide +kernel), List.mem_of_getElem? (i := 941) (by decide +kernel), List.mem_of_getElem? (i := 942) (by decide +kernel)⟩
theorem lw_p19 : lw_okq (⟨"TaskTrees$MountTable", "addOne", "(LTaskTrees$Mount;III)I"⟩, 6) := ⟨⟨by decide +kernel, by decide +kernel⟩, List.mem_of_getElem? (i := 108) (by decide +kernel), List.mem_of_getElem? (i := 945) (by decide +kernel), List.mem_of_getElem? (i := 946) (by decide +kernel)⟩
theorem lw_p20 : lw_okq (⟨"TaskTreesModel", "newGroup", "(I)I"⟩, 41) := ⟨⟨by decide +kernel, by decide +kernel⟩, List.mem_of_getElem? (i := 981) (by decide +kernel), List.mem_of_getElem? (i := 987) (by decide +kernel), List.mem_of_getElem? (i := 988) (by decide +kernel)⟩
theorem lw_p21 : lw_okq (⟨"TaskTreesModel", "make", "(IIIII)I"⟩, 41) := ⟨⟨by decide +kernel, by decide +kernel⟩, List.mem_of_getElem? (i := 981) (by decide +kernel), List.mem_of_getElem? (i := 992) (by decide +kernel), List.mem_of_getElem? (i := 993) (by decide +kernel)⟩
theorem lw_p22 : lw_okq (⟨"TaskTreesModel", "isLive", "(I)Z"⟩, 41) := ⟨⟨by decide +kernel, by decide +kernel⟩, List.mem_of_getElem? (i := 981) (by decide +kernel), List.mem_of_getElem? (i := 1131) (by decide +kernel), List.mem_of_getElem? (i := 1132) (by decide +kernel)⟩
theorem lw_p23 : lw_okq (⟨"TaskTreesModel", "isTask", "(I)Z"⟩, 41) := ⟨⟨by decide +kernel, by decide +kernel⟩, List.mem_of_getElem? (i := 981) (by decide +kernel), List.mem_of_getElem? (i := 1135) (by decide +kernel), List.mem_of_getElem? (i := 1136) (by decide +kernel)⟩
theorem lw_p24 : lw_okq (⟨"TaskTreesModel", "liveIn", "(I)I"⟩, 41) := ⟨⟨by decide +kernel, by decide +kernel⟩, List.mem_of_getElem? (i := 981) (by decide +kernel), List.mem_of_getElem? (i := 1142) (by decide +kernel), List.mem_of_getElem? (i := 1143) (by decide +kernel)⟩
theorem lw_p25 : lw_okq (⟨"TaskTreesModel", "isWithin", "(II)Z"⟩, 41) := ⟨⟨by decide +kernel, by decide +kernel⟩, List.mem_of_getElem? (i := 981) (by decide +kernel), List.mem_of_getElem? (i := 1146) (by decide +kernel), List.mem_of_getElem? (i := 1147) (by decide +kernel)⟩
theorem lw_p26 : lw_okq (⟨"TaskTreesModel", "depth", "(I)I"⟩, 41) := ⟨⟨by decide +kernel, by decide +kernel⟩, List.mem_of_getElem? (i := 981) (by decide +kernel), List.mem_of_getElem? (i := 1150) (by decide +kernel), List.mem_of_getElem? (i := 1151) (by decide +kernel)⟩
theorem lw_p27 : lw_okq (⟨"TaskTreesModel", "mountsOf", "(I)I"⟩, 41) := ⟨⟨by decide +kernel, by decide +kernel⟩, List.mem_of_getElem? (i := 981) (by decide +kernel), List.mem_of_getElem? (i := 1154) (by decide +kernel), List.mem_of_getElem? (i := 1155) (by decide +kernel)⟩
theorem lw_p28 : lw_okq (⟨"TaskTreesModel", "freeMounts", "()I"⟩, 41) := ⟨⟨by decide +kernel, by decide +kernel⟩, List.mem_of_getElem? (i := 981) (by decide +kernel), List.mem_of_getElem? (i := 1158) (by decide +kernel), List.mem_of_getElem? (i := 1159) (by decide +kernel)⟩
theorem lw_p29 : lw_okq (⟨"TaskTreesModel", "nextNumber", "(I)I"⟩, 41) := ⟨⟨by decide +kernel, by decide +kernel⟩, List.mem_of_getElem? (i := 981) (by decide +kernel), List.mem_of_getElem? (i := 1162) (by decide +kernel), List.mem_of_getElem? (i := 1163) (by decide +kernel)⟩
theorem lw_p30 : lw_okq (⟨"TaskTreesModel", "holder", "(II)I"⟩, 41) := ⟨⟨by decide +kernel, by decide +kernel⟩, List.mem_of_getElem? (i := 981) (by decide +kernel), List.mem_of_getElem? (i := 1166) (by decide +kernel), List.mem_of_getElem? (i := 1167) (by decide +kernel)⟩
theorem lw_p31 : lw_okq (⟨"TaskTreesModel", "copyView", "(I)I"⟩, 41) := ⟨⟨by decide +kernel, by decide +kernel⟩, List.mem_of_getElem? (i := 981) (by decide +kernel), List.mem_of_getElem? (i := 1170) (by decide +kernel), List.mem_of_getElem? (i := 1171) (by decide +kernel)⟩
def lw_privs_2 : List (MethodName × Nat) := [(⟨"TaskTrees$Clock", "beginPeriod", "()V"⟩, 3), (⟨"TaskTrees$MountTable", "placesFor", "(LTaskTrees$Mount;I)I"⟩, 6), (⟨"TaskTrees$MountTable", "newPeer", "(Z)I"⟩, 6), (⟨"TaskTrees$MountTable", "addOne", "(LTaskTrees$Mount;III)I"⟩, 6), (⟨"TaskTreesModel", "newGroup", "(I)I"⟩, 41), (⟨"TaskTreesModel", "make", "(IIIII)I"⟩, 41), (⟨"TaskTreesModel", "isLive", "(I)Z"⟩, 41), (⟨"TaskTreesModel", "isTask", "(I)Z"⟩, 41), (⟨"TaskTreesModel", "liveIn", "(I)I"⟩, 41), (⟨"TaskTreesModel", "isWithin", "(II)Z"⟩, 41), (⟨"TaskTreesModel", "depth", "(I)I"⟩, 41), (⟨"TaskTreesModel", "mountsOf", "(I)I"⟩, 41), (⟨"TaskTreesModel", "freeMounts", "()I"⟩, 41), (⟨"TaskTreesModel", "nextNumber", "(I)I"⟩, 41), (⟨"TaskTreesModel", "holder", "(II)I"⟩, 41), (⟨"TaskTreesModel", "copyView", "(I)I"⟩, 41)]
theorem lw_r2 : ∀ q ∈ lw_privs_2, lw_okq q := List.forall_mem_cons.mpr ⟨lw_p16, List.forall_mem_cons.mpr ⟨lw_p17, List.forall_mem_cons.mpr ⟨lw_p18, List.forall_mem_cons.mpr ⟨lw_p19, List.forall_mem_cons.mpr ⟨lw_p20, List.forall_mem_cons.mpr ⟨lw_p21, List.forall_mem_cons.mpr ⟨lw_p22, List.forall_mem_cons.mpr ⟨lw_p23, List.forall_mem_cons.mpr ⟨lw_p24, List.forall_mem_cons.mpr ⟨lw_p25, List.forall_mem_cons.mpr ⟨lw_p26, List.forall_mem_cons.mpr ⟨lw_p27, List.forall_mem_cons.mpr ⟨lw_p28, List.forall_mem_cons.mpr ⟨lw_p29, List.forall_mem_cons.mpr ⟨lw_p30, List.forall_mem_cons.mpr ⟨lw_p31, fun _ h => absurd h List.not_mem_nil⟩⟩⟩⟩⟩⟩⟩⟩⟩⟩⟩⟩⟩⟩⟩⟩
theorem lw_p32 : lw_okq (⟨"TaskTreesModel", "come", "(IZ)V"⟩, 41) := ⟨⟨by decide +kernel, by decide +kernel⟩, List.mem_of_getElem? (i := 981) (by decide +kernel), List.mem_of_getElem? (i := 1174) (by decide +kernel), List.mem_of_getElem? (i := 1175) (by decide +kernel)⟩
theorem lw_p33 : lw_okq (⟨"TaskTreesModel", "leastTime", "(IZI)J"⟩, 41) := ⟨⟨by decide +kernel, by decide +kernel⟩, List.mem_of_getElem? (i := 981) (by decide +kernel), List.mem_of_getElem? (i := 1178) (by decide +kernel), List.mem_of_getElem? (i := 1179) (by decide +kernel)⟩
theorem lw_p34 : lw_okq (⟨"TaskTreesModel", "findReady", "()V"⟩, 41) := ⟨⟨by decide +kernel, by decide +kernel⟩, List.mem_of_getElem? (i := 981) (by decide +kernel), List.mem_of_getElem? (i := 1183) (by decide +kernel), List.mem_of_getElem? (i := 1184) (by decide +kernel)⟩
theorem lw_p35 : lw_okq (⟨"TaskTreesModel", "isReady", "(I)Z"⟩, 41) := ⟨⟨by decide +kernel, by decide +kernel⟩, List.mem_of_getElem? (i := 981) (by decide +kernel), List.mem_of_getElem? (i := 1187) (by decide +kernel), List.mem_of_getElem? (i := 1188) (by decide +kernel)⟩
theorem lw_p36 : lw_okq (⟨"TaskTreesModel", "leave", "(I)I"⟩, 41) := ⟨⟨by decide +kernel, by decide +kernel⟩, List.mem_of_getElem? (i := 981) (by decide +kernel), List.mem_of_getElem? (i := 1195) (by decide +kernel), List.mem_of_getElem? (i := 1196) (by decide +kernel)⟩
theorem lw_p37 : lw_okq (⟨"TaskTreesModel", "end", "(I)V"⟩, 41) := ⟨⟨by decide +kernel, by decide +kernel⟩, List.mem_of_getElem? (i := 981) (by decide +kernel), List.mem_of_getElem? (i := 1199) (by decide +kernel), List.mem_of_getElem? (i := 1200) (by decide +kernel)⟩
theorem lw_p38 : lw_okq (⟨"TaskTreesModel", "liesIn", "(II)Z"⟩, 41) := ⟨⟨by decide +kernel, by decide +kernel⟩, List.mem_of_getElem? (i := 981) (by decide +kernel), List.mem_of_getElem? (i := 1203) (by decide +kernel), List.mem_of_getElem? (i := 1204) (by decide +kernel)⟩
theorem lw_p39 : lw_okq (⟨"TaskTreesModel", "forget", "(I)V"⟩, 41) := ⟨⟨by decide +kernel, by decide +kernel⟩, List.mem_of_getElem? (i := 981) (by decide +kernel), List.mem_of_getElem? (i := 1207) (by decide +kernel), List.mem_of_getElem? (i := 1208) (by decide +kernel)⟩
theorem lw_p40 : lw_okq (⟨"TaskTreesModel", "isGroup", "(I)Z"⟩, 41) := ⟨⟨by decide +kernel, by decide +kernel⟩, List.mem_of_getElem? (i := 981) (by decide +kernel), List.mem_of_getElem? (i := 1242) (by decide +kernel), List.mem_of_getElem? (i := 1243) (by decide +kernel)⟩
theorem lw_p41 : lw_okq (⟨"TaskTreesModel", "uses", "(I)I"⟩, 41) := ⟨⟨by decide +kernel, by decide +kernel⟩, List.mem_of_getElem? (i := 981) (by decide +kernel), List.mem_of_getElem? (i := 1255) (by decide +kernel), List.mem_of_getElem? (i := 1256) (by decide +kernel)⟩
theorem lw_p42 : lw_okq (⟨"TaskTreesModel", "makeRoom", "(II)I"⟩, 41) := ⟨⟨by decide +kernel, by decide +kernel⟩, List.mem_of_getElem? (i := 981) (by decide +kernel), List.mem_of_getElem? (i := 1267) (by decide +kernel), List.mem_of_getElem? (i := 1268) (by decide +kernel)⟩
theorem lw_p43 : lw_okq (⟨"TaskTreesModel", "tooFull", "(II)I"⟩, 41) := ⟨⟨by decide +kernel, by decide +kernel⟩, List.mem_of_getElem? (i := 981) (by decide +kernel), List.mem_of_getElem? (i := 1271) (by decide +kernel), List.mem_of_getElem? (i := 1272) (by decide +kernel)⟩
theorem lw_p44 : lw_okq (⟨"TaskTreesModel", "takeCache", "(II)V"⟩, 41) := ⟨⟨by decide +kernel, by decide +kernel⟩, List.mem_of_getElem? (i := 981) (by decide +kernel), List.mem_of_getElem? (i := 1275) (by decide +kernel), List.mem_of_getElem? (i := 1276) (by decide +kernel)⟩
theorem lw_p45 : lw_okq (⟨"TaskTreesModel", "victim", "(I)I"⟩, 41) := ⟨⟨by decide +kernel, by decide +kernel⟩, List.mem_of_getElem? (i := 981) (by decide +kernel), List.mem_of_getElem? (i := 1279) (by decide +kernel), List.mem_of_getElem? (i := 1280) (by decide +kernel)⟩
theorem lw_p46 : lw_okq (⟨"TaskTreesModel", "tick", "()I"⟩, 41) := ⟨⟨by decide +kernel, by decide +kernel⟩, List.mem_of_getElem? (i := 981) (by decide +kernel), List.mem_of_getElem? (i := 1306) (by decide +kernel), List.mem_of_getElem? (i := 1307) (by decide +kernel)⟩
theorem lw_p47 : lw_okq (⟨"TaskTreesModel", "walk", "(II)Z"⟩, 41) := ⟨⟨by decide +kernel, by decide +kernel⟩, List.mem_of_getElem? (i := 981) (by decide +kernel), List.mem_of_getElem? (i := 1328) (by decide +kernel), List.mem_of_getElem? (i := 1329) (by decide +kernel)⟩
def lw_privs_3 : List (MethodName × Nat) := [(⟨"TaskTreesModel", "come", "(IZ)V"⟩, 41), (⟨"TaskTreesModel", "leastTime", "(IZI)J"⟩, 41), (⟨"TaskTreesModel", "findReady", "()V"⟩, 41), (⟨"TaskTreesModel", "isReady", "(I)Z"⟩, 41), (⟨"TaskTreesModel", "leave", "(I)I"⟩, 41), (⟨"TaskTreesModel", "end", "(I)V"⟩, 41), (⟨"TaskTreesModel", "liesIn", "(II)Z"⟩, 41), (⟨"TaskTreesModel", "forget", "(I)V"⟩, 41), (⟨"TaskTreesModel", "isGroup", "(I)Z"⟩, 41), (⟨"TaskTreesModel", "uses", "(I)I"⟩, 41), (⟨"TaskTreesModel", "makeRoom", "(II)I"⟩, 41), (⟨"TaskTreesModel", "tooFull", "(II)I"⟩, 41), (⟨"TaskTreesModel", "takeCache", "(II)V"⟩, 41), (⟨"TaskTreesModel", "victim", "(I)I"⟩, 41), (⟨"TaskTreesModel", "tick", "()I"⟩, 41), (⟨"TaskTreesModel", "walk", "(II)Z"⟩, 41)]
theorem lw_r3 : ∀ q ∈ lw_privs_3, lw_okq q := List.forall_mem_cons.mpr ⟨lw_p32, List.forall_mem_cons.mpr ⟨lw_p33, List.forall_mem_cons.mpr ⟨lw_p34, List.forall_mem_cons.mpr ⟨lw_p35, List.forall_mem_cons.mpr ⟨lw_p36, List.forall_mem_cons.mpr ⟨lw_p37, List.forall_mem_cons.mpr ⟨lw_p38, List.forall_mem_cons.mpr ⟨lw_p39, List.forall_mem_cons.mpr ⟨lw_p40, List.forall_mem_cons.mpr ⟨lw_p41, List.forall_mem_cons.mpr ⟨lw_p42, List.forall_mem_cons.mpr ⟨lw_p43, List.forall_mem_cons.mpr ⟨lw_p44, List.forall_mem_cons.mpr ⟨lw_p45, List.forall_mem_cons.mpr ⟨lw_p46, List.forall_mem_cons.mpr ⟨lw_p47, fun _ h => absurd h List.not_mem_nil⟩⟩⟩⟩⟩⟩⟩⟩⟩⟩⟩⟩⟩⟩⟩⟩
theorem lw_p48 : lw_okq (⟨"TaskTreesModel", "rise", "()V"⟩, 41) := ⟨⟨by decide +kernel, by decide +kernel⟩, List.mem_of_getElem? (i := 981) (by decide +kernel), List.mem_of_getElem? (i := 1332) (by decide +kernel), List.mem_of_getElem? (i := 1333) (by decide +kernel)⟩
theorem lw_p49 : lw_okq (⟨"TaskTreesModel", "mountAt", "(II)I"⟩, 41) := ⟨⟨by decide +kernel, by decide +kernel⟩, List.mem_of_getElem? (i := 981) (by decide +kernel), List.mem_of_getElem? (i := 1336) (by decide +kernel), List.mem_of_getElem? (i := 1337) (by decide +kernel)⟩
theorem lw_p50 : lw_okq (⟨"TaskTreesModel", "isPeer", "(III)Z"⟩, 41) := ⟨⟨by decide +kernel, by decide +kernel⟩, List.mem_of_getElem? (i := 981) (by decide +kernel), List.mem_of_getElem? (i := 1340) (by decide +kernel), List.mem_of_getElem? (i := 1341) (by decide +kernel)⟩
theorem lw_p51 : lw_okq (⟨"TaskTreesModel", "isBusy", "(I)Z"⟩, 41) := ⟨⟨by decide +kernel, by decide +kernel⟩, List.mem_of_getElem? (i := 981) (by decide +kernel), List.mem_of_getElem? (i := 1348) (by decide +kernel), List.mem_of_getElem? (i := 1349) (by decide +kernel)⟩
def lw_privs_4 : List (MethodName × Nat) := [(⟨"TaskTreesModel", "rise", "()V"⟩, 41), (⟨"TaskTreesModel", "mountAt", "(II)I"⟩, 41), (⟨"TaskTreesModel", "isPeer", "(III)Z"⟩, 41), (⟨"TaskTreesModel", "isBusy", "(I)Z"⟩, 41)]
theorem lw_r4 : ∀ q ∈ lw_privs_4, lw_okq q := List.forall_mem_cons.mpr ⟨lw_p48, List.forall_mem_cons.mpr ⟨lw_p49, List.forall_mem_cons.mpr ⟨lw_p50, List.forall_mem_cons.mpr ⟨lw_p51, fun _ h => absurd h List.not_mem_nil⟩⟩⟩⟩
def lw_privs : List (MethodName × Nat) := lw_privs_1 ++ (lw_privs_2 ++ (lw_privs_3 ++ (lw_privs_4)))
def lw_tbl : List Cond := k2_sels lw_privs ++ tables_1
theorem lw_privs_ok : ∀ q ∈ lw_privs, lw_okq q := by
  show ∀ q ∈ lw_privs_1 ++ (lw_privs_2 ++ (lw_privs_3 ++ (lw_privs_4))), lw_okq q
  exact List.forall_mem_append.mpr ⟨lw_r1, List.forall_mem_append.mpr ⟨lw_r2, List.forall_mem_append.mpr ⟨lw_r3, lw_r4⟩⟩⟩
end
section
/-! names, fields: rows of the printed NAMES of the claim -/
def RX0 : String := "TaskTrees$Clock"
def TX0 : u_T := fun k => match k with
  | 0 => ("TaskTrees$Clock", "tasks", "LTaskTrees$TaskTable;", true)
  | 1 => ("TaskTrees$Clock", "groups", "LTaskTrees$GroupTable;", true)
  | _ => ("TaskTrees$Clock", "now", "I", false)
def tyX0 : Nat → FieldType := fun k => match k with
  | 0 => .object "TaskTrees$TaskTable"
  | 1 => .object "TaskTrees$GroupTable"
  | _ => .int
abbrev wsX00 : List Cond := u_ws RX0 TX0 3
theorem nmX0 : ∀ a, a < 3 → ∀ b, b < 3 → a ≠ b → (TX0 a).2.1 ≠ (TX0 b).2.1 := by decide +kernel
theorem tyX0_ok : ∀ k, k < 3 → parseFieldDescriptor (TX0 k).2.2.1 = some (tyX0 k) := by decide +kernel
abbrev cX0_init : ByteArray := prog_2_method_1_code
def yX0_init : MethodName := ⟨RX0, "<init>", "(LTaskTrees$TaskTable;LTaskTrees$GroupTable;)V"⟩
abbrev cX0_tick : ByteArray := prog_2_method_2_code
def yX0_tick : MethodName := ⟨RX0, "tick", "()LTaskTrees$Task;"⟩
abbrev cX0_admit : ByteArray := prog_2_method_3_code
def yX0_admit : MethodName := ⟨RX0, "admit", "(LTaskTrees$Task;Z)V"⟩
abbrev cX0_admitGroup : ByteArray := prog_2_method_4_code
def yX0_admitGroup : MethodName := ⟨RX0, "admitGroup", "(LTaskTrees$Group;)V"⟩
abbrev cX0_look : ByteArray := prog_2_method_5_code
def yX0_look : MethodName := ⟨RX0, "look", "(LTaskTrees$Task;)V"⟩
abbrev cX0_offerTask : ByteArray := prog_2_method_6_code
def yX0_offerTask : MethodName := ⟨RX0, "offerTask", "(LTaskTrees$Task;)V"⟩
abbrev cX0_offerGroup : ByteArray := prog_2_method_7_code
def yX0_offerGroup : MethodName := ⟨RX0, "offerGroup", "(LTaskTrees$Group;)V"⟩
abbrev cX0_choose : ByteArray := prog_2_method_8_code
def yX0_choose : MethodName := ⟨RX0, "choose", "()LTaskTrees$Task;"⟩
abbrev cX0_run : ByteArray := prog_2_method_9_code
def yX0_run : MethodName := ⟨RX0, "run", "(LTaskTrees$Task;)V"⟩
abbrev cX0_beginPeriod : ByteArray := prog_2_method_10_code
def yX0_beginPeriod : MethodName := ⟨RX0, "beginPeriod", "()V"⟩
def RX1 : String := "TaskTrees$Group"
def TX1 : u_T := fun k => match k with
  | 0 => ("TaskTrees$Group", "id", "I", true)
  | 1 => ("TaskTrees$Group", "outer", "LTaskTrees$Group;", true)
  | 2 => ("TaskTrees$Group", "depth", "I", true)
  | 3 => ("TaskTrees$Group", "max", "I", false)
  | 4 => ("TaskTrees$Group", "most", "I", false)
  | 5 => ("TaskTrees$Group", "weight", "I", false)
  | 6 => ("TaskTrees$Group", "quota", "I", false)
  | 7 => ("TaskTrees$Group", "uses", "I", false)
  | 8 => ("TaskTrees$Group", "live", "I", false)
  | 9 => ("TaskTrees$Group", "cached", "I", false)
  | 10 => ("TaskTrees$Group", "ranInPeriod", "I", false)
  | 11 => ("TaskTrees$Group", "clockTime", "J", false)
  | 12 => ("TaskTrees$Group", "firstTask", "LTaskTrees$Task;", false)
  | _ => ("TaskTrees$Group", "firstGroup", "LTaskTrees$Group;", false)
def tyX1 : Nat → FieldType := fun k => match k with
  | 0 => .int
  | 1 => .object "TaskTrees$Group"
  | 2 => .int
  | 3 => .int
  | 4 => .int
  | 5 => .int
  | 6 => .int
  | 7 => .int
  | 8 => .int
  | 9 => .int
  | 10 => .int
  | 11 => .long
  | 12 => .object "TaskTrees$Task"
  | _ => .object "TaskTrees$Group"
abbrev wsX10 : List Cond := u_ws RX1 TX1 14
theorem nmX1 : ∀ a, a < 14 → ∀ b, b < 14 → a ≠ b → (TX1 a).2.1 ≠ (TX1 b).2.1 := by decide +kernel
theorem tyX1_ok : ∀ k, k < 14 → parseFieldDescriptor (TX1 k).2.2.1 = some (tyX1 k) := by decide +kernel
abbrev cX1_init : ByteArray := prog_3_method_1_code
def yX1_init : MethodName := ⟨RX1, "<init>", "(ILTaskTrees$Group;)V"⟩
abbrev cX1_liesIn : ByteArray := prog_3_method_2_code
def yX1_liesIn : MethodName := ⟨RX1, "liesIn", "(LTaskTrees$Group;)Z"⟩
abbrev cX1_addUse : ByteArray := prog_3_method_3_code
def yX1_addUse : MethodName := ⟨RX1, "addUse", "(I)V"⟩
abbrev cX1_addLive : ByteArray := prog_3_method_4_code
def yX1_addLive : MethodName := ⟨RX1, "addLive", "(I)V"⟩
abbrev cX1_keepCached : ByteArray := prog_3_method_5_code
def yX1_keepCached : MethodName := ⟨RX1, "keepCached", "(I)V"⟩
abbrev cX1_lacking : ByteArray := prog_3_method_6_code
def yX1_lacking : MethodName := ⟨RX1, "lacking", "(I)I"⟩
abbrev cX1_takesTask : ByteArray := prog_3_method_7_code
def yX1_takesTask : MethodName := ⟨RX1, "takesTask", "()Z"⟩
abbrev cX1_takesFrom : ByteArray := prog_3_method_8_code
def yX1_takesFrom : MethodName := ⟨RX1, "takesFrom", "(LTaskTrees$Task;)Z"⟩
abbrev cX1_holdsMoreThan : ByteArray := prog_3_method_9_code
def yX1_holdsMoreThan : MethodName := ⟨RX1, "holdsMoreThan", "(II)Z"⟩
abbrev cX1_change : ByteArray := prog_3_method_10_code
def yX1_change : MethodName := ⟨RX1, "change", "(II)I"⟩
abbrev cX1_isReady : ByteArray := prog_3_method_11_code
def yX1_isReady : MethodName := ⟨RX1, "isReady", "()Z"⟩
abbrev cX1_leadsToGroup : ByteArray := prog_3_method_12_code
def yX1_leadsToGroup : MethodName := ⟨RX1, "leadsToGroup", "()Z"⟩
abbrev cX1_leastTime : ByteArray := prog_3_method_13_code
def yX1_leastTime : MethodName := ⟨RX1, "leastTime", "()J"⟩
abbrev cX1_tell : ByteArray := prog_3_method_14_code
def yX1_tell : MethodName := ⟨RX1, "tell", "(I)I"⟩
def RX2 : String := "TaskTrees$GroupTable"
def TX2 : u_T := fun k => match k with
  | 0 => ("TaskTrees$GroupTable", "rows", "[LTaskTrees$Group;", true)
  | _ => ("TaskTrees$GroupTable", "made", "I", false)
def tyX2 : Nat → FieldType := fun k => match k with
  | 0 => .array (.object "TaskTrees$Group")
  | _ => .int
abbrev wsX20 : List Cond := u_ws RX2 TX2 2
theorem nmX2 : ∀ a, a < 2 → ∀ b, b < 2 → a ≠ b → (TX2 a).2.1 ≠ (TX2 b).2.1 := by decide +kernel
theorem tyX2_ok : ∀ k, k < 2 → parseFieldDescriptor (TX2 k).2.2.1 = some (tyX2 k) := by decide +kernel
abbrev cX2_init : ByteArray := prog_4_method_1_code
def yX2_init : MethodName := ⟨RX2, "<init>", "()V"⟩
abbrev cX2_madeAt : ByteArray := prog_4_method_2_code
def yX2_madeAt : MethodName := ⟨RX2, "madeAt", "(I)LTaskTrees$Group;"⟩
abbrev cX2_hasRoom : ByteArray := prog_4_method_3_code
def yX2_hasRoom : MethodName := ⟨RX2, "hasRoom", "(LTaskTrees$Group;)Z"⟩
abbrev cX2_open : ByteArray := prog_4_method_4_code
def yX2_open : MethodName := ⟨RX2, "open", "(LTaskTrees$Group;)LTaskTrees$Group;"⟩
abbrev cX2_richestIn : ByteArray := prog_4_method_5_code
def yX2_richestIn : MethodName := ⟨RX2, "richestIn", "(LTaskTrees$Group;)LTaskTrees$Group;"⟩
def RX3 : String := "TaskTrees$Memory"
def TX3 : u_T := fun k => match k with
  | 0 => ("TaskTrees$Memory", "tasks", "LTaskTrees$TaskTable;", true)
  | 1 => ("TaskTrees$Memory", "groups", "LTaskTrees$GroupTable;", true)
  | _ => ("TaskTrees$Memory", "victims", "I", false)
def tyX3 : Nat → FieldType := fun k => match k with
  | 0 => .object "TaskTrees$TaskTable"
  | 1 => .object "TaskTrees$GroupTable"
  | _ => .int
abbrev wsX30 : List Cond := u_ws RX3 TX3 3
theorem nmX3 : ∀ a, a < 3 → ∀ b, b < 3 → a ≠ b → (TX3 a).2.1 ≠ (TX3 b).2.1 := by decide +kernel
theorem tyX3_ok : ∀ k, k < 3 → parseFieldDescriptor (TX3 k).2.2.1 = some (tyX3 k) := by decide +kernel
abbrev cX3_init : ByteArray := prog_5_method_1_code
def yX3_init : MethodName := ⟨RX3, "<init>", "(LTaskTrees$TaskTable;LTaskTrees$GroupTable;)V"⟩
abbrev cX3_makeRoom : ByteArray := prog_5_method_2_code
def yX3_makeRoom : MethodName := ⟨RX3, "makeRoom", "(LTaskTrees$Task;I)I"⟩
abbrev cX3_takeCaches : ByteArray := prog_5_method_3_code
def yX3_takeCaches : MethodName := ⟨RX3, "takeCaches", "(LTaskTrees$Group;I)V"⟩
abbrev cX3_killVictims : ByteArray := prog_5_method_4_code
def yX3_killVictims : MethodName := ⟨RX3, "killVictims", "(LTaskTrees$Group;LTaskTrees$Task;I)I"⟩
def RX4 : String := "TaskTrees$Mount"
def TX4 : u_T := fun k => match k with
  | 0 => ("TaskTrees$Mount", "id", "I", true)
  | 1 => ("TaskTrees$Mount", "tops", "[LTaskTrees$Mount;", true)
  | 2 => ("TaskTrees$Mount", "view", "LTaskTrees$View;", false)
  | 3 => ("TaskTrees$Mount", "under", "LTaskTrees$Mount;", false)
  | 4 => ("TaskTrees$Mount", "directory", "I", false)
  | 5 => ("TaskTrees$Mount", "carried", "I", false)
  | 6 => ("TaskTrees$Mount", "volume", "I", false)
  | 7 => ("TaskTrees$Mount", "peer", "I", false)
  | _ => ("TaskTrees$Mount", "twin", "LTaskTrees$Mount;", false)
def tyX4 : Nat → FieldType := fun k => match k with
  | 0 => .int
  | 1 => .array (.object "TaskTrees$Mount")
  | 2 => .object "TaskTrees$View"
  | 3 => .object "TaskTrees$Mount"
  | 4 => .int
  | 5 => .int
  | 6 => .int
  | 7 => .int
  | _ => .object "TaskTrees$Mount"
abbrev wsX40 : List Cond := u_ws RX4 TX4 9
theorem nmX4 : ∀ a, a < 9 → ∀ b, b < 9 → a ≠ b → (TX4 a).2.1 ≠ (TX4 b).2.1 := by decide +kernel
theorem tyX4_ok : ∀ k, k < 9 → parseFieldDescriptor (TX4 k).2.2.1 = some (tyX4 k) := by decide +kernel
abbrev cX4_init : ByteArray := prog_6_method_1_code
def yX4_init : MethodName := ⟨RX4, "<init>", "(I)V"⟩
abbrev cX4_begin : ByteArray := prog_6_method_2_code
def yX4_begin : MethodName := ⟨RX4, "begin", "(LTaskTrees$View;II)V"⟩
abbrev cX4_over : ByteArray := prog_6_method_3_code
def yX4_over : MethodName := ⟨RX4, "over", "(I)LTaskTrees$Mount;"⟩
abbrev cX4_cover : ByteArray := prog_6_method_4_code
def yX4_cover : MethodName := ⟨RX4, "cover", "(ILTaskTrees$Mount;)V"⟩
abbrev cX4_putOn : ByteArray := prog_6_method_5_code
def yX4_putOn : MethodName := ⟨RX4, "putOn", "(LTaskTrees$Mount;I)V"⟩
abbrev cX4_takeOff : ByteArray := prog_6_method_6_code
def yX4_takeOff : MethodName := ⟨RX4, "takeOff", "()V"⟩
abbrev cX4_tell : ByteArray := prog_6_method_7_code
def yX4_tell : MethodName := ⟨RX4, "tell", "(I)I"⟩
def RX5 : String := "TaskTrees$MountTable"
def TX5 : u_T := fun k => match k with
  | 0 => ("TaskTrees$MountTable", "rows", "[LTaskTrees$Mount;", true)
  | 1 => ("TaskTrees$MountTable", "views", "[LTaskTrees$View;", true)
  | 2 => ("TaskTrees$MountTable", "place", "LTaskTrees$Place;", true)
  | 3 => ("TaskTrees$MountTable", "there", "I", false)
  | 4 => ("TaskTrees$MountTable", "viewsMade", "I", false)
  | _ => ("TaskTrees$MountTable", "lastPeer", "I", false)
def tyX5 : Nat → FieldType := fun k => match k with
  | 0 => .array (.object "TaskTrees$Mount")
  | 1 => .array (.object "TaskTrees$View")
  | 2 => .object "TaskTrees$Place"
  | 3 => .int
  | 4 => .int
  | _ => .int
abbrev wsX50 : List Cond := u_ws RX5 TX5 6
theorem nmX5 : ∀ a, a < 6 → ∀ b, b < 6 → a ≠ b → (TX5 a).2.1 ≠ (TX5 b).2.1 := by decide +kernel
theorem tyX5_ok : ∀ k, k < 6 → parseFieldDescriptor (TX5 k).2.2.1 = some (tyX5 k) := by decide +kernel
abbrev cX5_init : ByteArray := prog_7_method_1_code
def yX5_init : MethodName := ⟨RX5, "<init>", "()V"⟩
abbrev cX5_viewAt : ByteArray := prog_7_method_2_code
def yX5_viewAt : MethodName := ⟨RX5, "viewAt", "(I)LTaskTrees$View;"⟩
abbrev cX5_mountAt : ByteArray := prog_7_method_3_code
def yX5_mountAt : MethodName := ⟨RX5, "mountAt", "(I)LTaskTrees$Mount;"⟩
abbrev cX5_openView : ByteArray := prog_7_method_4_code
def yX5_openView : MethodName := ⟨RX5, "openView", "()LTaskTrees$View;"⟩
abbrev cX5_addView : ByteArray := prog_7_method_5_code
def yX5_addView : MethodName := ⟨RX5, "addView", "()LTaskTrees$View;"⟩
abbrev cX5_occupy : ByteArray := prog_7_method_6_code
def yX5_occupy : MethodName := ⟨RX5, "occupy", "(LTaskTrees$View;II)LTaskTrees$Mount;"⟩
abbrev cX5_newPeer : ByteArray := prog_7_method_7_code
def yX5_newPeer : MethodName := ⟨RX5, "newPeer", "(Z)I"⟩
abbrev cX5_changePeer : ByteArray := prog_7_method_8_code
def yX5_changePeer : MethodName := ⟨RX5, "changePeer", "(LTaskTrees$Mount;Z)I"⟩
abbrev cX5_canCopy : ByteArray := prog_7_method_9_code
def yX5_canCopy : MethodName := ⟨RX5, "canCopy", "(LTaskTrees$View;)Z"⟩
abbrev cX5_copyView : ByteArray := prog_7_method_10_code
def yX5_copyView : MethodName := ⟨RX5, "copyView", "(LTaskTrees$View;)LTaskTrees$View;"⟩
abbrev cX5_placeTwin : ByteArray := prog_7_method_11_code
def yX5_placeTwin : MethodName := ⟨RX5, "placeTwin", "(LTaskTrees$Mount;)V"⟩
abbrev cX5_add : ByteArray := prog_7_method_12_code
def yX5_add : MethodName := ⟨RX5, "add", "(LTaskTrees$Mount;IIZ)I"⟩
abbrev cX5_addOne : ByteArray := prog_7_method_13_code
def yX5_addOne : MethodName := ⟨RX5, "addOne", "(LTaskTrees$Mount;III)I"⟩
abbrev cX5_placesFor : ByteArray := prog_7_method_14_code
def yX5_placesFor : MethodName := ⟨RX5, "placesFor", "(LTaskTrees$Mount;I)I"⟩
abbrev cX5_isPeer : ByteArray := prog_7_method_15_code
def yX5_isPeer : MethodName := ⟨RX5, "isPeer", "(LTaskTrees$Mount;LTaskTrees$Mount;)Z"⟩
abbrev cX5_remove : ByteArray := prog_7_method_16_code
def yX5_remove : MethodName := ⟨RX5, "remove", "(LTaskTrees$Mount;)I"⟩
abbrev cX5_removeOne : ByteArray := prog_7_method_17_code
def yX5_removeOne : MethodName := ⟨RX5, "removeOne", "(LTaskTrees$Mount;)V"⟩
def RX6 : String := "TaskTrees$Place"
def TX6 : u_T := fun k => match k with
  | 0 => ("TaskTrees$Place", "mount", "LTaskTrees$Mount;", false)
  | _ => ("TaskTrees$Place", "directory", "I", false)
def tyX6 : Nat → FieldType := fun k => match k with
  | 0 => .object "TaskTrees$Mount"
  | _ => .int
abbrev wsX60 : List Cond := u_ws RX6 TX6 2
theorem nmX6 : ∀ a, a < 2 → ∀ b, b < 2 → a ≠ b → (TX6 a).2.1 ≠ (TX6 b).2.1 := by decide +kernel
theorem tyX6_ok : ∀ k, k < 2 → parseFieldDescriptor (TX6 k).2.2.1 = some (tyX6 k) := by decide +kernel
abbrev cX6_init : ByteArray := prog_8_method_1_code
def yX6_init : MethodName := ⟨RX6, "<init>", "()V"⟩
abbrev cX6_reach : ByteArray := prog_8_method_2_code
def yX6_reach : MethodName := ⟨RX6, "reach", "(LTaskTrees$View;I)Z"⟩
abbrev cX6_highestBit : ByteArray := prog_8_method_3_code
def yX6_highestBit : MethodName := ⟨RX6, "highestBit", "(I)I"⟩
abbrev cX6_enter : ByteArray := prog_8_method_4_code
def yX6_enter : MethodName := ⟨RX6, "enter", "(LTaskTrees$Mount;I)V"⟩
abbrev cX6_code : ByteArray := prog_8_method_5_code
def yX6_code : MethodName := ⟨RX6, "code", "()I"⟩
def RX7 : String := "TaskTrees$Space"
def TX7 : u_T := fun k => match k with
  | 0 => ("TaskTrees$Space", "id", "I", true)
  | 1 => ("TaskTrees$Space", "outer", "LTaskTrees$Space;", true)
  | 2 => ("TaskTrees$Space", "depth", "I", true)
  | 3 => ("TaskTrees$Space", "holders", "[LTaskTrees$Task;", true)
  | 4 => ("TaskTrees$Space", "init", "LTaskTrees$Task;", false)
  | _ => ("TaskTrees$Space", "lastGiven", "I", false)
def tyX7 : Nat → FieldType := fun k => match k with
  | 0 => .int
  | 1 => .object "TaskTrees$Space"
  | 2 => .int
  | 3 => .array (.object "TaskTrees$Task")
  | 4 => .object "TaskTrees$Task"
  | _ => .int
abbrev wsX70 : List Cond := u_ws RX7 TX7 6
theorem nmX7 : ∀ a, a < 6 → ∀ b, b < 6 → a ≠ b → (TX7 a).2.1 ≠ (TX7 b).2.1 := by decide +kernel
theorem tyX7_ok : ∀ k, k < 6 → parseFieldDescriptor (TX7 k).2.2.1 = some (tyX7 k) := by decide +kernel
abbrev cX7_init : ByteArray := prog_9_method_1_code
def yX7_init : MethodName := ⟨RX7, "<init>", "(ILTaskTrees$Space;)V"⟩
abbrev cX7_liesIn : ByteArray := prog_9_method_2_code
def yX7_liesIn : MethodName := ⟨RX7, "liesIn", "(LTaskTrees$Space;)Z"⟩
abbrev cX7_nextNumber : ByteArray := prog_9_method_3_code
def yX7_nextNumber : MethodName := ⟨RX7, "nextNumber", "()I"⟩
abbrev cX7_take : ByteArray := prog_9_method_4_code
def yX7_take : MethodName := ⟨RX7, "take", "(LTaskTrees$Task;)V"⟩
abbrev cX7_drop : ByteArray := prog_9_method_5_code
def yX7_drop : MethodName := ⟨RX7, "drop", "(LTaskTrees$Task;)V"⟩
abbrev cX7_holder : ByteArray := prog_9_method_6_code
def yX7_holder : MethodName := ⟨RX7, "holder", "(I)LTaskTrees$Task;"⟩
abbrev cX7_numberOf : ByteArray := prog_9_method_7_code
def yX7_numberOf : MethodName := ⟨RX7, "numberOf", "(LTaskTrees$Task;)I"⟩
def RX8 : String := "TaskTrees$Task"
def TX8 : u_T := fun k => match k with
  | 0 => ("TaskTrees$Task", "id", "I", true)
  | 1 => ("TaskTrees$Task", "space", "LTaskTrees$Space;", true)
  | 2 => ("TaskTrees$Task", "view", "LTaskTrees$View;", true)
  | 3 => ("TaskTrees$Task", "parent", "LTaskTrees$Task;", false)
  | 4 => ("TaskTrees$Task", "group", "LTaskTrees$Group;", false)
  | 5 => ("TaskTrees$Task", "state", "I", false)
  | 6 => ("TaskTrees$Task", "pages", "I", false)
  | 7 => ("TaskTrees$Task", "points", "I", false)
  | 8 => ("TaskTrees$Task", "ticksRun", "I", false)
  | 9 => ("TaskTrees$Task", "asleep", "Z", false)
  | _ => ("TaskTrees$Task", "clockTime", "J", false)
def tyX8 : Nat → FieldType := fun k => match k with
  | 0 => .int
  | 1 => .object "TaskTrees$Space"
  | 2 => .object "TaskTrees$View"
  | 3 => .object "TaskTrees$Task"
  | 4 => .object "TaskTrees$Group"
  | 5 => .int
  | 6 => .int
  | 7 => .int
  | 8 => .int
  | 9 => .boolean
  | _ => .long
abbrev wsX80 : List Cond := u_ws RX8 TX8 11
theorem nmX8 : ∀ a, a < 11 → ∀ b, b < 11 → a ≠ b → (TX8 a).2.1 ≠ (TX8 b).2.1 := by decide +kernel
theorem tyX8_ok : ∀ k, k < 11 → parseFieldDescriptor (TX8 k).2.2.1 = some (tyX8 k) := by decide +kernel
abbrev cX8_init : ByteArray := prog_10_method_1_code
def yX8_init : MethodName := ⟨RX8, "<init>", "(ILTaskTrees$Task;LTaskTrees$Space;LTaskTrees$Group;LTaskTrees$View;)V"⟩
abbrev cX8_isReady : ByteArray := prog_10_method_2_code
def yX8_isReady : MethodName := ⟨RX8, "isReady", "()Z"⟩
abbrev cX8_mayBeKilled : ByteArray := prog_10_method_3_code
def yX8_mayBeKilled : MethodName := ⟨RX8, "mayBeKilled", "()Z"⟩
abbrev cX8_score : ByteArray := prog_10_method_4_code
def yX8_score : MethodName := ⟨RX8, "score", "()I"⟩
abbrev cX8_isLostZombie : ByteArray := prog_10_method_5_code
def yX8_isLostZombie : MethodName := ⟨RX8, "isLostZombie", "()Z"⟩
abbrev cX8_heir : ByteArray := prog_10_method_6_code
def yX8_heir : MethodName := ⟨RX8, "heir", "()LTaskTrees$Task;"⟩
abbrev cX8_hold : ByteArray := prog_10_method_7_code
def yX8_hold : MethodName := ⟨RX8, "hold", "(I)V"⟩
abbrev cX8_changeGroup : ByteArray := prog_10_method_8_code
def yX8_changeGroup : MethodName := ⟨RX8, "changeGroup", "(LTaskTrees$Group;)V"⟩
abbrev cX8_vanish : ByteArray := prog_10_method_9_code
def yX8_vanish : MethodName := ⟨RX8, "vanish", "()V"⟩
abbrev cX8_tell : ByteArray := prog_10_method_10_code
def yX8_tell : MethodName := ⟨RX8, "tell", "(I)I"⟩
def RX9 : String := "TaskTrees$TaskTable"
def TX9 : u_T := fun k => match k with
  | 0 => ("TaskTrees$TaskTable", "rows", "[LTaskTrees$Task;", true)
  | 1 => ("TaskTrees$TaskTable", "spaces", "[LTaskTrees$Space;", true)
  | 2 => ("TaskTrees$TaskTable", "made", "I", false)
  | _ => ("TaskTrees$TaskTable", "spacesMade", "I", false)
def tyX9 : Nat → FieldType := fun k => match k with
  | 0 => .array (.object "TaskTrees$Task")
  | 1 => .array (.object "TaskTrees$Space")
  | 2 => .int
  | _ => .int
abbrev wsX90 : List Cond := u_ws RX9 TX9 4
theorem nmX9 : ∀ a, a < 4 → ∀ b, b < 4 → a ≠ b → (TX9 a).2.1 ≠ (TX9 b).2.1 := by decide +kernel
theorem tyX9_ok : ∀ k, k < 4 → parseFieldDescriptor (TX9 k).2.2.1 = some (tyX9 k) := by decide +kernel
abbrev cX9_init : ByteArray := prog_11_method_1_code
def yX9_init : MethodName := ⟨RX9, "<init>", "()V"⟩
abbrev cX9_everMade : ByteArray := prog_11_method_2_code
def yX9_everMade : MethodName := ⟨RX9, "everMade", "(I)LTaskTrees$Task;"⟩
abbrev cX9_living : ByteArray := prog_11_method_3_code
def yX9_living : MethodName := ⟨RX9, "living", "(I)LTaskTrees$Task;"⟩
abbrev cX9_spaceAt : ByteArray := prog_11_method_4_code
def yX9_spaceAt : MethodName := ⟨RX9, "spaceAt", "(I)LTaskTrees$Space;"⟩
abbrev cX9_inState : ByteArray := prog_11_method_5_code
def yX9_inState : MethodName := ⟨RX9, "inState", "(I)I"⟩
abbrev cX9_hasRoom : ByteArray := prog_11_method_6_code
def yX9_hasRoom : MethodName := ⟨RX9, "hasRoom", "(LTaskTrees$Space;Z)Z"⟩
abbrev cX9_openSpace : ByteArray := prog_11_method_7_code
def yX9_openSpace : MethodName := ⟨RX9, "openSpace", "(LTaskTrees$Space;)LTaskTrees$Space;"⟩
abbrev cX9_bear : ByteArray := prog_11_method_8_code
def yX9_bear : MethodName := ⟨RX9, "bear", "(LTaskTrees$Task;LTaskTrees$Space;LTaskTrees$Group;LTaskTrees$View;)LTaskTrees$Task;"⟩
abbrev cX9_end : ByteArray := prog_11_method_9_code
def yX9_end : MethodName := ⟨RX9, "end", "(LTaskTrees$Task;)I"⟩
abbrev cX9_retire : ByteArray := prog_11_method_10_code
def yX9_retire : MethodName := ⟨RX9, "retire", "(LTaskTrees$Task;)V"⟩
abbrev cX9_emptySpace : ByteArray := prog_11_method_11_code
def yX9_emptySpace : MethodName := ⟨RX9, "emptySpace", "(LTaskTrees$Task;)I"⟩
abbrev cX9_dropLostZombies : ByteArray := prog_11_method_12_code
def yX9_dropLostZombies : MethodName := ⟨RX9, "dropLostZombies", "()V"⟩
abbrev cX9_bury : ByteArray := prog_11_method_13_code
def yX9_bury : MethodName := ⟨RX9, "bury", "(LTaskTrees$Task;)I"⟩
abbrev cX9_victimIn : ByteArray := prog_11_method_14_code
def yX9_victimIn : MethodName := ⟨RX9, "victimIn", "(LTaskTrees$Group;)LTaskTrees$Task;"⟩
def RX10 : String := "TaskTrees$View"
def TX10 : u_T := fun k => match k with
  | 0 => ("TaskTrees$View", "id", "I", true)
  | _ => ("TaskTrees$View", "root", "LTaskTrees$Mount;", false)
def tyX10 : Nat → FieldType := fun k => match k with
  | 0 => .int
  | _ => .object "TaskTrees$Mount"
abbrev wsX100 : List Cond := u_ws RX10 TX10 2
theorem nmX10 : ∀ a, a < 2 → ∀ b, b < 2 → a ≠ b → (TX10 a).2.1 ≠ (TX10 b).2.1 := by decide +kernel
theorem tyX10_ok : ∀ k, k < 2 → parseFieldDescriptor (TX10 k).2.2.1 = some (tyX10 k) := by decide +kernel
abbrev cX10_init : ByteArray := prog_12_method_1_code
def yX10_init : MethodName := ⟨RX10, "<init>", "(I)V"⟩
def RX11 : String := "TaskTrees"
def TX11 : u_T := fun k => match k with
  | 0 => ("TaskTrees", "groups", "LTaskTrees$GroupTable;", true)
  | 1 => ("TaskTrees", "tasks", "LTaskTrees$TaskTable;", true)
  | 2 => ("TaskTrees", "memory", "LTaskTrees$Memory;", true)
  | 3 => ("TaskTrees", "clock", "LTaskTrees$Clock;", true)
  | _ => ("TaskTrees", "mounts", "LTaskTrees$MountTable;", true)
def tyX11 : Nat → FieldType := fun k => match k with
  | 0 => .object "TaskTrees$GroupTable"
  | 1 => .object "TaskTrees$TaskTable"
  | 2 => .object "TaskTrees$Memory"
  | 3 => .object "TaskTrees$Clock"
  | _ => .object "TaskTrees$MountTable"
abbrev wsX110 : List Cond := u_ws RX11 TX11 5
theorem nmX11 : ∀ a, a < 5 → ∀ b, b < 5 → a ≠ b → (TX11 a).2.1 ≠ (TX11 b).2.1 := by decide +kernel
theorem tyX11_ok : ∀ k, k < 5 → parseFieldDescriptor (TX11 k).2.2.1 = some (tyX11 k) := by decide +kernel
abbrev cX11_init : ByteArray := prog_1_method_1_code
def yX11_init : MethodName := ⟨RX11, "<init>", "()V"⟩
abbrev cX11_fork : ByteArray := prog_1_method_2_code
def yX11_fork : MethodName := ⟨RX11, "fork", "(IZZ)I"⟩
abbrev cX11_exit : ByteArray := prog_1_method_3_code
def yX11_exit : MethodName := ⟨RX11, "exit", "(I)I"⟩
abbrev cX11_reap : ByteArray := prog_1_method_4_code
def yX11_reap : MethodName := ⟨RX11, "reap", "(I)I"⟩
abbrev cX11_kill : ByteArray := prog_1_method_5_code
def yX11_kill : MethodName := ⟨RX11, "kill", "(II)I"⟩
abbrev cX11_number : ByteArray := prog_1_method_6_code
def yX11_number : MethodName := ⟨RX11, "number", "(II)I"⟩
abbrev cX11_find : ByteArray := prog_1_method_7_code
def yX11_find : MethodName := ⟨RX11, "find", "(II)I"⟩
abbrev cX11_task : ByteArray := prog_1_method_8_code
def yX11_task : MethodName := ⟨RX11, "task", "(II)I"⟩
abbrev cX11_count : ByteArray := prog_1_method_9_code
def yX11_count : MethodName := ⟨RX11, "count", "(I)I"⟩
abbrev cX11_group : ByteArray := prog_1_method_10_code
def yX11_group : MethodName := ⟨RX11, "group", "(I)I"⟩
abbrev cX11_set : ByteArray := prog_1_method_11_code
def yX11_set : MethodName := ⟨RX11, "set", "(III)I"⟩
abbrev cX11_told : ByteArray := prog_1_method_12_code
def yX11_told : MethodName := ⟨RX11, "told", "(II)I"⟩
abbrev cX11_charge : ByteArray := prog_1_method_13_code
def yX11_charge : MethodName := ⟨RX11, "charge", "(II)I"⟩
abbrev cX11_release : ByteArray := prog_1_method_14_code
def yX11_release : MethodName := ⟨RX11, "release", "(II)I"⟩
abbrev cX11_cache : ByteArray := prog_1_method_15_code
def yX11_cache : MethodName := ⟨RX11, "cache", "(II)I"⟩
abbrev cX11_move : ByteArray := prog_1_method_16_code
def yX11_move : MethodName := ⟨RX11, "move", "(II)I"⟩
abbrev cX11_badness : ByteArray := prog_1_method_17_code
def yX11_badness : MethodName := ⟨RX11, "badness", "(II)I"⟩
abbrev cX11_ticks : ByteArray := prog_1_method_18_code
def yX11_ticks : MethodName := ⟨RX11, "ticks", "(I)I"⟩
abbrev cX11_sleep : ByteArray := prog_1_method_19_code
def yX11_sleep : MethodName := ⟨RX11, "sleep", "(IZ)I"⟩
abbrev cX11_ran : ByteArray := prog_1_method_20_code
def yX11_ran : MethodName := ⟨RX11, "ran", "(I)I"⟩
abbrev cX11_time : ByteArray := prog_1_method_21_code
def yX11_time : MethodName := ⟨RX11, "time", "(ZI)J"⟩
abbrev cX11_mount : ByteArray := prog_1_method_22_code
def yX11_mount : MethodName := ⟨RX11, "mount", "(IIIZ)I"⟩
abbrev cX11_unmount : ByteArray := prog_1_method_23_code
def yX11_unmount : MethodName := ⟨RX11, "unmount", "(II)I"⟩
abbrev cX11_at : ByteArray := prog_1_method_24_code
def yX11_at : MethodName := ⟨RX11, "at", "(II)I"⟩
abbrev cX11_share : ByteArray := prog_1_method_25_code
def yX11_share : MethodName := ⟨RX11, "share", "(IZ)I"⟩
abbrev cX11_mounted : ByteArray := prog_1_method_26_code
def yX11_mounted : MethodName := ⟨RX11, "mounted", "(II)I"⟩
def RX12 : String := "TaskTreesModel"
def TX12 : u_T := fun k => match k with
  | 0 => ("TaskTreesModel", "thrown", "I", false)
  | 1 => ("TaskTreesModel", "tasks", "I", false)
  | 2 => ("TaskTreesModel", "state", "[I", true)
  | 3 => ("TaskTreesModel", "parent", "[I", true)
  | 4 => ("TaskTreesModel", "space", "[I", true)
  | 5 => ("TaskTreesModel", "group", "[I", true)
  | 6 => ("TaskTreesModel", "view", "[I", true)
  | 7 => ("TaskTreesModel", "pages", "[I", true)
  | 8 => ("TaskTreesModel", "badness", "[I", true)
  | 9 => ("TaskTreesModel", "asleep", "[Z", true)
  | 10 => ("TaskTreesModel", "time", "[J", true)
  | 11 => ("TaskTreesModel", "ran", "[I", true)
  | 12 => ("TaskTreesModel", "numbers", "[I", true)
  | 13 => ("TaskTreesModel", "spaces", "I", false)
  | 14 => ("TaskTreesModel", "around", "[I", true)
  | 15 => ("TaskTreesModel", "init", "[I", true)
  | 16 => ("TaskTreesModel", "given", "[I", true)
  | 17 => ("TaskTreesModel", "groups", "I", false)
  | 18 => ("TaskTreesModel", "within", "[I", true)
  | 19 => ("TaskTreesModel", "most", "[I", true)
  | 20 => ("TaskTreesModel", "max", "[I", true)
  | 21 => ("TaskTreesModel", "weight", "[I", true)
  | 22 => ("TaskTreesModel", "quota", "[I", true)
  | 23 => ("TaskTreesModel", "cached", "[I", true)
  | 24 => ("TaskTreesModel", "ranNow", "[I", true)
  | 25 => ("TaskTreesModel", "groupTime", "[J", true)
  | 26 => ("TaskTreesModel", "clock", "I", false)
  | 27 => ("TaskTreesModel", "victims", "I", false)
  | 28 => ("TaskTreesModel", "views", "I", false)
  | 29 => ("TaskTreesModel", "root", "[I", true)
  | 30 => ("TaskTreesModel", "there", "[Z", true)
  | 31 => ("TaskTreesModel", "viewOf", "[I", true)
  | 32 => ("TaskTreesModel", "inMount", "[I", true)
  | 33 => ("TaskTreesModel", "inPlace", "[I", true)
  | 34 => ("TaskTreesModel", "volumes", "[I", true)
  | 35 => ("TaskTreesModel", "peers", "[I", true)
  | 36 => ("TaskTreesModel", "peerLast", "I", false)
  | 37 => ("TaskTreesModel", "atMount", "I", false)
  | 38 => ("TaskTreesModel", "atPlace", "I", false)
  | 39 => ("TaskTreesModel", "has", "[Z", true)
  | _ => ("TaskTreesModel", "copies", "[I", true)
def tyX12 : Nat → FieldType := fun k => match k with
  | 0 => .int
  | 1 => .int
  | 2 => .array .int
  | 3 => .array .int
  | 4 => .array .int
  | 5 => .array .int
  | 6 => .array .int
  | 7 => .array .int
  | 8 => .array .int
  | 9 => .array .boolean
  | 10 => .array .long
  | 11 => .array .int
  | 12 => .array .int
  | 13 => .int
  | 14 => .array .int
  | 15 => .array .int
  | 16 => .array .int
  | 17 => .int
  | 18 => .array .int
  | 19 => .array .int
  | 20 => .array .int
  | 21 => .array .int
  | 22 => .array .int
  | 23 => .array .int
  | 24 => .array .int
  | 25 => .array .long
  | 26 => .int
  | 27 => .int
  | 28 => .int
  | 29 => .array .int
  | 30 => .array .boolean
  | 31 => .array .int
  | 32 => .array .int
  | 33 => .array .int
  | 34 => .array .int
  | 35 => .array .int
  | 36 => .int
  | 37 => .int
  | 38 => .int
  | 39 => .array .boolean
  | _ => .array .int
abbrev wsX120 : List Cond := u_ws RX12 TX12 41
theorem nmX12 : ∀ a, a < 41 → ∀ b, b < 41 → a ≠ b → (TX12 a).2.1 ≠ (TX12 b).2.1 := by decide +kernel
theorem tyX12_ok : ∀ k, k < 41 → parseFieldDescriptor (TX12 k).2.2.1 = some (tyX12 k) := by decide +kernel
abbrev cX12_init : ByteArray := prog_14_method_1_code
def yX12_init : MethodName := ⟨RX12, "<init>", "()V"⟩
abbrev cX12_thrown : ByteArray := prog_14_method_2_code
def yX12_thrown : MethodName := ⟨RX12, "thrown", "()I"⟩
abbrev cX12_in : ByteArray := prog_14_method_3_code
def yX12_in : MethodName := ⟨RX12, "in", "(JJJ)Z"⟩
abbrev cX12_isTask : ByteArray := prog_14_method_4_code
def yX12_isTask : MethodName := ⟨RX12, "isTask", "(I)Z"⟩
abbrev cX12_isLive : ByteArray := prog_14_method_5_code
def yX12_isLive : MethodName := ⟨RX12, "isLive", "(I)Z"⟩
abbrev cX12_isGroup : ByteArray := prog_14_method_6_code
def yX12_isGroup : MethodName := ⟨RX12, "isGroup", "(I)Z"⟩
abbrev cX12_liesIn : ByteArray := prog_14_method_7_code
def yX12_liesIn : MethodName := ⟨RX12, "liesIn", "(II)Z"⟩
abbrev cX12_isWithin : ByteArray := prog_14_method_8_code
def yX12_isWithin : MethodName := ⟨RX12, "isWithin", "(II)Z"⟩
abbrev cX12_holder : ByteArray := prog_14_method_9_code
def yX12_holder : MethodName := ⟨RX12, "holder", "(II)I"⟩
abbrev cX12_nextNumber : ByteArray := prog_14_method_10_code
def yX12_nextNumber : MethodName := ⟨RX12, "nextNumber", "(I)I"⟩
abbrev cX12_depth : ByteArray := prog_14_method_11_code
def yX12_depth : MethodName := ⟨RX12, "depth", "(I)I"⟩
abbrev cX12_freeMounts : ByteArray := prog_14_method_12_code
def yX12_freeMounts : MethodName := ⟨RX12, "freeMounts", "()I"⟩
abbrev cX12_mountsOf : ByteArray := prog_14_method_13_code
def yX12_mountsOf : MethodName := ⟨RX12, "mountsOf", "(I)I"⟩
abbrev cX12_fork : ByteArray := prog_14_method_14_code
def yX12_fork : MethodName := ⟨RX12, "fork", "(IZZ)I"⟩
abbrev cX12_forget : ByteArray := prog_14_method_15_code
def yX12_forget : MethodName := ⟨RX12, "forget", "(I)V"⟩
abbrev cX12_end : ByteArray := prog_14_method_16_code
def yX12_end : MethodName := ⟨RX12, "end", "(I)V"⟩
abbrev cX12_leave : ByteArray := prog_14_method_17_code
def yX12_leave : MethodName := ⟨RX12, "leave", "(I)I"⟩
abbrev cX12_exit : ByteArray := prog_14_method_18_code
def yX12_exit : MethodName := ⟨RX12, "exit", "(I)I"⟩
abbrev cX12_reap : ByteArray := prog_14_method_19_code
def yX12_reap : MethodName := ⟨RX12, "reap", "(I)I"⟩
abbrev cX12_kill : ByteArray := prog_14_method_20_code
def yX12_kill : MethodName := ⟨RX12, "kill", "(II)I"⟩
abbrev cX12_number : ByteArray := prog_14_method_21_code
def yX12_number : MethodName := ⟨RX12, "number", "(II)I"⟩
abbrev cX12_find : ByteArray := prog_14_method_22_code
def yX12_find : MethodName := ⟨RX12, "find", "(II)I"⟩
abbrev cX12_task : ByteArray := prog_14_method_23_code
def yX12_task : MethodName := ⟨RX12, "task", "(II)I"⟩
abbrev cX12_count : ByteArray := prog_14_method_24_code
def yX12_count : MethodName := ⟨RX12, "count", "(I)I"⟩
abbrev cX12_newGroup : ByteArray := prog_14_method_25_code
def yX12_newGroup : MethodName := ⟨RX12, "newGroup", "(I)I"⟩
abbrev cX12_liveIn : ByteArray := prog_14_method_26_code
def yX12_liveIn : MethodName := ⟨RX12, "liveIn", "(I)I"⟩
abbrev cX12_uses : ByteArray := prog_14_method_27_code
def yX12_uses : MethodName := ⟨RX12, "uses", "(I)I"⟩
abbrev cX12_group : ByteArray := prog_14_method_28_code
def yX12_group : MethodName := ⟨RX12, "group", "(I)I"⟩
abbrev cX12_set : ByteArray := prog_14_method_29_code
def yX12_set : MethodName := ⟨RX12, "set", "(III)I"⟩
abbrev cX12_told : ByteArray := prog_14_method_30_code
def yX12_told : MethodName := ⟨RX12, "told", "(II)I"⟩
abbrev cX12_tooFull : ByteArray := prog_14_method_31_code
def yX12_tooFull : MethodName := ⟨RX12, "tooFull", "(II)I"⟩
abbrev cX12_takeCache : ByteArray := prog_14_method_32_code
def yX12_takeCache : MethodName := ⟨RX12, "takeCache", "(II)V"⟩
abbrev cX12_victim : ByteArray := prog_14_method_33_code
def yX12_victim : MethodName := ⟨RX12, "victim", "(I)I"⟩
abbrev cX12_makeRoom : ByteArray := prog_14_method_34_code
def yX12_makeRoom : MethodName := ⟨RX12, "makeRoom", "(II)I"⟩
abbrev cX12_charge : ByteArray := prog_14_method_35_code
def yX12_charge : MethodName := ⟨RX12, "charge", "(II)I"⟩
abbrev cX12_release : ByteArray := prog_14_method_36_code
def yX12_release : MethodName := ⟨RX12, "release", "(II)I"⟩
abbrev cX12_cache : ByteArray := prog_14_method_37_code
def yX12_cache : MethodName := ⟨RX12, "cache", "(II)I"⟩
abbrev cX12_move : ByteArray := prog_14_method_38_code
def yX12_move : MethodName := ⟨RX12, "move", "(II)I"⟩
abbrev cX12_badness : ByteArray := prog_14_method_39_code
def yX12_badness : MethodName := ⟨RX12, "badness", "(II)I"⟩
abbrev cX12_isReady : ByteArray := prog_14_method_40_code
def yX12_isReady : MethodName := ⟨RX12, "isReady", "(I)Z"⟩
abbrev cX12_findReady : ByteArray := prog_14_method_41_code
def yX12_findReady : MethodName := ⟨RX12, "findReady", "()V"⟩
abbrev cX12_leastTime : ByteArray := prog_14_method_42_code
def yX12_leastTime : MethodName := ⟨RX12, "leastTime", "(IZI)J"⟩
abbrev cX12_come : ByteArray := prog_14_method_43_code
def yX12_come : MethodName := ⟨RX12, "come", "(IZ)V"⟩
abbrev cX12_tick : ByteArray := prog_14_method_44_code
def yX12_tick : MethodName := ⟨RX12, "tick", "()I"⟩
abbrev cX12_ticks : ByteArray := prog_14_method_45_code
def yX12_ticks : MethodName := ⟨RX12, "ticks", "(I)I"⟩
abbrev cX12_sleep : ByteArray := prog_14_method_46_code
def yX12_sleep : MethodName := ⟨RX12, "sleep", "(IZ)I"⟩
abbrev cX12_ran : ByteArray := prog_14_method_47_code
def yX12_ran : MethodName := ⟨RX12, "ran", "(I)I"⟩
abbrev cX12_time : ByteArray := prog_14_method_48_code
def yX12_time : MethodName := ⟨RX12, "time", "(ZI)J"⟩
abbrev cX12_make : ByteArray := prog_14_method_49_code
def yX12_make : MethodName := ⟨RX12, "make", "(IIIII)I"⟩
abbrev cX12_copyView : ByteArray := prog_14_method_50_code
def yX12_copyView : MethodName := ⟨RX12, "copyView", "(I)I"⟩
abbrev cX12_mountAt : ByteArray := prog_14_method_51_code
def yX12_mountAt : MethodName := ⟨RX12, "mountAt", "(II)I"⟩
abbrev cX12_rise : ByteArray := prog_14_method_52_code
def yX12_rise : MethodName := ⟨RX12, "rise", "()V"⟩
abbrev cX12_walk : ByteArray := prog_14_method_53_code
def yX12_walk : MethodName := ⟨RX12, "walk", "(II)Z"⟩
abbrev cX12_mount : ByteArray := prog_14_method_54_code
def yX12_mount : MethodName := ⟨RX12, "mount", "(IIIZ)I"⟩
abbrev cX12_isPeer : ByteArray := prog_14_method_55_code
def yX12_isPeer : MethodName := ⟨RX12, "isPeer", "(III)Z"⟩
abbrev cX12_isBusy : ByteArray := prog_14_method_56_code
def yX12_isBusy : MethodName := ⟨RX12, "isBusy", "(I)Z"⟩
abbrev cX12_unmount : ByteArray := prog_14_method_57_code
def yX12_unmount : MethodName := ⟨RX12, "unmount", "(II)I"⟩
abbrev cX12_at : ByteArray := prog_14_method_58_code
def yX12_at : MethodName := ⟨RX12, "at", "(II)I"⟩
abbrev cX12_share : ByteArray := prog_14_method_59_code
def yX12_share : MethodName := ⟨RX12, "share", "(IZ)I"⟩
abbrev cX12_mounted : ByteArray := prog_14_method_60_code
def yX12_mounted : MethodName := ⟨RX12, "mounted", "(II)I"⟩
def RL : String := "TaskTreesLaw"
abbrev cL_number : ByteArray := method_3_code
def yL_number : MethodName := ⟨RL, "number", "(LTaskTrees;II[J)I"⟩
abbrev cL_find : ByteArray := method_4_code
def yL_find : MethodName := ⟨RL, "find", "(LTaskTrees;II[J)I"⟩
abbrev cL_task : ByteArray := method_5_code
def yL_task : MethodName := ⟨RL, "task", "(LTaskTrees;II[J)I"⟩
abbrev cL_count : ByteArray := method_6_code
def yL_count : MethodName := ⟨RL, "count", "(LTaskTrees;I[J)I"⟩
abbrev cL_set : ByteArray := method_7_code
def yL_set : MethodName := ⟨RL, "set", "(LTaskTrees;III[J)I"⟩
abbrev cL_told : ByteArray := method_8_code
def yL_told : MethodName := ⟨RL, "told", "(LTaskTrees;II[J)I"⟩
abbrev cL_charge : ByteArray := method_9_code
def yL_charge : MethodName := ⟨RL, "charge", "(LTaskTrees;II[J)I"⟩
abbrev cL_release : ByteArray := method_10_code
def yL_release : MethodName := ⟨RL, "release", "(LTaskTrees;II[J)I"⟩
abbrev cL_cache : ByteArray := method_11_code
def yL_cache : MethodName := ⟨RL, "cache", "(LTaskTrees;II[J)I"⟩
abbrev cL_badness : ByteArray := method_12_code
def yL_badness : MethodName := ⟨RL, "badness", "(LTaskTrees;II[J)I"⟩
abbrev cL_ticks : ByteArray := method_13_code
def yL_ticks : MethodName := ⟨RL, "ticks", "(LTaskTrees;I[J)I"⟩
abbrev cL_mount : ByteArray := method_14_code
def yL_mount : MethodName := ⟨RL, "mount", "(LTaskTrees;IIIZ[J)I"⟩
abbrev cL_share : ByteArray := method_15_code
def yL_share : MethodName := ⟨RL, "share", "(LTaskTrees;IZ[J)I"⟩
abbrev cL_mounted : ByteArray := method_16_code
def yL_mounted : MethodName := ⟨RL, "mounted", "(LTaskTrees;II[J)I"⟩
abbrev cL_law : ByteArray := code
def yL_law : MethodName := ⟨RL, "law", "([I)Z"⟩
abbrev vwCl : List vw_C := [(RX0, TX0, 3), (RX1, TX1, 14), (RX2, TX2, 2), (RX3, TX3, 3), (RX4, TX4, 9), (RX5, TX5, 6), (RX6, TX6, 2), (RX7, TX7, 6), (RX8, TX8, 11), (RX9, TX9, 4), (RX10, TX10, 2), (RX11, TX11, 5), (RX12, TX12, 41)]
end
section
/-! AN INTERPRETER of the claim's bytecode over an abstract heap: J functions are its normal forms, the machine follows it. -/
/-- a value: an int, a long, a reference -/
abbrev XE : Type := Int32 ⊕ Int64 ⊕ Option Nat
/-- an object: its kind (0..12 an object of that place in vwCl; 100.. arrays; 200 an int array that is only read), its contents -/
abbrev XO : Type := Nat × List XE
/-- the objects by address; how many cells there are; slots taken; the two static arrays -/
abbrev XH : Type := (Nat → Option XO) × Nat × Nat × Nat × Nat
/-- an answer, or an exception (which, where) -/
abbrev XV : Type := Option XE ⊕ (Nat × Nat)
abbrev XR : Type := Option (XV × XH)
abbrev XL : Type := List (Option XE)
def xk (n : Int) : Int32 := Int32.ofInt n
def xup (h : Nat → Option XO) (a : Nat) (o : XO) : Nat → Option XO := fun q => if q = a then some o else h q
def xset (σ : XH) (a : Nat) (o : XO) : XH := (xup σ.1 a o, σ.2)
def xtoI (e : XE) : Option Int32 := match e with
  | .inl x => some x
  | _ => none
def xtoL (e : XE) : Option Int64 := match e with
  | .inr (.inl x) => some x
  | _ => none
def xtoR (e : XE) : Option (Option Nat) := match e with
  | .inr (.inr x) => some x
  | _ => none
/-- place k of the object r of kind t -/
def xgt (σ : XH) (r : Option Nat) (t k : Nat) : Option XE := match r with
  | none => none
  | some a => match σ.1 a with
    | none => none
    | some o => if o.1 = t then o.2[k]? else none
def xgi (σ : XH) (r : Option Nat) (t k : Nat) : Option Int32 := (xgt σ r t k).bind xtoI
def xgl (σ : XH) (r : Option Nat) (t k : Nat) : Option Int64 := (xgt σ r t k).bind xtoL
def xgr (σ : XH) (r : Option Nat) (t k : Nat) : Option (Option Nat) := (xgt σ r t k).bind xtoR
def xpt (σ : XH) (r : Option Nat) (t k : Nat) (e : XE) : Option XH := match r with
  | none => none
  | some a => match σ.1 a with
    | none => none
    | some o => if o.1 = t ∧ k < o.2.length then some (xset σ a (t, o.2.set k e)) else none
/-- a boolean field -/
def xpz (σ : XH) (r : Option Nat) (t k : Nat) (x : Int32) : Option XH := if x = 0 ∨ x = 1 then xpt σ r t k (.inl x) else none
/-- arrays: load, store -/
def xix (i : Int32) (n : Nat) : Bool := decide (0 ≤ i) && decide (i.toNatClampNeg < n)
def xat (σ : XH) (r : Option Nat) (i : Int32) : Option (Nat × XE) := match r with
  | none => none
  | some a => match σ.1 a with
    | none => none
    | some o => if xix i o.2.length then (o.2[i.toNatClampNeg]?).map (fun e => (o.1, e)) else none
def xai (σ : XH) (r : Option Nat) (i : Int32) : Option Int32 := (xat σ r i).bind fun q => if q.1 = 100 ∨ q.1 = 200 then xtoI q.2 else none
def xal (σ : XH) (r : Option Nat) (i : Int32) : Option Int64 := (xat σ r i).bind fun q => if q.1 = 101 then xtoL q.2 else none
def xaz (σ : XH) (r : Option Nat) (i : Int32) : Option Int32 := (xat σ r i).bind fun q => if q.1 = 102 then xtoI q.2 else none
def xar (σ : XH) (r : Option Nat) (i : Int32) : Option (Option Nat) := (xat σ r i).bind fun q => if 103 ≤ q.1 ∧ q.1 < 108 then xtoR q.2 else none
def xas (σ : XH) (r : Option Nat) (t : Nat) (i : Int32) (e : XE) : Option XH := match r with
  | none => none
  | some a => match σ.1 a with
    | none => none
    | some o => if o.1 = t ∧ xix i o.2.length = true then some (xset σ a (t, o.2.set i.toNatClampNeg e)) else none
def xsi (σ : XH) (r : Option Nat) (i x : Int32) : Option XH := xas σ r 100 i (.inl x)
def xsl (σ : XH) (r : Option Nat) (i : Int32) (x : Int64) : Option XH := xas σ r 101 i (.inr (.inl x))
def xsz (σ : XH) (r : Option Nat) (i x : Int32) : Option XH := if x = 0 ∨ x = 1 then xas σ r 102 i (.inl x) else none
/-- the kind of an array of references, by the kind of what it holds -/
def xof (t : Nat) : Nat := match t with
  | 103 => 8
  | 104 => 7
  | 105 => 1
  | 106 => 4
  | _ => 10
def xsr (σ : XH) (r : Option Nat) (i : Int32) (x : Option Nat) : Option XH := match r with
  | none => none
  | some a => match σ.1 a with
    | none => none
    | some o => if 103 ≤ o.1 ∧ o.1 < 108 then (match x with
      | none => xas σ r o.1 i (.inr (.inr none))
      | some b => match σ.1 b with
        | none => none
        | some q => if q.1 = xof o.1 then xas σ r o.1 i (.inr (.inr (some b))) else none) else none
def xln (σ : XH) (r : Option Nat) : Option Int32 := match r with
  | none => none
  | some a => match σ.1 a with
    | none => none
    | some o => if 100 ≤ o.1 then some (nI o.2.length) else none
/-- new objects and arrays -/
def xpush (σ : XH) (o : XO) : XH := (xup σ.1 σ.2.1 o, σ.2.1 + 1, σ.2.2.1 + o.2.length, σ.2.2.2)
def xnw (σ : XH) (o : XO) (k : Nat → XH → XR) : XR := k σ.2.1 (xpush σ o)
def xnwa (σ : XH) (t : Nat) (d : XE) (n : Int32) (k : Nat → XH → XR) : XR := if n < 0 then none else if 100000 < n.toNatClampNeg then none else k σ.2.1 (xpush σ (t, List.replicate n.toNatClampNeg d))
/-- static arrays -/
def xgs (σ : XH) (j : Nat) : Nat := match j with
  | 0 => σ.2.2.2.1
  | _ => σ.2.2.2.2
/-- an exception: one cell of six slots -/
def xthr (σ : XH) (E : Nat) : XR := some (.inr (E, σ.2.1), (σ.1, σ.2.1 + 1, σ.2.2.1 + 6, σ.2.2.2))
/-- thrown with nothing on the stack -/
def xth (σ : XH) (st : List XE) (E : Nat) : XR := match st with
  | [] => xthr σ E
  | _ => none
/-- behind a call: nothing is caught -/
def xcv (r : XR) (k : XH → XR) : XR := match r with
  | some (.inl none, σ) => k σ
  | _ => none
def xci (r : XR) (k : Int32 → XH → XR) : XR := match r with
  | some (.inl (some (.inl x)), σ) => k x σ
  | _ => none
def xcl (r : XR) (k : Int64 → XH → XR) : XR := match r with
  | some (.inl (some (.inr (.inl x))), σ) => k x σ
  | _ => none
def xcr (r : XR) (k : Option Nat → XH → XR) : XR := match r with
  | some (.inl (some (.inr (.inr x))), σ) => k x σ
  | _ => none
/-- behind a call that may throw -/
def xcx (r : XR) (kx : Nat → Nat → XH → XR) (k : Int32 → XH → XR) : XR := match r with
  | some (.inl (some (.inl x)), σ) => k x σ
  | some (.inr (E, q), σ) => kx E q σ
  | _ => none
def xmin (x y : Int32) : Int32 := if y < x then y else x
def xmax (x y : Int64) : Int64 := if y < x then x else y
/-- words that operands take -/
def xwd : List XE → Nat
  | [] => 0
  | .inr (.inl _) :: r => xwd r + 2
  | _ :: r => xwd r + 1
/-- the locals -/
def xlg (ls : XL) (i : Nat) : Option XE := match ls[i]? with
  | some (some e) => some e
  | _ => none
def xcat2 (ls : XL) (j : Nat) : Bool := match ls[j]? with
  | some (some (.inr (.inl _))) => true
  | _ => false
/-- what lies below place i and reaches into it goes -/
def xclr (ls : XL) (i : Nat) : XL := match i with
  | 0 => ls
  | j + 1 => bif xcat2 ls j then ls.set j none else ls
def xst1 (ls : XL) (i : Nat) (e : XE) : XL := (xclr ls i).set i (some e)
/-- a place is forgotten -/
def xst0 (ls : XL) (i : Nat) : XL := (xclr ls i).set i none
def xst2 (ls : XL) (i : Nat) (x : Int64) : XL := ((xclr ls i).set i (some (.inr (.inl x)))).set (i + 1) none
def xent : List XE → XL
  | [] => []
  | e :: es => match e with
    | .inr (.inl _) => some e :: none :: xent es
    | _ => some e :: xent es
def xpad (n : Nat) (ls : XL) : XL := ls ++ List.replicate (n - ls.length) none
def xmsk : List Bool → XL → XL
  | b :: bs, l :: ls => (bif b then l else none) :: xmsk bs ls
  | _, _ => []
/-- a switch, case by case -/
def xsw (x : Int32) (k : Int → XR) (d : Int) : Nat → List Int → XR
  | _, [] => k d
  | n, o :: os => if x = nI n then k o else xsw x k d (n + 1) os
/-- where a jump leads -/
def xj (pc : Nat) (off : Int) (k : Nat → XR) : XR := match (pc : Int) + off with
  | .ofNat t => k t
  | .negSucc _ => none
end
section
/-! tables of the interpreter, printed by wip/gen.py -/
def xow (i : Nat) : Nat := bif Nat.ble i 96 then (bif Nat.ble i 47 then (bif Nat.ble i 23 then (bif Nat.ble i 11 then (bif Nat.ble i 5 then (bif Nat.ble i 2 then (bif Nat.ble i 0 then (bif Nat.beq i 0 then 0 else 0) else (bif Nat.ble i 1 then (bif Nat.beq i 1 then 0 else 0) else (bif Nat.beq i 2 then 0 else 0))) else (bif Nat.ble i 3 then (bif Nat.beq i 3 then 0 else 0) else (bif Nat.ble i 4 then (bif Nat.beq i 4 then 0 else 0) else (bif Nat.beq i 5 then 0 else 0)))) else (bif Nat.ble i 8 then (bif Nat.ble i 6 then (bif Nat.beq i 6 then 0 else 0) else (bif Nat.ble i 7 then (bif Nat.beq i 7 then 0 else 0) else (bif Nat.beq i 8 then 0 else 0))) else (bif Nat.ble i 9 then (bif Nat.beq i 9 then 0 else 0) else (bif Nat.ble i 10 then (bif Nat.beq i 10 then 1 else 0) else (bif Nat.beq i 11 then 1 else 0))))) else (bif Nat.ble i 17 then (bif Nat.ble i 14 then (bif Nat.ble i 12 then (bif Nat.beq i 12 then 1 else 0) else (bif Nat.ble i 13 then (bif Nat.beq i 13 then 1 else 0) else (bif Nat.beq i 14 then 1 else 0))) else (bif Nat.ble i 15 then (bif Nat.beq i 15 then 1 else 0) else (bif Nat.ble i 16 then (bif Nat.beq i 16 then 1 else 0) else (bif Nat.beq i 17 then 1 else 0)))) else (bif Nat.ble i 20 then (bif Nat.ble i 18 then (bif Nat.beq i 18 then 1 else 0) else (bif Nat.ble i 19 then (bif Nat.beq i 19 then 1 else 0) else (bif Nat.beq i 20 then 1 else 0))) else (bif Nat.ble i 21 then (bif Nat.beq i 21 then 1 else 0) else (bif Nat.ble i 22 then (bif Nat.beq i 22 then 1 else 0) else (bif Nat.beq i 23 then 1 else 0)))))) else (bif Nat.ble i 35 then (bif Nat.ble i 29 then (bif Nat.ble i 26 then (bif Nat.ble i 24 then (bif Nat.beq i 24 then 2 else 0) else (bif Nat.ble i 25 then (bif Nat.beq i 25 then 2 else 0) else (bif Nat.beq i 26 then 2 else 0))) else (bif Nat.ble i 27 then (bif Nat.beq i 27 then 2 else 0) else (bif Nat.ble i 28 then (bif Nat.beq i 28 then 2 else 0) else (bif Nat.beq i 29 then 3 else 0)))) else (bif Nat.ble i 32 then (bif Nat.ble i 30 then (bif Nat.beq i 30 then 3 else 0) else (bif Nat.ble i 31 then (bif Nat.beq i 31 then 3 else 0) else (bif Nat.beq i 32 then 3 else 0))) else (bif Nat.ble i 33 then (bif Nat.beq i 33 then 4 else 0) else (bif Nat.ble i 34 then (bif Nat.beq i 34 then 4 else 0) else (bif Nat.beq i 35 then 4 else 0))))) else (bif Nat.ble i 41 then (bif Nat.ble i 38 then (bif Nat.ble i 36 then (bif Nat.beq i 36 then 4 else 0) else (bif Nat.ble i 37 then (bif Nat.beq i 37 then 4 else 0) else (bif Nat.beq i 38 then 4 else 0))) else (bif Nat.ble i 39 then (bif Nat.beq i 39 then 4 else 0) else (bif Nat.ble i 40 then (bif Nat.beq i 40 then 5 else 0) else (bif Nat.beq i 41 then 5 else 0)))) else (bif Nat.ble i 44 then (bif Nat.ble i 42 then (bif Nat.beq i 42 then 5 else 0) else (bif Nat.ble i 43 then (bif Nat.beq i 43 then 5 else 0) else (bif Nat.beq i 44 then 5 else 0))) else (bif Nat.ble i 45 then (bif Nat.beq i 45 then 5 else 0) else (bif Nat.ble i 46 then (bif Nat.beq i 46 then 5 else 0) else (bif Nat.beq i 47 then 5 else 0))))))) else (bif Nat.ble i 71 then (bif Nat.ble i 59 then (bif Nat.ble i 53 then (bif Nat.ble i 50 then (bif Nat.ble i 48 then (bif Nat.beq i 48 then 5 else 0) else (bif Nat.ble i 49 then (bif Nat.beq i 49 then 5 else 0) else (bif Nat.beq i 50 then 5 else 0))) else (bif Nat.ble i 51 then (bif Nat.beq i 51 then 5 else 0) else (bif Nat.ble i 52 then (bif Nat.beq i 52 then 5 else 0) else (bif Nat.beq i 53 then 5 else 0)))) else (bif Nat.ble i 56 then (bif Nat.ble i 54 then (bif Nat.beq i 54 then 5 else 0) else (bif Nat.ble i 55 then (bif Nat.beq i 55 then 5 else 0) else (bif Nat.beq i 56 then 5 else 0))) else (bif Nat.ble i 57 then (bif Nat.beq i 57 then 6 else 0) else (bif Nat.ble i 58 then (bif Nat.beq i 58 then 6 else 0) else (bif Nat.beq i 59 then 6 else 0))))) else (bif Nat.ble i 65 then (bif Nat.ble i 62 then (bif Nat.ble i 60 then (bif Nat.beq i 60 then 6 else 0) else (bif Nat.ble i 61 then (bif Nat.beq i 61 then 6 else 0) else (bif Nat.beq i 62 then 7 else 0))) else (bif Nat.ble i 63 then (bif Nat.beq i 63 then 7 else 0) else (bif Nat.ble i 64 then (bif Nat.beq i 64 then 7 else 0) else (bif Nat.beq i 65 then 7 else 0)))) else (bif Nat.ble i 68 then (bif Nat.ble i 66 then (bif Nat.beq i 66 then 7 else 0) else (bif Nat.ble i 67 then (bif Nat.beq i 67 then 7 else 0) else (bif Nat.beq i 68 then 7 else 0))) else (bif Nat.ble i 69 then (bif Nat.beq i 69 then 8 else 0) else (bif Nat.ble i 70 then (bif Nat.beq i 70 then 8 else 0) else (bif Nat.beq i 71 then 8 else 0)))))) else (bif Nat.ble i 83 then (bif Nat.ble i 77 then (bif Nat.ble i 74 then (bif Nat.ble i 72 then (bif Nat.beq i 72 then 8 else 0) else (bif Nat.ble i 73 then (bif Nat.beq i 73 then 8 else 0) else (bif Nat.beq i 74 then 8 else 0))) else (bif Nat.ble i 75 then (bif Nat.beq i 75 then 8 else 0) else (bif Nat.ble i 76 then (bif Nat.beq i 76 then 8 else 0) else (bif Nat.beq i 77 then 8 else 0)))) else (bif Nat.ble i 80 then (bif Nat.ble i 78 then (bif Nat.beq i 78 then 8 else 0) else (bif Nat.ble i 79 then (bif Nat.beq i 79 then 9 else 0) else (bif Nat.beq i 80 then 9 else 0))) else (bif Nat.ble i 81 then (bif Nat.beq i 81 then 9 else 0) else (bif Nat.ble i 82 then (bif Nat.beq i 82 then 9 else 0) else (bif Nat.beq i 83 then 9 else 0))))) else (bif Nat.ble i 89 then (bif Nat.ble i 86 then (bif Nat.ble i 84 then (bif Nat.beq i 84 then 9 else 0) else (bif Nat.ble i 85 then (bif Nat.beq i 85 then 9 else 0) else (bif Nat.beq i 86 then 9 else 0))) else (bif Nat.ble i 87 then (bif Nat.beq i 87 then 9 else 0) else (bif Nat.ble i 88 then (bif Nat.beq i 88 then 9 else 0) else (bif Nat.beq i 89 then 9 else 0)))) else (bif Nat.ble i 92 then (bif Nat.ble i 90 then (bif Nat.beq i 90 then 9 else 0) else (bif Nat.ble i 91 then (bif Nat.beq i 91 then 9 else 0) else (bif Nat.beq i 92 then 9 else 0))) else (bif Nat.ble i 94 then (bif Nat.ble i 93 then (bif Nat.beq i 93 then 10 else 0) else (bif Nat.beq i 94 then 11 else 0)) else (bif Nat.ble i 95 then (bif Nat.beq i 95 then 11 else 0) else (bif Nat.beq i 96 then 11 else 0)))))))) else (bif Nat.ble i 145 then (bif Nat.ble i 120 then (bif Nat.ble i 108 then (bif Nat.ble i 102 then (bif Nat.ble i 99 then (bif Nat.ble i 97 then (bif Nat.beq i 97 then 11 else 0) else (bif Nat.ble i 98 then (bif Nat.beq i 98 then 11 else 0) else (bif Nat.beq i 99 then 11 else 0))) else (bif Nat.ble i 100 then (bif Nat.beq i 100 then 11 else 0) else (bif Nat.ble i 101 then (bif Nat.beq i 101 then 11 else 0) else (bif Nat.beq i 102 then 11 else 0)))) else (bif Nat.ble i 105 then (bif Nat.ble i 103 then (bif Nat.beq i 103 then 11 else 0) else (bif Nat.ble i 104 then (bif Nat.beq i 104 then 11 else 0) else (bif Nat.beq i 105 then 11 else 0))) else (bif Nat.ble i 106 then (bif Nat.beq i 106 then 11 else 0) else (bif Nat.ble i 107 then (bif Nat.beq i 107 then 11 else 0) else (bif Nat.beq i 108 then 11 else 0))))) else (bif Nat.ble i 114 then (bif Nat.ble i 111 then (bif Nat.ble i 109 then (bif Nat.beq i 109 then 11 else 0) else (bif Nat.ble i 110 then (bif Nat.beq i 110 then 11 else 0) else (bif Nat.beq i 111 then 11 else 0))) else (bif Nat.ble i 112 then (bif Nat.beq i 112 then 11 else 0) else (bif Nat.ble i 113 then (bif Nat.beq i 113 then 11 else 0) else (bif Nat.beq i 114 then 11 else 0)))) else (bif Nat.ble i 117 then (bif Nat.ble i 115 then (bif Nat.beq i 115 then 11 else 0) else (bif Nat.ble i 116 then (bif Nat.beq i 116 then 11 else 0) else (bif Nat.beq i 117 then 11 else 0))) else (bif Nat.ble i 118 then (bif Nat.beq i 118 then 11 else 0) else (bif Nat.ble i 119 then (bif Nat.beq i 119 then 11 else 0) else (bif Nat.beq i 120 then 12 else 0)))))) else (bif Nat.ble i 132 then (bif Nat.ble i 126 then (bif Nat.ble i 123 then (bif Nat.ble i 121 then (bif Nat.beq i 121 then 12 else 0) else (bif Nat.ble i 122 then (bif Nat.beq i 122 then 12 else 0) else (bif Nat.beq i 123 then 12 else 0))) else (bif Nat.ble i 124 then (bif Nat.beq i 124 then 12 else 0) else (bif Nat.ble i 125 then (bif Nat.beq i 125 then 12 else 0) else (bif Nat.beq i 126 then 12 else 0)))) else (bif Nat.ble i 129 then (bif Nat.ble i 127 then (bif Nat.beq i 127 then 12 else 0) else (bif Nat.ble i 128 then (bif Nat.beq i 128 then 12 else 0) else (bif Nat.beq i 129 then 12 else 0))) else (bif Nat.ble i 130 then (bif Nat.beq i 130 then 12 else 0) else (bif Nat.ble i 131 then (bif Nat.beq i 131 then 12 else 0) else (bif Nat.beq i 132 then 12 else 0))))) else (bif Nat.ble i 138 then (bif Nat.ble i 135 then (bif Nat.ble i 133 then (bif Nat.beq i 133 then 12 else 0) else (bif Nat.ble i 134 then (bif Nat.beq i 134 then 12 else 0) else (bif Nat.beq i 135 then 12 else 0))) else (bif Nat.ble i 136 then (bif Nat.beq i 136 then 12 else 0) else (bif Nat.ble i 137 then (bif Nat.beq i 137 then 12 else 0) else (bif Nat.beq i 138 then 12 else 0)))) else (bif Nat.ble i 141 then (bif Nat.ble i 139 then (bif Nat.beq i 139 then 12 else 0) else (bif Nat.ble i 140 then (bif Nat.beq i 140 then 12 else 0) else (bif Nat.beq i 141 then 12 else 0))) else (bif Nat.ble i 143 then (bif Nat.ble i 142 then (bif Nat.beq i 142 then 12 else 0) else (bif Nat.beq i 143 then 12 else 0)) else (bif Nat.ble i 144 then (bif Nat.beq i 144 then 12 else 0) else (bif Nat.beq i 145 then 12 else 0))))))) else (bif Nat.ble i 169 then (bif Nat.ble i 157 then (bif Nat.ble i 151 then (bif Nat.ble i 148 then (bif Nat.ble i 146 then (bif Nat.beq i 146 then 12 else 0) else (bif Nat.ble i 147 then (bif Nat.beq i 147 then 12 else 0) else (bif Nat.beq i 148 then 12 else 0))) else (bif Nat.ble i 149 then (bif Nat.beq i 149 then 12 else 0) else (bif Nat.ble i 150 then (bif Nat.beq i 150 then 12 else 0) else (bif Nat.beq i 151 then 12 else 0)))) else (bif Nat.ble i 154 then (bif Nat.ble i 152 then (bif Nat.beq i 152 then 12 else 0) else (bif Nat.ble i 153 then (bif Nat.beq i 153 then 12 else 0) else (bif Nat.beq i 154 then 12 else 0))) else (bif Nat.ble i 155 then (bif Nat.beq i 155 then 12 else 0) else (bif Nat.ble i 156 then (bif Nat.beq i 156 then 12 else 0) else (bif Nat.beq i 157 then 12 else 0))))) else (bif Nat.ble i 163 then (bif Nat.ble i 160 then (bif Nat.ble i 158 then (bif Nat.beq i 158 then 12 else 0) else (bif Nat.ble i 159 then (bif Nat.beq i 159 then 12 else 0) else (bif Nat.beq i 160 then 12 else 0))) else (bif Nat.ble i 161 then (bif Nat.beq i 161 then 12 else 0) else (bif Nat.ble i 162 then (bif Nat.beq i 162 then 12 else 0) else (bif Nat.beq i 163 then 12 else 0)))) else (bif Nat.ble i 166 then (bif Nat.ble i 164 then (bif Nat.beq i 164 then 12 else 0) else (bif Nat.ble i 165 then (bif Nat.beq i 165 then 12 else 0) else (bif Nat.beq i 166 then 12 else 0))) else (bif Nat.ble i 167 then (bif Nat.beq i 167 then 12 else 0) else (bif Nat.ble i 168 then (bif Nat.beq i 168 then 12 else 0) else (bif Nat.beq i 169 then 12 else 0)))))) else (bif Nat.ble i 181 then (bif Nat.ble i 175 then (bif Nat.ble i 172 then (bif Nat.ble i 170 then (bif Nat.beq i 170 then 12 else 0) else (bif Nat.ble i 171 then (bif Nat.beq i 171 then 12 else 0) else (bif Nat.beq i 172 then 12 else 0))) else (bif Nat.ble i 173 then (bif Nat.beq i 173 then 12 else 0) else (bif Nat.ble i 174 then (bif Nat.beq i 174 then 12 else 0) else (bif Nat.beq i 175 then 12 else 0)))) else (bif Nat.ble i 178 then (bif Nat.ble i 176 then (bif Nat.beq i 176 then 12 else 0) else (bif Nat.ble i 177 then (bif Nat.beq i 177 then 12 else 0) else (bif Nat.beq i 178 then 12 else 0))) else (bif Nat.ble i 179 then (bif Nat.beq i 179 then 12 else 0) else (bif Nat.ble i 180 then (bif Nat.beq i 180 then 13 else 0) else (bif Nat.beq i 181 then 13 else 0))))) else (bif Nat.ble i 187 then (bif Nat.ble i 184 then (bif Nat.ble i 182 then (bif Nat.beq i 182 then 13 else 0) else (bif Nat.ble i 183 then (bif Nat.beq i 183 then 13 else 0) else (bif Nat.beq i 184 then 13 else 0))) else (bif Nat.ble i 185 then (bif Nat.beq i 185 then 13 else 0) else (bif Nat.ble i 186 then (bif Nat.beq i 186 then 13 else 0) else (bif Nat.beq i 187 then 13 else 0)))) else (bif Nat.ble i 190 then (bif Nat.ble i 188 then (bif Nat.beq i 188 then 13 else 0) else (bif Nat.ble i 189 then (bif Nat.beq i 189 then 13 else 0) else (bif Nat.beq i 190 then 13 else 0))) else (bif Nat.ble i 192 then (bif Nat.ble i 191 then (bif Nat.beq i 191 then 13 else 0) else (bif Nat.beq i 192 then 13 else 0)) else (bif Nat.ble i 193 then (bif Nat.beq i 193 then 13 else 0) else (bif Nat.beq i 194 then 13 else 0))))))))
def xmx (i : Nat) : Nat := bif Nat.ble i 96 then (bif Nat.ble i 47 then (bif Nat.ble i 23 then (bif Nat.ble i 11 then (bif Nat.ble i 5 then (bif Nat.ble i 2 then (bif Nat.ble i 0 then (bif Nat.beq i 0 then 3 else 0) else (bif Nat.ble i 1 then (bif Nat.beq i 1 then 2 else 0) else (bif Nat.beq i 2 then 5 else 0))) else (bif Nat.ble i 3 then (bif Nat.beq i 3 then 2 else 0) else (bif Nat.ble i 4 then (bif Nat.beq i 4 then 4 else 0) else (bif Nat.beq i 5 then 3 else 0)))) else (bif Nat.ble i 8 then (bif Nat.ble i 6 then (bif Nat.beq i 6 then 3 else 0) else (bif Nat.ble i 7 then (bif Nat.beq i 7 then 3 else 0) else (bif Nat.beq i 8 then 3 else 0))) else (bif Nat.ble i 9 then (bif Nat.beq i 9 then 2 else 0) else (bif Nat.ble i 10 then (bif Nat.beq i 10 then 3 else 0) else (bif Nat.beq i 11 then 3 else 0))))) else (bif Nat.ble i 17 then (bif Nat.ble i 14 then (bif Nat.ble i 12 then (bif Nat.beq i 12 then 3 else 0) else (bif Nat.ble i 13 then (bif Nat.beq i 13 then 3 else 0) else (bif Nat.beq i 14 then 2 else 0))) else (bif Nat.ble i 15 then (bif Nat.beq i 15 then 2 else 0) else (bif Nat.ble i 16 then (bif Nat.beq i 16 then 2 else 0) else (bif Nat.beq i 17 then 3 else 0)))) else (bif Nat.ble i 20 then (bif Nat.ble i 18 then (bif Nat.beq i 18 then 3 else 0) else (bif Nat.ble i 19 then (bif Nat.beq i 19 then 4 else 0) else (bif Nat.beq i 20 then 2 else 0))) else (bif Nat.ble i 21 then (bif Nat.beq i 21 then 1 else 0) else (bif Nat.ble i 22 then (bif Nat.beq i 22 then 1 else 0) else (bif Nat.beq i 23 then 2 else 0)))))) else (bif Nat.ble i 35 then (bif Nat.ble i 29 then (bif Nat.ble i 26 then (bif Nat.ble i 24 then (bif Nat.beq i 24 then 1 else 0) else (bif Nat.ble i 25 then (bif Nat.beq i 25 then 2 else 0) else (bif Nat.beq i 26 then 2 else 0))) else (bif Nat.ble i 27 then (bif Nat.beq i 27 then 3 else 0) else (bif Nat.ble i 28 then (bif Nat.beq i 28 then 5 else 0) else (bif Nat.beq i 29 then 3 else 0)))) else (bif Nat.ble i 32 then (bif Nat.ble i 30 then (bif Nat.beq i 30 then 5 else 0) else (bif Nat.ble i 31 then (bif Nat.beq i 31 then 5 else 0) else (bif Nat.beq i 32 then 6 else 0))) else (bif Nat.ble i 33 then (bif Nat.beq i 33 then 2 else 0) else (bif Nat.ble i 34 then (bif Nat.beq i 34 then 4 else 0) else (bif Nat.beq i 35 then 2 else 0))))) else (bif Nat.ble i 41 then (bif Nat.ble i 38 then (bif Nat.ble i 36 then (bif Nat.beq i 36 then 3 else 0) else (bif Nat.ble i 37 then (bif Nat.beq i 37 then 3 else 0) else (bif Nat.beq i 38 then 1 else 0))) else (bif Nat.ble i 39 then (bif Nat.beq i 39 then 2 else 0) else (bif Nat.ble i 40 then (bif Nat.beq i 40 then 2 else 0) else (bif Nat.beq i 41 then 2 else 0)))) else (bif Nat.ble i 44 then (bif Nat.ble i 42 then (bif Nat.beq i 42 then 2 else 0) else (bif Nat.ble i 43 then (bif Nat.beq i 43 then 2 else 0) else (bif Nat.beq i 44 then 2 else 0))) else (bif Nat.ble i 45 then (bif Nat.beq i 45 then 5 else 0) else (bif Nat.ble i 46 then (bif Nat.beq i 46 then 2 else 0) else (bif Nat.beq i 47 then 4 else 0))))))) else (bif Nat.ble i 71 then (bif Nat.ble i 59 then (bif Nat.ble i 53 then (bif Nat.ble i 50 then (bif Nat.ble i 48 then (bif Nat.beq i 48 then 4 else 0) else (bif Nat.ble i 49 then (bif Nat.beq i 49 then 4 else 0) else (bif Nat.beq i 50 then 1 else 0))) else (bif Nat.ble i 51 then (bif Nat.beq i 51 then 8 else 0) else (bif Nat.ble i 52 then (bif Nat.beq i 52 then 6 else 0) else (bif Nat.beq i 53 then 5 else 0)))) else (bif Nat.ble i 56 then (bif Nat.ble i 54 then (bif Nat.beq i 54 then 2 else 0) else (bif Nat.ble i 55 then (bif Nat.beq i 55 then 7 else 0) else (bif Nat.beq i 56 then 2 else 0))) else (bif Nat.ble i 57 then (bif Nat.beq i 57 then 1 else 0) else (bif Nat.ble i 58 then (bif Nat.beq i 58 then 4 else 0) else (bif Nat.beq i 59 then 2 else 0))))) else (bif Nat.ble i 65 then (bif Nat.ble i 62 then (bif Nat.ble i 60 then (bif Nat.beq i 60 then 4 else 0) else (bif Nat.ble i 61 then (bif Nat.beq i 61 then 1 else 0) else (bif Nat.beq i 62 then 3 else 0))) else (bif Nat.ble i 63 then (bif Nat.beq i 63 then 3 else 0) else (bif Nat.ble i 64 then (bif Nat.beq i 64 then 3 else 0) else (bif Nat.beq i 65 then 3 else 0)))) else (bif Nat.ble i 68 then (bif Nat.ble i 66 then (bif Nat.beq i 66 then 3 else 0) else (bif Nat.ble i 67 then (bif Nat.beq i 67 then 2 else 0) else (bif Nat.beq i 68 then 3 else 0))) else (bif Nat.ble i 69 then (bif Nat.beq i 69 then 6 else 0) else (bif Nat.ble i 70 then (bif Nat.beq i 70 then 1 else 0) else (bif Nat.beq i 71 then 1 else 0)))))) else (bif Nat.ble i 83 then (bif Nat.ble i 77 then (bif Nat.ble i 74 then (bif Nat.ble i 72 then (bif Nat.beq i 72 then 1 else 0) else (bif Nat.ble i 73 then (bif Nat.beq i 73 then 1 else 0) else (bif Nat.beq i 74 then 1 else 0))) else (bif Nat.ble i 75 then (bif Nat.beq i 75 then 2 else 0) else (bif Nat.ble i 76 then (bif Nat.beq i 76 then 2 else 0) else (bif Nat.beq i 77 then 2 else 0)))) else (bif Nat.ble i 80 then (bif Nat.ble i 78 then (bif Nat.beq i 78 then 2 else 0) else (bif Nat.ble i 79 then (bif Nat.beq i 79 then 1 else 0) else (bif Nat.beq i 80 then 2 else 0))) else (bif Nat.ble i 81 then (bif Nat.beq i 81 then 3 else 0) else (bif Nat.ble i 82 then (bif Nat.beq i 82 then 2 else 0) else (bif Nat.beq i 83 then 4 else 0))))) else (bif Nat.ble i 89 then (bif Nat.ble i 86 then (bif Nat.ble i 84 then (bif Nat.beq i 84 then 4 else 0) else (bif Nat.ble i 85 then (bif Nat.beq i 85 then 3 else 0) else (bif Nat.beq i 86 then 7 else 0))) else (bif Nat.ble i 87 then (bif Nat.beq i 87 then 3 else 0) else (bif Nat.ble i 88 then (bif Nat.beq i 88 then 4 else 0) else (bif Nat.beq i 89 then 5 else 0)))) else (bif Nat.ble i 92 then (bif Nat.ble i 90 then (bif Nat.beq i 90 then 2 else 0) else (bif Nat.ble i 91 then (bif Nat.beq i 91 then 4 else 0) else (bif Nat.beq i 92 then 5 else 0))) else (bif Nat.ble i 94 then (bif Nat.ble i 93 then (bif Nat.beq i 93 then 2 else 0) else (bif Nat.beq i 94 then 1 else 0)) else (bif Nat.ble i 95 then (bif Nat.beq i 95 then 8 else 0) else (bif Nat.beq i 96 then 3 else 0)))))))) else (bif Nat.ble i 145 then (bif Nat.ble i 120 then (bif Nat.ble i 108 then (bif Nat.ble i 102 then (bif Nat.ble i 99 then (bif Nat.ble i 97 then (bif Nat.beq i 97 then 3 else 0) else (bif Nat.ble i 98 then (bif Nat.beq i 98 then 6 else 0) else (bif Nat.beq i 99 then 5 else 0))) else (bif Nat.ble i 100 then (bif Nat.beq i 100 then 5 else 0) else (bif Nat.ble i 101 then (bif Nat.beq i 101 then 4 else 0) else (bif Nat.beq i 102 then 2 else 0)))) else (bif Nat.ble i 105 then (bif Nat.ble i 103 then (bif Nat.beq i 103 then 4 else 0) else (bif Nat.ble i 104 then (bif Nat.beq i 104 then 5 else 0) else (bif Nat.beq i 105 then 4 else 0))) else (bif Nat.ble i 106 then (bif Nat.beq i 106 then 5 else 0) else (bif Nat.ble i 107 then (bif Nat.beq i 107 then 4 else 0) else (bif Nat.beq i 108 then 5 else 0))))) else (bif Nat.ble i 114 then (bif Nat.ble i 111 then (bif Nat.ble i 109 then (bif Nat.beq i 109 then 5 else 0) else (bif Nat.ble i 110 then (bif Nat.beq i 110 then 4 else 0) else (bif Nat.beq i 111 then 4 else 0))) else (bif Nat.ble i 112 then (bif Nat.beq i 112 then 4 else 0) else (bif Nat.ble i 113 then (bif Nat.beq i 113 then 3 else 0) else (bif Nat.beq i 114 then 4 else 0)))) else (bif Nat.ble i 117 then (bif Nat.ble i 115 then (bif Nat.beq i 115 then 7 else 0) else (bif Nat.ble i 116 then (bif Nat.beq i 116 then 5 else 0) else (bif Nat.beq i 117 then 5 else 0))) else (bif Nat.ble i 118 then (bif Nat.beq i 118 then 4 else 0) else (bif Nat.ble i 119 then (bif Nat.beq i 119 then 4 else 0) else (bif Nat.beq i 120 then 1 else 0)))))) else (bif Nat.ble i 132 then (bif Nat.ble i 126 then (bif Nat.ble i 123 then (bif Nat.ble i 121 then (bif Nat.beq i 121 then 1 else 0) else (bif Nat.ble i 122 then (bif Nat.beq i 122 then 6 else 0) else (bif Nat.beq i 123 then 2 else 0))) else (bif Nat.ble i 124 then (bif Nat.beq i 124 then 2 else 0) else (bif Nat.ble i 125 then (bif Nat.beq i 125 then 2 else 0) else (bif Nat.beq i 126 then 4 else 0)))) else (bif Nat.ble i 129 then (bif Nat.ble i 127 then (bif Nat.beq i 127 then 4 else 0) else (bif Nat.ble i 128 then (bif Nat.beq i 128 then 4 else 0) else (bif Nat.beq i 129 then 4 else 0))) else (bif Nat.ble i 130 then (bif Nat.beq i 130 then 4 else 0) else (bif Nat.ble i 131 then (bif Nat.beq i 131 then 3 else 0) else (bif Nat.beq i 132 then 4 else 0))))) else (bif Nat.ble i 138 then (bif Nat.ble i 135 then (bif Nat.ble i 133 then (bif Nat.beq i 133 then 8 else 0) else (bif Nat.ble i 134 then (bif Nat.beq i 134 then 3 else 0) else (bif Nat.beq i 135 then 5 else 0))) else (bif Nat.ble i 136 then (bif Nat.beq i 136 then 5 else 0) else (bif Nat.ble i 137 then (bif Nat.beq i 137 then 2 else 0) else (bif Nat.beq i 138 then 5 else 0)))) else (bif Nat.ble i 141 then (bif Nat.ble i 139 then (bif Nat.beq i 139 then 4 else 0) else (bif Nat.ble i 140 then (bif Nat.beq i 140 then 3 else 0) else (bif Nat.beq i 141 then 3 else 0))) else (bif Nat.ble i 143 then (bif Nat.ble i 142 then (bif Nat.beq i 142 then 3 else 0) else (bif Nat.beq i 143 then 4 else 0)) else (bif Nat.ble i 144 then (bif Nat.beq i 144 then 3 else 0) else (bif Nat.beq i 145 then 4 else 0))))))) else (bif Nat.ble i 169 then (bif Nat.ble i 157 then (bif Nat.ble i 151 then (bif Nat.ble i 148 then (bif Nat.ble i 146 then (bif Nat.beq i 146 then 4 else 0) else (bif Nat.ble i 147 then (bif Nat.beq i 147 then 6 else 0) else (bif Nat.beq i 148 then 6 else 0))) else (bif Nat.ble i 149 then (bif Nat.beq i 149 then 3 else 0) else (bif Nat.ble i 150 then (bif Nat.beq i 150 then 4 else 0) else (bif Nat.beq i 151 then 6 else 0)))) else (bif Nat.ble i 154 then (bif Nat.ble i 152 then (bif Nat.beq i 152 then 4 else 0) else (bif Nat.ble i 153 then (bif Nat.beq i 153 then 7 else 0) else (bif Nat.beq i 154 then 4 else 0))) else (bif Nat.ble i 155 then (bif Nat.beq i 155 then 3 else 0) else (bif Nat.ble i 156 then (bif Nat.beq i 156 then 4 else 0) else (bif Nat.beq i 157 then 5 else 0))))) else (bif Nat.ble i 163 then (bif Nat.ble i 160 then (bif Nat.ble i 158 then (bif Nat.beq i 158 then 3 else 0) else (bif Nat.ble i 159 then (bif Nat.beq i 159 then 2 else 0) else (bif Nat.beq i 160 then 3 else 0))) else (bif Nat.ble i 161 then (bif Nat.beq i 161 then 7 else 0) else (bif Nat.ble i 162 then (bif Nat.beq i 162 then 5 else 0) else (bif Nat.beq i 163 then 7 else 0)))) else (bif Nat.ble i 166 then (bif Nat.ble i 164 then (bif Nat.beq i 164 then 4 else 0) else (bif Nat.ble i 165 then (bif Nat.beq i 165 then 3 else 0) else (bif Nat.beq i 166 then 2 else 0))) else (bif Nat.ble i 167 then (bif Nat.beq i 167 then 3 else 0) else (bif Nat.ble i 168 then (bif Nat.beq i 168 then 7 else 0) else (bif Nat.beq i 169 then 5 else 0)))))) else (bif Nat.ble i 181 then (bif Nat.ble i 175 then (bif Nat.ble i 172 then (bif Nat.ble i 170 then (bif Nat.beq i 170 then 4 else 0) else (bif Nat.ble i 171 then (bif Nat.beq i 171 then 2 else 0) else (bif Nat.beq i 172 then 4 else 0))) else (bif Nat.ble i 173 then (bif Nat.beq i 173 then 13 else 0) else (bif Nat.ble i 174 then (bif Nat.beq i 174 then 4 else 0) else (bif Nat.beq i 175 then 3 else 0)))) else (bif Nat.ble i 178 then (bif Nat.ble i 176 then (bif Nat.beq i 176 then 9 else 0) else (bif Nat.ble i 177 then (bif Nat.beq i 177 then 3 else 0) else (bif Nat.beq i 178 then 4 else 0))) else (bif Nat.ble i 179 then (bif Nat.beq i 179 then 3 else 0) else (bif Nat.ble i 180 then (bif Nat.beq i 180 then 5 else 0) else (bif Nat.beq i 181 then 5 else 0))))) else (bif Nat.ble i 187 then (bif Nat.ble i 184 then (bif Nat.ble i 182 then (bif Nat.beq i 182 then 5 else 0) else (bif Nat.ble i 183 then (bif Nat.beq i 183 then 4 else 0) else (bif Nat.beq i 184 then 6 else 0))) else (bif Nat.ble i 185 then (bif Nat.beq i 185 then 5 else 0) else (bif Nat.ble i 186 then (bif Nat.beq i 186 then 5 else 0) else (bif Nat.beq i 187 then 5 else 0)))) else (bif Nat.ble i 190 then (bif Nat.ble i 188 then (bif Nat.beq i 188 then 5 else 0) else (bif Nat.ble i 189 then (bif Nat.beq i 189 then 5 else 0) else (bif Nat.beq i 190 then 4 else 0))) else (bif Nat.ble i 192 then (bif Nat.ble i 191 then (bif Nat.beq i 191 then 7 else 0) else (bif Nat.beq i 192 then 5 else 0)) else (bif Nat.ble i 193 then (bif Nat.beq i 193 then 5 else 0) else (bif Nat.beq i 194 then 7 else 0))))))))
def xrt (i : Nat) : Option FieldType := bif Nat.ble i 96 then (bif Nat.ble i 47 then (bif Nat.ble i 23 then (bif Nat.ble i 11 then (bif Nat.ble i 5 then (bif Nat.ble i 2 then (bif Nat.ble i 0 then (bif Nat.beq i 0 then none else none) else (bif Nat.ble i 1 then (bif Nat.beq i 1 then (some (.object "TaskTrees$Task")) else none) else (bif Nat.beq i 2 then none else none))) else (bif Nat.ble i 3 then (bif Nat.beq i 3 then none else none) else (bif Nat.ble i 4 then (bif Nat.beq i 4 then none else none) else (bif Nat.beq i 5 then none else none)))) else (bif Nat.ble i 8 then (bif Nat.ble i 6 then (bif Nat.beq i 6 then none else none) else (bif Nat.ble i 7 then (bif Nat.beq i 7 then (some (.object "TaskTrees$Task")) else none) else (bif Nat.beq i 8 then none else none))) else (bif Nat.ble i 9 then (bif Nat.beq i 9 then none else none) else (bif Nat.ble i 10 then (bif Nat.beq i 10 then none else none) else (bif Nat.beq i 11 then (some .boolean) else none))))) else (bif Nat.ble i 17 then (bif Nat.ble i 14 then (bif Nat.ble i 12 then (bif Nat.beq i 12 then none else none) else (bif Nat.ble i 13 then (bif Nat.beq i 13 then none else none) else (bif Nat.beq i 14 then none else none))) else (bif Nat.ble i 15 then (bif Nat.beq i 15 then (some .int) else none) else (bif Nat.ble i 16 then (bif Nat.beq i 16 then (some .boolean) else none) else (bif Nat.beq i 17 then (some .boolean) else none)))) else (bif Nat.ble i 20 then (bif Nat.ble i 18 then (bif Nat.beq i 18 then (some .boolean) else none) else (bif Nat.ble i 19 then (bif Nat.beq i 19 then (some .int) else none) else (bif Nat.beq i 20 then (some .boolean) else none))) else (bif Nat.ble i 21 then (bif Nat.beq i 21 then (some .boolean) else none) else (bif Nat.ble i 22 then (bif Nat.beq i 22 then (some .long) else none) else (bif Nat.beq i 23 then (some .int) else none)))))) else (bif Nat.ble i 35 then (bif Nat.ble i 29 then (bif Nat.ble i 26 then (bif Nat.ble i 24 then (bif Nat.beq i 24 then none else none) else (bif Nat.ble i 25 then (bif Nat.beq i 25 then (some (.object "TaskTrees$Group")) else none) else (bif Nat.beq i 26 then (some .boolean) else none))) else (bif Nat.ble i 27 then (bif Nat.beq i 27 then (some (.object "TaskTrees$Group")) else none) else (bif Nat.ble i 28 then (bif Nat.beq i 28 then (some (.object "TaskTrees$Group")) else none) else (bif Nat.beq i 29 then none else none)))) else (bif Nat.ble i 32 then (bif Nat.ble i 30 then (bif Nat.beq i 30 then (some .int) else none) else (bif Nat.ble i 31 then (bif Nat.beq i 31 then none else none) else (bif Nat.beq i 32 then (some .int) else none))) else (bif Nat.ble i 33 then (bif Nat.beq i 33 then none else none) else (bif Nat.ble i 34 then (bif Nat.beq i 34 then none else none) else (bif Nat.beq i 35 then (some (.object "TaskTrees$Mount")) else none))))) else (bif Nat.ble i 41 then (bif Nat.ble i 38 then (bif Nat.ble i 36 then (bif Nat.beq i 36 then none else none) else (bif Nat.ble i 37 then (bif Nat.beq i 37 then none else none) else (bif Nat.beq i 38 then none else none))) else (bif Nat.ble i 39 then (bif Nat.beq i 39 then (some .int) else none) else (bif Nat.ble i 40 then (bif Nat.beq i 40 then none else none) else (bif Nat.beq i 41 then (some (.object "TaskTrees$View")) else none)))) else (bif Nat.ble i 44 then (bif Nat.ble i 42 then (bif Nat.beq i 42 then (some (.object "TaskTrees$Mount")) else none) else (bif Nat.ble i 43 then (bif Nat.beq i 43 then (some (.object "TaskTrees$View")) else none) else (bif Nat.beq i 44 then (some (.object "TaskTrees$View")) else none))) else (bif Nat.ble i 45 then (bif Nat.beq i 45 then (some (.object "TaskTrees$Mount")) else none) else (bif Nat.ble i 46 then (bif Nat.beq i 46 then (some .int) else none) else (bif Nat.beq i 47 then (some .int) else none))))))) else (bif Nat.ble i 71 then (bif Nat.ble i 59 then (bif Nat.ble i 53 then (bif Nat.ble i 50 then (bif Nat.ble i 48 then (bif Nat.beq i 48 then (some .boolean) else none) else (bif Nat.ble i 49 then (bif Nat.beq i 49 then (some (.object "TaskTrees$View")) else none) else (bif Nat.beq i 50 then none else none))) else (bif Nat.ble i 51 then (bif Nat.beq i 51 then (some .int) else none) else (bif Nat.ble i 52 then (bif Nat.beq i 52 then (some .int) else none) else (bif Nat.beq i 53 then (some .int) else none)))) else (bif Nat.ble i 56 then (bif Nat.ble i 54 then (bif Nat.beq i 54 then (some .boolean) else none) else (bif Nat.ble i 55 then (bif Nat.beq i 55 then (some .int) else none) else (bif Nat.beq i 56 then none else none))) else (bif Nat.ble i 57 then (bif Nat.beq i 57 then none else none) else (bif Nat.ble i 58 then (bif Nat.beq i 58 then (some .boolean) else none) else (bif Nat.beq i 59 then (some .int) else none))))) else (bif Nat.ble i 65 then (bif Nat.ble i 62 then (bif Nat.ble i 60 then (bif Nat.beq i 60 then none else none) else (bif Nat.ble i 61 then (bif Nat.beq i 61 then (some .int) else none) else (bif Nat.beq i 62 then none else none))) else (bif Nat.ble i 63 then (bif Nat.beq i 63 then (some .boolean) else none) else (bif Nat.ble i 64 then (bif Nat.beq i 64 then (some .int) else none) else (bif Nat.beq i 65 then none else none)))) else (bif Nat.ble i 68 then (bif Nat.ble i 66 then (bif Nat.beq i 66 then none else none) else (bif Nat.ble i 67 then (bif Nat.beq i 67 then (some (.object "TaskTrees$Task")) else none) else (bif Nat.beq i 68 then (some .int) else none))) else (bif Nat.ble i 69 then (bif Nat.beq i 69 then none else none) else (bif Nat.ble i 70 then (bif Nat.beq i 70 then (some .boolean) else none) else (bif Nat.beq i 71 then (some .boolean) else none)))))) else (bif Nat.ble i 83 then (bif Nat.ble i 77 then (bif Nat.ble i 74 then (bif Nat.ble i 72 then (bif Nat.beq i 72 then (some .int) else none) else (bif Nat.ble i 73 then (bif Nat.beq i 73 then (some .boolean) else none) else (bif Nat.beq i 74 then (some (.object "TaskTrees$Task")) else none))) else (bif Nat.ble i 75 then (bif Nat.beq i 75 then none else none) else (bif Nat.ble i 76 then (bif Nat.beq i 76 then none else none) else (bif Nat.beq i 77 then none else none)))) else (bif Nat.ble i 80 then (bif Nat.ble i 78 then (bif Nat.beq i 78 then (some .int) else none) else (bif Nat.ble i 79 then (bif Nat.beq i 79 then none else none) else (bif Nat.beq i 80 then (some (.object "TaskTrees$Task")) else none))) else (bif Nat.ble i 81 then (bif Nat.beq i 81 then (some (.object "TaskTrees$Task")) else none) else (bif Nat.ble i 82 then (bif Nat.beq i 82 then (some (.object "TaskTrees$Space")) else none) else (bif Nat.beq i 83 then (some .int) else none))))) else (bif Nat.ble i 89 then (bif Nat.ble i 86 then (bif Nat.ble i 84 then (bif Nat.beq i 84 then (some .boolean) else none) else (bif Nat.ble i 85 then (bif Nat.beq i 85 then (some (.object "TaskTrees$Space")) else none) else (bif Nat.beq i 86 then (some (.object "TaskTrees$Task")) else none))) else (bif Nat.ble i 87 then (bif Nat.beq i 87 then (some .int) else none) else (bif Nat.ble i 88 then (bif Nat.beq i 88 then none else none) else (bif Nat.beq i 89 then (some .int) else none)))) else (bif Nat.ble i 92 then (bif Nat.ble i 90 then (bif Nat.beq i 90 then none else none) else (bif Nat.ble i 91 then (bif Nat.beq i 91 then (some .int) else none) else (bif Nat.beq i 92 then (some (.object "TaskTrees$Task")) else none))) else (bif Nat.ble i 94 then (bif Nat.ble i 93 then (bif Nat.beq i 93 then none else none) else (bif Nat.beq i 94 then none else none)) else (bif Nat.ble i 95 then (bif Nat.beq i 95 then (some .int) else none) else (bif Nat.beq i 96 then (some .int) else none)))))))) else (bif Nat.ble i 145 then (bif Nat.ble i 120 then (bif Nat.ble i 108 then (bif Nat.ble i 102 then (bif Nat.ble i 99 then (bif Nat.ble i 97 then (bif Nat.beq i 97 then (some .int) else none) else (bif Nat.ble i 98 then (bif Nat.beq i 98 then (some .int) else none) else (bif Nat.beq i 99 then (some .int) else none))) else (bif Nat.ble i 100 then (bif Nat.beq i 100 then (some .int) else none) else (bif Nat.ble i 101 then (bif Nat.beq i 101 then (some .int) else none) else (bif Nat.beq i 102 then (some .int) else none)))) else (bif Nat.ble i 105 then (bif Nat.ble i 103 then (bif Nat.beq i 103 then (some .int) else none) else (bif Nat.ble i 104 then (bif Nat.beq i 104 then (some .int) else none) else (bif Nat.beq i 105 then (some .int) else none))) else (bif Nat.ble i 106 then (bif Nat.beq i 106 then (some .int) else none) else (bif Nat.ble i 107 then (bif Nat.beq i 107 then (some .int) else none) else (bif Nat.beq i 108 then (some .int) else none))))) else (bif Nat.ble i 114 then (bif Nat.ble i 111 then (bif Nat.ble i 109 then (bif Nat.beq i 109 then (some .int) else none) else (bif Nat.ble i 110 then (bif Nat.beq i 110 then (some .int) else none) else (bif Nat.beq i 111 then (some .int) else none))) else (bif Nat.ble i 112 then (bif Nat.beq i 112 then (some .int) else none) else (bif Nat.ble i 113 then (bif Nat.beq i 113 then (some .int) else none) else (bif Nat.beq i 114 then (some .long) else none)))) else (bif Nat.ble i 117 then (bif Nat.ble i 115 then (bif Nat.beq i 115 then (some .int) else none) else (bif Nat.ble i 116 then (bif Nat.beq i 116 then (some .int) else none) else (bif Nat.beq i 117 then (some .int) else none))) else (bif Nat.ble i 118 then (bif Nat.beq i 118 then (some .int) else none) else (bif Nat.ble i 119 then (bif Nat.beq i 119 then (some .int) else none) else (bif Nat.beq i 120 then none else none)))))) else (bif Nat.ble i 132 then (bif Nat.ble i 126 then (bif Nat.ble i 123 then (bif Nat.ble i 121 then (bif Nat.beq i 121 then (some .int) else none) else (bif Nat.ble i 122 then (bif Nat.beq i 122 then (some .boolean) else none) else (bif Nat.beq i 123 then (some .boolean) else none))) else (bif Nat.ble i 124 then (bif Nat.beq i 124 then (some .boolean) else none) else (bif Nat.ble i 125 then (bif Nat.beq i 125 then (some .boolean) else none) else (bif Nat.beq i 126 then (some .boolean) else none)))) else (bif Nat.ble i 129 then (bif Nat.ble i 127 then (bif Nat.beq i 127 then (some .boolean) else none) else (bif Nat.ble i 128 then (bif Nat.beq i 128 then (some .int) else none) else (bif Nat.beq i 129 then (some .int) else none))) else (bif Nat.ble i 130 then (bif Nat.beq i 130 then (some .int) else none) else (bif Nat.ble i 131 then (bif Nat.beq i 131 then (some .int) else none) else (bif Nat.beq i 132 then (some .int) else none))))) else (bif Nat.ble i 138 then (bif Nat.ble i 135 then (bif Nat.ble i 133 then (bif Nat.beq i 133 then (some .int) else none) else (bif Nat.ble i 134 then (bif Nat.beq i 134 then none else none) else (bif Nat.beq i 135 then none else none))) else (bif Nat.ble i 136 then (bif Nat.beq i 136 then (some .int) else none) else (bif Nat.ble i 137 then (bif Nat.beq i 137 then (some .int) else none) else (bif Nat.beq i 138 then (some .int) else none)))) else (bif Nat.ble i 141 then (bif Nat.ble i 139 then (bif Nat.beq i 139 then (some .int) else none) else (bif Nat.ble i 140 then (bif Nat.beq i 140 then (some .int) else none) else (bif Nat.beq i 141 then (some .int) else none))) else (bif Nat.ble i 143 then (bif Nat.ble i 142 then (bif Nat.beq i 142 then (some .int) else none) else (bif Nat.beq i 143 then (some .int) else none)) else (bif Nat.ble i 144 then (bif Nat.beq i 144 then (some .int) else none) else (bif Nat.beq i 145 then (some .int) else none))))))) else (bif Nat.ble i 169 then (bif Nat.ble i 157 then (bif Nat.ble i 151 then (bif Nat.ble i 148 then (bif Nat.ble i 146 then (bif Nat.beq i 146 then (some .int) else none) else (bif Nat.ble i 147 then (bif Nat.beq i 147 then (some .int) else none) else (bif Nat.beq i 148 then (some .int) else none))) else (bif Nat.ble i 149 then (bif Nat.beq i 149 then (some .int) else none) else (bif Nat.ble i 150 then (bif Nat.beq i 150 then (some .int) else none) else (bif Nat.beq i 151 then none else none)))) else (bif Nat.ble i 154 then (bif Nat.ble i 152 then (bif Nat.beq i 152 then (some .int) else none) else (bif Nat.ble i 153 then (bif Nat.beq i 153 then (some .int) else none) else (bif Nat.beq i 154 then (some .int) else none))) else (bif Nat.ble i 155 then (bif Nat.beq i 155 then (some .int) else none) else (bif Nat.ble i 156 then (bif Nat.beq i 156 then (some .int) else none) else (bif Nat.beq i 157 then (some .int) else none))))) else (bif Nat.ble i 163 then (bif Nat.ble i 160 then (bif Nat.ble i 158 then (bif Nat.beq i 158 then (some .int) else none) else (bif Nat.ble i 159 then (bif Nat.beq i 159 then (some .boolean) else none) else (bif Nat.beq i 160 then none else none))) else (bif Nat.ble i 161 then (bif Nat.beq i 161 then (some .long) else none) else (bif Nat.ble i 162 then (bif Nat.beq i 162 then none else none) else (bif Nat.beq i 163 then (some .int) else none)))) else (bif Nat.ble i 166 then (bif Nat.ble i 164 then (bif Nat.beq i 164 then (some .int) else none) else (bif Nat.ble i 165 then (bif Nat.beq i 165 then (some .int) else none) else (bif Nat.beq i 166 then (some .int) else none))) else (bif Nat.ble i 167 then (bif Nat.beq i 167 then (some .long) else none) else (bif Nat.ble i 168 then (bif Nat.beq i 168 then (some .int) else none) else (bif Nat.beq i 169 then (some .int) else none)))))) else (bif Nat.ble i 181 then (bif Nat.ble i 175 then (bif Nat.ble i 172 then (bif Nat.ble i 170 then (bif Nat.beq i 170 then (some .int) else none) else (bif Nat.ble i 171 then (bif Nat.beq i 171 then none else none) else (bif Nat.beq i 172 then (some .boolean) else none))) else (bif Nat.ble i 173 then (bif Nat.beq i 173 then (some .int) else none) else (bif Nat.ble i 174 then (bif Nat.beq i 174 then (some .boolean) else none) else (bif Nat.beq i 175 then (some .boolean) else none)))) else (bif Nat.ble i 178 then (bif Nat.ble i 176 then (bif Nat.beq i 176 then (some .int) else none) else (bif Nat.ble i 177 then (bif Nat.beq i 177 then (some .int) else none) else (bif Nat.beq i 178 then (some .int) else none))) else (bif Nat.ble i 179 then (bif Nat.beq i 179 then (some .int) else none) else (bif Nat.ble i 180 then (bif Nat.beq i 180 then (some .int) else none) else (bif Nat.beq i 181 then (some .int) else none))))) else (bif Nat.ble i 187 then (bif Nat.ble i 184 then (bif Nat.ble i 182 then (bif Nat.beq i 182 then (some .int) else none) else (bif Nat.ble i 183 then (bif Nat.beq i 183 then (some .int) else none) else (bif Nat.beq i 184 then (some .int) else none))) else (bif Nat.ble i 185 then (bif Nat.beq i 185 then (some .int) else none) else (bif Nat.ble i 186 then (bif Nat.beq i 186 then (some .int) else none) else (bif Nat.beq i 187 then (some .int) else none)))) else (bif Nat.ble i 190 then (bif Nat.ble i 188 then (bif Nat.beq i 188 then (some .int) else none) else (bif Nat.ble i 189 then (bif Nat.beq i 189 then (some .int) else none) else (bif Nat.beq i 190 then (some .int) else none))) else (bif Nat.ble i 192 then (bif Nat.ble i 191 then (bif Nat.beq i 191 then (some .int) else none) else (bif Nat.beq i 192 then (some .int) else none)) else (bif Nat.ble i 193 then (bif Nat.beq i 193 then (some .int) else none) else (bif Nat.beq i 194 then (some .boolean) else none))))))))
def xrk (i : Nat) : Nat := match xrt i with
  | none => 0
  | some .int => 1
  | some .long => 2
  | some (.object _) => 3
  | some .boolean => 4
  | _ => 9
def xdp (i : Nat) : Nat := bif Nat.ble i 96 then (bif Nat.ble i 47 then (bif Nat.ble i 23 then (bif Nat.ble i 11 then (bif Nat.ble i 5 then (bif Nat.ble i 2 then (bif Nat.ble i 0 then (bif Nat.beq i 0 then 1 else 0) else (bif Nat.ble i 1 then (bif Nat.beq i 1 then 2 else 0) else (bif Nat.beq i 2 then 2 else 0))) else (bif Nat.ble i 3 then (bif Nat.beq i 3 then 2 else 0) else (bif Nat.ble i 4 then (bif Nat.beq i 4 then 1 else 0) else (bif Nat.beq i 5 then 0 else 0)))) else (bif Nat.ble i 8 then (bif Nat.ble i 6 then (bif Nat.beq i 6 then 0 else 0) else (bif Nat.ble i 7 then (bif Nat.beq i 7 then 1 else 0) else (bif Nat.beq i 8 then 0 else 0))) else (bif Nat.ble i 9 then (bif Nat.beq i 9 then 0 else 0) else (bif Nat.ble i 10 then (bif Nat.beq i 10 then 1 else 0) else (bif Nat.beq i 11 then 0 else 0))))) else (bif Nat.ble i 17 then (bif Nat.ble i 14 then (bif Nat.ble i 12 then (bif Nat.beq i 12 then 0 else 0) else (bif Nat.ble i 13 then (bif Nat.beq i 13 then 0 else 0) else (bif Nat.beq i 14 then 1 else 0))) else (bif Nat.ble i 15 then (bif Nat.beq i 15 then 0 else 0) else (bif Nat.ble i 16 then (bif Nat.beq i 16 then 0 else 0) else (bif Nat.beq i 17 then 1 else 0)))) else (bif Nat.ble i 20 then (bif Nat.ble i 18 then (bif Nat.beq i 18 then 0 else 0) else (bif Nat.ble i 19 then (bif Nat.beq i 19 then 1 else 0) else (bif Nat.beq i 20 then 0 else 0))) else (bif Nat.ble i 21 then (bif Nat.beq i 21 then 0 else 0) else (bif Nat.ble i 22 then (bif Nat.beq i 22 then 1 else 0) else (bif Nat.beq i 23 then 0 else 0)))))) else (bif Nat.ble i 35 then (bif Nat.ble i 29 then (bif Nat.ble i 26 then (bif Nat.ble i 24 then (bif Nat.beq i 24 then 1 else 0) else (bif Nat.ble i 25 then (bif Nat.beq i 25 then 0 else 0) else (bif Nat.beq i 26 then 0 else 0))) else (bif Nat.ble i 27 then (bif Nat.beq i 27 then 2 else 0) else (bif Nat.ble i 28 then (bif Nat.beq i 28 then 1 else 0) else (bif Nat.beq i 29 then 1 else 0)))) else (bif Nat.ble i 32 then (bif Nat.ble i 30 then (bif Nat.beq i 30 then 5 else 0) else (bif Nat.ble i 31 then (bif Nat.beq i 31 then 2 else 0) else (bif Nat.beq i 32 then 4 else 0))) else (bif Nat.ble i 33 then (bif Nat.beq i 33 then 1 else 0) else (bif Nat.ble i 34 then (bif Nat.beq i 34 then 0 else 0) else (bif Nat.beq i 35 then 0 else 0))))) else (bif Nat.ble i 41 then (bif Nat.ble i 38 then (bif Nat.ble i 36 then (bif Nat.beq i 36 then 0 else 0) else (bif Nat.ble i 37 then (bif Nat.beq i 37 then 1 else 0) else (bif Nat.beq i 38 then 1 else 0))) else (bif Nat.ble i 39 then (bif Nat.beq i 39 then 0 else 0) else (bif Nat.ble i 40 then (bif Nat.beq i 40 then 2 else 0) else (bif Nat.beq i 41 then 0 else 0)))) else (bif Nat.ble i 44 then (bif Nat.ble i 42 then (bif Nat.beq i 42 then 0 else 0) else (bif Nat.ble i 43 then (bif Nat.beq i 43 then 3 else 0) else (bif Nat.beq i 44 then 2 else 0))) else (bif Nat.ble i 45 then (bif Nat.beq i 45 then 1 else 0) else (bif Nat.ble i 46 then (bif Nat.beq i 46 then 0 else 0) else (bif Nat.beq i 47 then 1 else 0))))))) else (bif Nat.ble i 71 then (bif Nat.ble i 59 then (bif Nat.ble i 53 then (bif Nat.ble i 50 then (bif Nat.ble i 48 then (bif Nat.beq i 48 then 0 else 0) else (bif Nat.ble i 49 then (bif Nat.beq i 49 then 3 else 0) else (bif Nat.beq i 50 then 2 else 0))) else (bif Nat.ble i 51 then (bif Nat.beq i 51 then 3 else 0) else (bif Nat.ble i 52 then (bif Nat.beq i 52 then 2 else 0) else (bif Nat.beq i 53 then 1 else 0)))) else (bif Nat.ble i 56 then (bif Nat.ble i 54 then (bif Nat.beq i 54 then 0 else 0) else (bif Nat.ble i 55 then (bif Nat.beq i 55 then 3 else 0) else (bif Nat.beq i 56 then 2 else 0))) else (bif Nat.ble i 57 then (bif Nat.beq i 57 then 1 else 0) else (bif Nat.ble i 58 then (bif Nat.beq i 58 then 2 else 0) else (bif Nat.beq i 59 then 0 else 0))))) else (bif Nat.ble i 65 then (bif Nat.ble i 62 then (bif Nat.ble i 60 then (bif Nat.beq i 60 then 1 else 0) else (bif Nat.ble i 61 then (bif Nat.beq i 61 then 0 else 0) else (bif Nat.beq i 62 then 1 else 0))) else (bif Nat.ble i 63 then (bif Nat.beq i 63 then 0 else 0) else (bif Nat.ble i 64 then (bif Nat.beq i 64 then 0 else 0) else (bif Nat.beq i 65 then 1 else 0)))) else (bif Nat.ble i 68 then (bif Nat.ble i 66 then (bif Nat.beq i 66 then 0 else 0) else (bif Nat.ble i 67 then (bif Nat.beq i 67 then 0 else 0) else (bif Nat.beq i 68 then 0 else 0))) else (bif Nat.ble i 69 then (bif Nat.beq i 69 then 1 else 0) else (bif Nat.ble i 70 then (bif Nat.beq i 70 then 0 else 0) else (bif Nat.beq i 71 then 0 else 0)))))) else (bif Nat.ble i 83 then (bif Nat.ble i 77 then (bif Nat.ble i 74 then (bif Nat.ble i 72 then (bif Nat.beq i 72 then 0 else 0) else (bif Nat.ble i 73 then (bif Nat.beq i 73 then 0 else 0) else (bif Nat.beq i 74 then 0 else 0))) else (bif Nat.ble i 75 then (bif Nat.beq i 75 then 1 else 0) else (bif Nat.ble i 76 then (bif Nat.beq i 76 then 1 else 0) else (bif Nat.beq i 77 then 1 else 0)))) else (bif Nat.ble i 80 then (bif Nat.ble i 78 then (bif Nat.beq i 78 then 0 else 0) else (bif Nat.ble i 79 then (bif Nat.beq i 79 then 1 else 0) else (bif Nat.beq i 80 then 0 else 0))) else (bif Nat.ble i 81 then (bif Nat.beq i 81 then 1 else 0) else (bif Nat.ble i 82 then (bif Nat.beq i 82 then 0 else 0) else (bif Nat.beq i 83 then 0 else 0))))) else (bif Nat.ble i 89 then (bif Nat.ble i 86 then (bif Nat.ble i 84 then (bif Nat.beq i 84 then 1 else 0) else (bif Nat.ble i 85 then (bif Nat.beq i 85 then 2 else 0) else (bif Nat.beq i 86 then 2 else 0))) else (bif Nat.ble i 87 then (bif Nat.beq i 87 then 3 else 0) else (bif Nat.ble i 88 then (bif Nat.beq i 88 then 1 else 0) else (bif Nat.beq i 89 then 2 else 0)))) else (bif Nat.ble i 92 then (bif Nat.ble i 90 then (bif Nat.beq i 90 then 2 else 0) else (bif Nat.ble i 91 then (bif Nat.beq i 91 then 2 else 0) else (bif Nat.beq i 92 then 1 else 0))) else (bif Nat.ble i 94 then (bif Nat.ble i 93 then (bif Nat.beq i 93 then 1 else 0) else (bif Nat.beq i 94 then 4 else 0)) else (bif Nat.ble i 95 then (bif Nat.beq i 95 then 4 else 0) else (bif Nat.beq i 96 then 4 else 0)))))))) else (bif Nat.ble i 145 then (bif Nat.ble i 120 then (bif Nat.ble i 108 then (bif Nat.ble i 102 then (bif Nat.ble i 99 then (bif Nat.ble i 97 then (bif Nat.beq i 97 then 3 else 0) else (bif Nat.ble i 98 then (bif Nat.beq i 98 then 4 else 0) else (bif Nat.beq i 99 then 6 else 0))) else (bif Nat.ble i 100 then (bif Nat.beq i 100 then 6 else 0) else (bif Nat.ble i 101 then (bif Nat.beq i 101 then 6 else 0) else (bif Nat.beq i 102 then 6 else 0)))) else (bif Nat.ble i 105 then (bif Nat.ble i 103 then (bif Nat.beq i 103 then 3 else 0) else (bif Nat.ble i 104 then (bif Nat.beq i 104 then 6 else 0) else (bif Nat.beq i 105 then 6 else 0))) else (bif Nat.ble i 106 then (bif Nat.beq i 106 then 6 else 0) else (bif Nat.ble i 107 then (bif Nat.beq i 107 then 6 else 0) else (bif Nat.beq i 108 then 6 else 0))))) else (bif Nat.ble i 114 then (bif Nat.ble i 111 then (bif Nat.ble i 109 then (bif Nat.beq i 109 then 3 else 0) else (bif Nat.ble i 110 then (bif Nat.beq i 110 then 6 else 0) else (bif Nat.beq i 111 then 6 else 0))) else (bif Nat.ble i 112 then (bif Nat.beq i 112 then 3 else 0) else (bif Nat.ble i 113 then (bif Nat.beq i 113 then 1 else 0) else (bif Nat.beq i 114 then 1 else 0)))) else (bif Nat.ble i 117 then (bif Nat.ble i 115 then (bif Nat.beq i 115 then 6 else 0) else (bif Nat.ble i 116 then (bif Nat.beq i 116 then 4 else 0) else (bif Nat.beq i 117 then 3 else 0))) else (bif Nat.ble i 118 then (bif Nat.beq i 118 then 6 else 0) else (bif Nat.ble i 119 then (bif Nat.beq i 119 then 6 else 0) else (bif Nat.beq i 120 then 1 else 0)))))) else (bif Nat.ble i 132 then (bif Nat.ble i 126 then (bif Nat.ble i 123 then (bif Nat.ble i 121 then (bif Nat.beq i 121 then 0 else 0) else (bif Nat.ble i 122 then (bif Nat.beq i 122 then 0 else 0) else (bif Nat.beq i 123 then 1 else 0))) else (bif Nat.ble i 124 then (bif Nat.beq i 124 then 2 else 0) else (bif Nat.ble i 125 then (bif Nat.beq i 125 then 1 else 0) else (bif Nat.beq i 126 then 0 else 0)))) else (bif Nat.ble i 129 then (bif Nat.ble i 127 then (bif Nat.beq i 127 then 0 else 0) else (bif Nat.ble i 128 then (bif Nat.beq i 128 then 0 else 0) else (bif Nat.beq i 129 then 1 else 0))) else (bif Nat.ble i 130 then (bif Nat.beq i 130 then 0 else 0) else (bif Nat.ble i 131 then (bif Nat.beq i 131 then 0 else 0) else (bif Nat.beq i 132 then 0 else 0))))) else (bif Nat.ble i 138 then (bif Nat.ble i 135 then (bif Nat.ble i 133 then (bif Nat.beq i 133 then 4 else 0) else (bif Nat.ble i 134 then (bif Nat.beq i 134 then 0 else 0) else (bif Nat.beq i 135 then 0 else 0))) else (bif Nat.ble i 136 then (bif Nat.beq i 136 then 1 else 0) else (bif Nat.ble i 137 then (bif Nat.beq i 137 then 3 else 0) else (bif Nat.beq i 138 then 3 else 0)))) else (bif Nat.ble i 141 then (bif Nat.ble i 139 then (bif Nat.beq i 139 then 3 else 0) else (bif Nat.ble i 140 then (bif Nat.beq i 140 then 2 else 0) else (bif Nat.beq i 141 then 1 else 0))) else (bif Nat.ble i 143 then (bif Nat.ble i 142 then (bif Nat.beq i 142 then 2 else 0) else (bif Nat.beq i 143 then 1 else 0)) else (bif Nat.ble i 144 then (bif Nat.beq i 144 then 0 else 0) else (bif Nat.beq i 145 then 1 else 0))))))) else (bif Nat.ble i 169 then (bif Nat.ble i 157 then (bif Nat.ble i 151 then (bif Nat.ble i 148 then (bif Nat.ble i 146 then (bif Nat.beq i 146 then 1 else 0) else (bif Nat.ble i 147 then (bif Nat.beq i 147 then 3 else 0) else (bif Nat.beq i 148 then 2 else 0))) else (bif Nat.ble i 149 then (bif Nat.beq i 149 then 2 else 0) else (bif Nat.ble i 150 then (bif Nat.beq i 150 then 2 else 0) else (bif Nat.beq i 151 then 2 else 0)))) else (bif Nat.ble i 154 then (bif Nat.ble i 152 then (bif Nat.beq i 152 then 1 else 0) else (bif Nat.ble i 153 then (bif Nat.beq i 153 then 3 else 0) else (bif Nat.beq i 154 then 4 else 0))) else (bif Nat.ble i 155 then (bif Nat.beq i 155 then 3 else 0) else (bif Nat.ble i 156 then (bif Nat.beq i 156 then 4 else 0) else (bif Nat.beq i 157 then 4 else 0))))) else (bif Nat.ble i 163 then (bif Nat.ble i 160 then (bif Nat.ble i 158 then (bif Nat.beq i 158 then 3 else 0) else (bif Nat.ble i 159 then (bif Nat.beq i 159 then 0 else 0) else (bif Nat.beq i 160 then 1 else 0))) else (bif Nat.ble i 161 then (bif Nat.beq i 161 then 2 else 0) else (bif Nat.ble i 162 then (bif Nat.beq i 162 then 3 else 0) else (bif Nat.beq i 163 then 2 else 0)))) else (bif Nat.ble i 166 then (bif Nat.ble i 164 then (bif Nat.beq i 164 then 3 else 0) else (bif Nat.ble i 165 then (bif Nat.beq i 165 then 4 else 0) else (bif Nat.beq i 166 then 2 else 0))) else (bif Nat.ble i 167 then (bif Nat.beq i 167 then 2 else 0) else (bif Nat.ble i 168 then (bif Nat.beq i 168 then 0 else 0) else (bif Nat.beq i 169 then 1 else 0)))))) else (bif Nat.ble i 181 then (bif Nat.ble i 175 then (bif Nat.ble i 172 then (bif Nat.ble i 170 then (bif Nat.beq i 170 then 0 else 0) else (bif Nat.ble i 171 then (bif Nat.beq i 171 then 1 else 0) else (bif Nat.beq i 172 then 3 else 0))) else (bif Nat.ble i 173 then (bif Nat.beq i 173 then 4 else 0) else (bif Nat.ble i 174 then (bif Nat.beq i 174 then 0 else 0) else (bif Nat.beq i 175 then 0 else 0)))) else (bif Nat.ble i 178 then (bif Nat.ble i 176 then (bif Nat.beq i 176 then 4 else 0) else (bif Nat.ble i 177 then (bif Nat.beq i 177 then 4 else 0) else (bif Nat.beq i 178 then 1 else 0))) else (bif Nat.ble i 179 then (bif Nat.beq i 179 then 1 else 0) else (bif Nat.ble i 180 then (bif Nat.beq i 180 then 7 else 0) else (bif Nat.beq i 181 then 7 else 0))))) else (bif Nat.ble i 187 then (bif Nat.ble i 184 then (bif Nat.ble i 182 then (bif Nat.beq i 182 then 7 else 0) else (bif Nat.ble i 183 then (bif Nat.beq i 183 then 7 else 0) else (bif Nat.beq i 184 then 7 else 0))) else (bif Nat.ble i 185 then (bif Nat.beq i 185 then 7 else 0) else (bif Nat.ble i 186 then (bif Nat.beq i 186 then 7 else 0) else (bif Nat.beq i 187 then 7 else 0)))) else (bif Nat.ble i 190 then (bif Nat.ble i 188 then (bif Nat.beq i 188 then 7 else 0) else (bif Nat.ble i 189 then (bif Nat.beq i 189 then 7 else 0) else (bif Nat.beq i 190 then 7 else 0))) else (bif Nat.ble i 192 then (bif Nat.ble i 191 then (bif Nat.beq i 191 then 7 else 0) else (bif Nat.beq i 192 then 7 else 0)) else (bif Nat.ble i 193 then (bif Nat.beq i 193 then 7 else 0) else (bif Nat.beq i 194 then 8 else 0))))))))
def xhs (i : Nat) : Bool := bif Nat.ble 180 i then Nat.ble i 193 else false
def xhd (i E : Nat) (K : Nat → Nat → XR) : XR := bif Nat.ble i 186 then (bif Nat.ble i 182 then (bif Nat.ble i 180 then (bif Nat.beq i 180 then (if E = 50 then K 15 4 else none) else none) else (bif Nat.ble i 181 then (bif Nat.beq i 181 then (if E = 50 then K 15 4 else none) else none) else (bif Nat.beq i 182 then (if E = 50 then K 15 4 else none) else none))) else (bif Nat.ble i 184 then (bif Nat.ble i 183 then (bif Nat.beq i 183 then (if E = 50 then K 13 3 else none) else none) else (bif Nat.beq i 184 then (if E = 50 then K 17 5 else if E = 51 then K 21 5 else none) else none)) else (bif Nat.ble i 185 then (bif Nat.beq i 185 then (if E = 50 then K 15 4 else none) else none) else (bif Nat.beq i 186 then (if E = 51 then K 15 4 else none) else none)))) else (bif Nat.ble i 189 then (bif Nat.ble i 187 then (bif Nat.beq i 187 then (if E = 51 then K 15 4 else none) else none) else (bif Nat.ble i 188 then (bif Nat.beq i 188 then (if E = 51 then K 15 4 else none) else none) else (bif Nat.beq i 189 then (if E = 51 then K 15 4 else none) else none))) else (bif Nat.ble i 191 then (bif Nat.ble i 190 then (bif Nat.beq i 190 then (if E = 51 then K 13 3 else none) else none) else (bif Nat.beq i 191 then (if E = 51 then K 19 6 else none) else none)) else (bif Nat.ble i 192 then (bif Nat.beq i 192 then (if E = 50 then K 15 4 else none) else none) else (bif Nat.beq i 193 then (if E = 50 then K 15 4 else none) else none))))
def xlk {α : Type} : List (Nat × α) → Nat → Option α
  | [], _ => none
  | q :: l, i => bif Nat.beq q.1 i then some q.2 else xlk l i
def xfdL : List (Nat × Nat × Nat × Nat) := [(9, 0, 0, 2), (15, 0, 1, 2), (30, 0, 2, 0), (37, 8, 4, 2), (55, 8, 10, 1), (59, 1, 1, 2), (62, 1, 11, 1), (63, 2, 1, 0), (68, 2, 0, 2), (72, 1, 12, 2), (76, 1, 13, 2), (79, 9, 2, 0), (82, 9, 0, 2), (104, 8, 8, 0), (109, 1, 10, 0), (112, 1, 5, 0), (1010, 1, 3, 0), (1016, 1, 4, 0), (1019, 1, 5, 0), (1022, 1, 0, 0), (1025, 1, 1, 2), (1029, 1, 2, 0), (1032, 1, 7, 0), (1035, 1, 8, 0), (1038, 1, 9, 0), (1045, 8, 4, 2), (1054, 8, 6, 0), (1064, 1, 6, 0), (1067, 1, 12, 2), (1071, 1, 13, 2), (1074, 1, 10, 0), (1077, 1, 11, 1), (1081, 8, 10, 1), (2011, 2, 0, 2), (2017, 2, 1, 0), (2021, 1, 2, 0), (2027, 1, 9, 0), (3009, 3, 0, 2), (3015, 3, 1, 2), (3019, 8, 4, 2), (3033, 1, 1, 2), (3048, 1, 9, 0), (3068, 3, 2, 0), (3075, 8, 5, 0), (4011, 4, 1, 2), (4015, 4, 0, 0), (4019, 4, 2, 2), (4023, 4, 6, 0), (4026, 4, 7, 0), (4029, 4, 5, 0), (4032, 4, 3, 2), (4036, 4, 4, 0), (4043, 10, 0, 0), (5011, 5, 0, 2), (5019, 5, 1, 2), (5026, 5, 2, 2), (5033, 5, 4, 0), (5037, 4, 2, 2), (5049, 10, 1, 2), (5058, 5, 3, 0), (5061, 5, 5, 0), (5064, 4, 7, 0), (5071, 4, 6, 0), (5074, 4, 8, 2), (5081, 4, 3, 2), (5084, 4, 4, 0), (5107, 4, 0, 0), (5110, 4, 5, 0), (6009, 10, 1, 2), (6025, 6, 1, 0), (6029, 6, 0, 2), (6038, 4, 0, 0), (6041, 4, 6, 0), (7011, 7, 3, 2), (7017, 7, 0, 0), (7021, 7, 1, 2), (7025, 7, 2, 0), (7028, 7, 5, 0), (7035, 7, 4, 2), (8009, 8, 0, 0), (8015, 8, 3, 2), (8019, 8, 1, 2), (8023, 8, 4, 2), (8027, 8, 2, 2), (8031, 8, 5, 0), (8034, 8, 9, 3), (8038, 8, 7, 0), (8041, 8, 6, 0), (8044, 7, 4, 2), (8049, 7, 1, 2), (8065, 7, 0, 0), (8066, 1, 0, 0), (8067, 10, 0, 0), (9011, 9, 0, 2), (9019, 9, 1, 2), (9023, 9, 2, 0), (9031, 8, 5, 0), (9034, 9, 3, 0), (9037, 7, 2, 0), (9044, 7, 1, 2), (9067, 8, 1, 2), (9070, 7, 4, 2), (9085, 8, 4, 2), (9089, 8, 6, 0), (9095, 8, 3, 2), (10007, 10, 0, 0), (11010, 11, 0, 2), (11019, 11, 1, 2), (11028, 11, 2, 2), (11035, 11, 3, 2), (11042, 11, 4, 2), (11066, 8, 4, 2), (11078, 8, 1, 2), (11086, 8, 2, 2), (11102, 8, 0, 0), (11118, 7, 4, 2), (11122, 8, 5, 0), (11148, 9, 2, 0), (11154, 9, 3, 0), (11157, 2, 1, 0), (11158, 5, 4, 0), (11161, 5, 3, 0), (11164, 0, 2, 0), (11167, 3, 2, 0), (11183, 1, 0, 0), (11218, 8, 6, 0), (11226, 1, 9, 0), (11238, 8, 7, 0), (11247, 8, 9, 3), (11251, 8, 8, 0), (11256, 1, 11, 1), (11260, 8, 10, 1), (11263, 5, 2, 2), (11273, 6, 0, 2), (11277, 6, 1, 0), (11298, 10, 1, 2), (12007, 12, 2, 2), (12013, 12, 3, 2), (12016, 12, 4, 2), (12019, 12, 5, 2), (12022, 12, 6, 2), (12025, 12, 7, 2), (12028, 12, 8, 2), (12031, 12, 9, 2), (12035, 12, 10, 2), (12039, 12, 11, 2), (12042, 12, 12, 2), (12045, 12, 14, 2), (12048, 12, 15, 2), (12051, 12, 16, 2), (12054, 12, 18, 2), (12057, 12, 19, 2), (12060, 12, 20, 2), (12063, 12, 21, 2), (12066, 12, 22, 2), (12069, 12, 23, 2), (12072, 12, 24, 2), (12075, 12, 25, 2), (12078, 12, 29, 2), (12081, 12, 30, 2), (12084, 12, 31, 2), (12087, 12, 32, 2), (12090, 12, 33, 2), (12093, 12, 34, 2), (12096, 12, 35, 2), (12099, 12, 39, 2), (12102, 12, 40, 2), (12105, 12, 13, 0), (12113, 12, 28, 0), (12120, 12, 1, 0), (12123, 12, 0, 0), (12134, 12, 17, 0), (12187, 12, 26, 0), (12190, 12, 27, 0), (12249, 12, 37, 0), (12252, 12, 38, 0), (12270, 12, 36, 0)]
def xfd (o i : Nat) : Option (Nat × Nat × Nat) := bif Nat.ble i 999 then xlk xfdL (1000 * o + i) else none
def xmdL : List (Nat × Nat × Nat × Nat × Nat) := [(3, 0, 0, 0, 92), (19, 4, 1, 0, 0), (23, 7, 0, 3, 0), (27, 8, 1, 0, 0), (34, 9, 0, 0, 0), (43, 22, 0, 2, 1), (49, 0, 2, 2, 94), (85, 70, 0, 1, 8), (89, 5, 1, 0, 0), (92, 20, 0, 1, 1), (93, 6, 1, 0, 0), (97, 25, 1, 3, 2), (101, 21, 0, 1, 1), (1003, 0, 0, 0, 92), (1041, 12, 1, 0, 1), (1050, 11, 1, 1, 1), (1057, 15, 1, 1, 1), (1061, 23, 1, 1, 1), (1082, 21, 0, 1, 1), (2003, 0, 0, 0, 92), (2024, 10, 2, 0, 91), (2030, 11, 1, 1, 1), (3003, 0, 0, 0, 92), (3025, 31, 2, 0, 3), (3029, 32, 3, 1, 3), (3038, 15, 1, 1, 1), (3042, 28, 1, 3, 2), (3052, 0, 2, 1, 93), (3058, 14, 1, 0, 1), (3062, 92, 1, 3, 9), (3071, 87, 1, 1, 9), (4003, 0, 0, 0, 92), (4039, 36, 2, 0, 4), (5003, 0, 0, 0, 92), (5025, 57, 0, 0, 95), (5030, 33, 1, 0, 91), (5041, 44, 0, 3, 5), (5045, 45, 3, 3, 5), (5053, 93, 1, 0, 91), (5054, 34, 3, 0, 4), (5067, 46, 1, 1, 5), (5077, 50, 1, 0, 90), (5087, 37, 2, 0, 4), (5091, 53, 2, 1, 5), (5095, 52, 4, 1, 5), (5099, 54, 2, 1, 90), (5103, 35, 1, 3, 4), (5113, 56, 1, 0, 5), (5116, 38, 0, 0, 4), (6003, 0, 0, 0, 92), (6015, 60, 2, 0, 6), (6021, 59, 1, 1, 90), (6032, 35, 1, 3, 4), (7003, 0, 0, 0, 92), (7031, 64, 0, 1, 7), (8003, 0, 0, 0, 92), (8052, 12, 1, 0, 1), (8058, 13, 1, 0, 1), (8061, 66, 1, 0, 7), (9003, 0, 0, 0, 92), (9027, 80, 1, 3, 9), (9040, 64, 0, 1, 7), (9048, 62, 2, 0, 91), (9051, 69, 5, 0, 91), (9054, 65, 1, 0, 7), (9058, 13, 1, 0, 1), (9064, 88, 1, 0, 9), (9074, 89, 1, 1, 9), (9078, 90, 0, 0, 9), (9081, 74, 0, 3, 8), (9092, 12, 1, 0, 1), (9098, 63, 1, 1, 7), (9102, 77, 0, 0, 8), (9105, 73, 0, 1, 8), (9109, 67, 1, 3, 7), (9112, 71, 0, 1, 8), (9115, 11, 1, 1, 1), (9118, 72, 0, 1, 8), (10001, 0, 0, 0, 92), (11001, 0, 0, 0, 92), (11009, 24, 0, 0, 95), (11018, 79, 0, 0, 95), (11025, 29, 2, 0, 91), (11034, 0, 2, 0, 91), (11041, 40, 0, 0, 91), (11046, 85, 1, 3, 9), (11050, 27, 1, 3, 2), (11054, 43, 0, 3, 5), (11058, 86, 4, 3, 9), (11062, 81, 1, 3, 9), (11072, 16, 0, 1, 1), (11082, 84, 2, 1, 9), (11090, 48, 1, 1, 5), (11094, 49, 1, 3, 5), (11098, 2, 2, 0, 0), (11106, 87, 1, 1, 9), (11110, 91, 1, 1, 9), (11113, 67, 1, 3, 7), (11125, 82, 1, 3, 9), (11136, 80, 1, 3, 9), (11139, 68, 1, 1, 7), (11144, 78, 1, 1, 8), (11151, 83, 1, 1, 9), (11172, 25, 1, 3, 2), (11176, 26, 1, 1, 2), (11179, 3, 1, 0, 0), (11198, 18, 2, 1, 1), (11202, 19, 2, 1, 1), (11206, 23, 1, 1, 1), (11210, 30, 2, 1, 3), (11214, 75, 1, 0, 8), (11223, 14, 1, 0, 1), (11229, 17, 1, 1, 1), (11233, 76, 1, 0, 8), (11243, 1, 0, 3, 0), (11267, 58, 2, 1, 6), (11280, 51, 4, 1, 5), (11284, 55, 1, 1, 5), (11288, 61, 0, 1, 6), (11292, 41, 1, 3, 5), (11303, 47, 2, 1, 5), (11309, 42, 1, 3, 5), (11313, 39, 1, 1, 4), (12001, 0, 0, 0, 92), (12109, 144, 1, 1, 12), (12116, 168, 5, 1, 12), (12126, 122, 3, 1, 90), (12130, 123, 1, 1, 12), (12137, 128, 2, 1, 12), (12141, 124, 1, 1, 12), (12144, 145, 1, 1, 12), (12147, 130, 1, 1, 12), (12150, 132, 1, 1, 12), (12153, 131, 0, 1, 12), (12157, 129, 1, 1, 12), (12160, 169, 1, 1, 12), (12163, 162, 2, 0, 12), (12167, 135, 1, 0, 12), (12171, 126, 2, 1, 12), (12175, 134, 1, 0, 12), (12178, 136, 1, 1, 12), (12194, 127, 2, 1, 12), (12197, 125, 1, 1, 12), (12200, 161, 3, 2, 12), (12214, 146, 1, 1, 12), (12217, 150, 2, 1, 12), (12220, 151, 2, 0, 12), (12224, 152, 1, 1, 12), (12227, 153, 2, 1, 12), (12234, 159, 1, 1, 12), (12239, 160, 0, 0, 12), (12246, 163, 0, 1, 12), (12255, 170, 2, 1, 12), (12258, 171, 0, 0, 12), (12263, 172, 2, 1, 12), (12266, 174, 3, 1, 12), (12273, 175, 1, 1, 12), (13007, 99, 2, 1, 11), (13015, 100, 2, 1, 11), (13018, 101, 2, 1, 11), (13021, 102, 1, 1, 11), (13025, 104, 3, 1, 11), (13031, 105, 2, 1, 11), (13034, 106, 2, 1, 11), (13037, 107, 2, 1, 11), (13040, 108, 2, 1, 11), (13043, 110, 2, 1, 11), (13046, 111, 1, 1, 11), (13049, 115, 4, 1, 11), (13053, 118, 2, 1, 11), (13057, 119, 2, 1, 11), (13060, 94, 0, 0, 91), (13063, 120, 0, 0, 91), (13064, 95, 3, 1, 11), (13068, 133, 3, 1, 12), (13069, 96, 1, 1, 11), (13072, 137, 1, 1, 12), (13073, 97, 1, 1, 11), (13076, 138, 1, 1, 12), (13077, 98, 2, 1, 11), (13080, 139, 2, 1, 12), (13081, 180, 4, 1, 96), (13086, 140, 2, 1, 12), (13087, 121, 0, 1, 12), (13091, 181, 4, 1, 96), (13093, 141, 2, 1, 12), (13094, 182, 4, 1, 96), (13096, 142, 2, 1, 12), (13097, 183, 3, 1, 96), (13100, 143, 1, 1, 12), (13101, 103, 1, 1, 11), (13104, 147, 1, 1, 12), (13105, 184, 5, 1, 96), (13108, 148, 3, 1, 12), (13109, 185, 4, 1, 96), (13111, 149, 2, 1, 12), (13112, 186, 4, 1, 96), (13114, 154, 2, 1, 12), (13115, 187, 4, 1, 96), (13117, 155, 2, 1, 12), (13118, 188, 4, 1, 96), (13120, 156, 2, 1, 12), (13121, 109, 2, 1, 11), (13124, 157, 2, 1, 12), (13125, 189, 4, 1, 96), (13127, 158, 2, 1, 12), (13128, 190, 3, 1, 96), (13130, 164, 1, 1, 12), (13131, 112, 2, 1, 11), (13134, 165, 2, 1, 12), (13135, 113, 1, 1, 11), (13138, 166, 1, 1, 12), (13139, 114, 2, 2, 11), (13143, 167, 2, 2, 12), (13144, 191, 6, 1, 96), (13147, 173, 4, 1, 12), (13148, 116, 2, 1, 11), (13151, 176, 2, 1, 12), (13152, 117, 2, 1, 11), (13155, 177, 2, 1, 12), (13156, 192, 4, 1, 96), (13159, 178, 2, 1, 12), (13160, 193, 4, 1, 96), (13162, 179, 2, 1, 12)]
def xmd (o i : Nat) : Option (Nat × Nat × Nat × Nat) := bif Nat.ble i 999 then xlk xmdL (1000 * o + i) else none
def xcdL : List (Nat × Nat) := [(2009, 1), (4009, 4), (5009, 4), (5017, 10), (5023, 6), (7009, 8), (9009, 8), (9017, 7), (11007, 2), (11016, 9), (11023, 3), (11032, 0), (11039, 5), (11129, 50), (11193, 51), (13008, 11), (13061, 12)]
def xcd (o i : Nat) : Option Nat := bif Nat.ble i 999 then xlk xcdL (1000 * o + i) else none
def xqiL : List (Nat × Int32) := [(115, 1000000), (1009, 1000000), (11207, 1000000), (12193, 1000000)]
def xqi (o i : Nat) : Option Int32 := bif Nat.ble i 999 then xlk xqiL (1000 * o + i) else none
def xqlL : List (Nat × Int64) := [(107, 10000), (1086, -1), (11254, -1), (12181, 40), (12183, 7), (12185, 8), (12204, 1000000), (12206, 150), (12208, 1000), (12210, 20), (12212, 3), (12230, -10), (12232, 10), (12237, -1), (12242, 10000), (12244, 200), (12261, 9), (12276, 4), (12278, 79)]
def xql (o i : Nat) : Option Int64 := bif Nat.ble i 999 then xlk xqlL (1000 * o + i) else none
def xsdL : List (Nat × Nat) := [(11186, 0), (11190, 1)]
def xsd (o i : Nat) : Option Nat := bif Nat.ble i 999 then xlk xsdL (1000 * o + i) else none
def xoa (c : Nat) : Nat := match c with
  | 8 => 103
  | 7 => 104
  | 1 => 105
  | 4 => 106
  | _ => 107
def xdf (c : Nat) : List XE := bif Nat.ble c 5 then (bif Nat.ble c 2 then (bif Nat.ble c 0 then (bif Nat.beq c 0 then [.inr (.inr none), .inr (.inr none), .inl 0] else []) else (bif Nat.ble c 1 then (bif Nat.beq c 1 then [.inl 0, .inr (.inr none), .inl 0, .inl 0, .inl 0, .inl 0, .inl 0, .inl 0, .inl 0, .inl 0, .inl 0, .inr (.inl 0), .inr (.inr none), .inr (.inr none)] else []) else (bif Nat.beq c 2 then [.inr (.inr none), .inl 0] else []))) else (bif Nat.ble c 3 then (bif Nat.beq c 3 then [.inr (.inr none), .inr (.inr none), .inl 0] else []) else (bif Nat.ble c 4 then (bif Nat.beq c 4 then [.inl 0, .inr (.inr none), .inr (.inr none), .inr (.inr none), .inl 0, .inl 0, .inl 0, .inl 0, .inr (.inr none)] else []) else (bif Nat.beq c 5 then [.inr (.inr none), .inr (.inr none), .inr (.inr none), .inl 0, .inl 0, .inl 0] else [])))) else (bif Nat.ble c 8 then (bif Nat.ble c 6 then (bif Nat.beq c 6 then [.inr (.inr none), .inl 0] else []) else (bif Nat.ble c 7 then (bif Nat.beq c 7 then [.inl 0, .inr (.inr none), .inl 0, .inr (.inr none), .inr (.inr none), .inl 0] else []) else (bif Nat.beq c 8 then [.inl 0, .inr (.inr none), .inr (.inr none), .inr (.inr none), .inr (.inr none), .inl 0, .inl 0, .inl 0, .inl 0, .inl 0, .inr (.inl 0)] else []))) else (bif Nat.ble c 10 then (bif Nat.ble c 9 then (bif Nat.beq c 9 then [.inr (.inr none), .inr (.inr none), .inl 0, .inl 0] else []) else (bif Nat.beq c 10 then [.inl 0, .inr (.inr none)] else [])) else (bif Nat.ble c 11 then (bif Nat.beq c 11 then [.inr (.inr none), .inr (.inr none), .inr (.inr none), .inr (.inr none), .inr (.inr none)] else []) else (bif Nat.beq c 12 then [.inl 0, .inl 0, .inr (.inr none), .inr (.inr none), .inr (.inr none), .inr (.inr none), .inr (.inr none), .inr (.inr none), .inr (.inr none), .inr (.inr none), .inr (.inr none), .inr (.inr none), .inr (.inr none), .inl 0, .inr (.inr none), .inr (.inr none), .inr (.inr none), .inl 0, .inr (.inr none), .inr (.inr none), .inr (.inr none), .inr (.inr none), .inr (.inr none), .inr (.inr none), .inr (.inr none), .inr (.inr none), .inl 0, .inl 0, .inl 0, .inr (.inr none), .inr (.inr none), .inr (.inr none), .inr (.inr none), .inr (.inr none), .inr (.inr none), .inr (.inr none), .inl 0, .inl 0, .inl 0, .inr (.inr none), .inr (.inr none)] else []))))
def xct (i p : Nat) : Option (List Bool) := bif Nat.ble i 92 then (bif Nat.ble i 49 then (bif Nat.ble i 16 then (bif Nat.ble i 8 then (bif Nat.ble i 4 then (bif Nat.ble i 1 then (bif Nat.beq i 1 then (bif Nat.beq p 19 then some [true, true] else none) else none) else (bif Nat.beq i 4 then (bif Nat.ble p 2 then (bif Nat.beq p 2 then some [true, true, true, false] else none) else (bif Nat.ble p 47 then (bif Nat.beq p 47 then some [true, true, true, false] else none) else (bif Nat.beq p 101 then some [true, false, true, false] else none))) else none)) else (bif Nat.ble i 7 then (bif Nat.beq i 7 then (bif Nat.beq p 11 then some [false, true, true] else none) else none) else (bif Nat.beq i 8 then (bif Nat.beq p 27 then some [false, false, true] else none) else none))) else (bif Nat.ble i 11 then (bif Nat.ble i 9 then (bif Nat.beq i 9 then (bif Nat.beq p 2 then some [true, true] else none) else none) else (bif Nat.beq i 11 then (bif Nat.beq p 2 then some [false, true, true] else none) else none)) else (bif Nat.ble i 12 then (bif Nat.beq i 12 then (bif Nat.beq p 2 then some [false, true, true] else none) else none) else (bif Nat.ble i 13 then (bif Nat.beq i 13 then (bif Nat.beq p 2 then some [false, true, true] else none) else none) else (bif Nat.beq i 16 then (bif Nat.beq p 2 then some [false, true] else none) else none))))) else (bif Nat.ble i 31 then (bif Nat.ble i 20 then (bif Nat.ble i 17 then (bif Nat.beq i 17 then (bif Nat.beq p 2 then some [false, true, true] else none) else none) else (bif Nat.beq i 20 then (bif Nat.beq p 14 then some [true, false] else none) else none)) else (bif Nat.ble i 28 then (bif Nat.beq i 28 then (bif Nat.beq p 4 then some [true, true, true, true, false] else none) else none) else (bif Nat.ble i 30 then (bif Nat.beq i 30 then (bif Nat.beq p 5 then some [true, true, true, true, false] else none) else none) else (bif Nat.beq i 31 then (bif Nat.beq p 2 then some [true, true, true, true, false] else none) else none)))) else (bif Nat.ble i 40 then (bif Nat.ble i 32 then (bif Nat.beq i 32 then (bif Nat.beq p 3 then some [true, true, true, true, true, false] else none) else none) else (bif Nat.beq i 40 then (bif Nat.beq p 35 then some [true, true] else none) else none)) else (bif Nat.ble i 45 then (bif Nat.beq i 45 then (bif Nat.beq p 3 then some [true, true, true, true, true] else none) else none) else (bif Nat.ble i 48 then (bif Nat.beq i 48 then (bif Nat.beq p 4 then some [true, true, true, true] else none) else none) else (bif Nat.beq i 49 then (bif Nat.ble p 7 then (bif Nat.beq p 7 then some [true, true, true, true] else none) else (bif Nat.beq p 66 then some [true, true, true, true] else none)) else none)))))) else (bif Nat.ble i 66 then (bif Nat.ble i 58 then (bif Nat.ble i 53 then (bif Nat.ble i 51 then (bif Nat.beq i 51 then (bif Nat.beq p 41 then some [true, true, true, true, false, true, true, true] else none) else none) else (bif Nat.beq i 53 then (bif Nat.beq p 5 then some [true, true, true, true, true] else none) else none)) else (bif Nat.ble i 55 then (bif Nat.beq i 55 then (bif Nat.beq p 37 then some [true, true, true, true, true, true, false] else none) else none) else (bif Nat.beq i 58 then (bif Nat.beq p 23 then some [true, false, true, true] else none) else none))) else (bif Nat.ble i 60 then (bif Nat.ble i 59 then (bif Nat.beq i 59 then (bif Nat.beq p 3 then some [true, true] else none) else none) else (bif Nat.beq i 60 then (bif Nat.beq p 16 then some [true, false, false, true] else none) else none)) else (bif Nat.ble i 63 then (bif Nat.beq i 63 then (bif Nat.beq p 2 then some [false, true, true] else none) else none) else (bif Nat.ble i 64 then (bif Nat.beq i 64 then (bif Nat.beq p 7 then some [true, true, true] else none) else none) else (bif Nat.beq i 66 then (bif Nat.beq p 2 then some [true, true, true] else none) else none))))) else (bif Nat.ble i 86 then (bif Nat.ble i 77 then (bif Nat.ble i 68 then (bif Nat.beq i 68 then (bif Nat.beq p 2 then some [true, true, true] else none) else none) else (bif Nat.beq i 77 then (bif Nat.beq p 15 then some [true, true] else none) else none)) else (bif Nat.ble i 83 then (bif Nat.beq i 83 then (bif Nat.beq p 4 then some [true, true, true, true] else none) else none) else (bif Nat.ble i 84 then (bif Nat.beq i 84 then (bif Nat.beq p 37 then some [false, false, false, true] else none) else none) else (bif Nat.beq i 86 then (bif Nat.beq p 52 then some [false, false, false, true, false, true, true] else none) else none)))) else (bif Nat.ble i 89 then (bif Nat.ble i 88 then (bif Nat.beq i 88 then (bif Nat.beq p 37 then some [true, true, true, true] else none) else none) else (bif Nat.beq i 89 then (bif Nat.beq p 4 then some [true, true, true, true, false] else none) else none)) else (bif Nat.ble i 90 then (bif Nat.beq i 90 then (bif Nat.beq p 2 then some [true, true] else none) else none) else (bif Nat.ble i 91 then (bif Nat.beq i 91 then (bif Nat.beq p 2 then some [false, true, true, false] else none) else none) else (bif Nat.beq i 92 then (bif Nat.beq p 4 then some [true, true, true, true, false] else none) else none))))))) else (bif Nat.ble i 147 then (bif Nat.ble i 131 then (bif Nat.ble i 126 then (bif Nat.ble i 98 then (bif Nat.ble i 95 then (bif Nat.beq i 95 then (bif Nat.beq p 69 then some [true, false, true, true, true, false, false, false] else none) else none) else (bif Nat.beq i 98 then (bif Nat.beq p 54 then some [true, false, false, false, true, false] else none) else none)) else (bif Nat.ble i 111 then (bif Nat.beq i 111 then (bif Nat.beq p 25 then some [true, true, true, true] else none) else none) else (bif Nat.beq i 126 then (bif Nat.beq p 2 then some [true, false, true, true] else none) else none))) else (bif Nat.ble i 128 then (bif Nat.ble i 127 then (bif Nat.beq i 127 then (bif Nat.beq p 2 then some [true, false, true, true] else none) else none) else (bif Nat.beq i 128 then (bif Nat.beq p 2 then some [true, true, true, true] else none) else none)) else (bif Nat.ble i 129 then (bif Nat.beq i 129 then (bif Nat.beq p 9 then some [true, true, true, true] else none) else none) else (bif Nat.ble i 130 then (bif Nat.beq i 130 then (bif Nat.beq p 9 then some [true, false, true, true] else none) else none) else (bif Nat.beq i 131 then (bif Nat.beq p 4 then some [true, true, true] else none) else none))))) else (bif Nat.ble i 136 then (bif Nat.ble i 133 then (bif Nat.ble i 132 then (bif Nat.beq i 132 then (bif Nat.beq p 4 then some [true, true, true, true] else none) else none) else (bif Nat.beq i 133 then (bif Nat.ble p 101 then (bif Nat.ble p 23 then (bif Nat.beq p 23 then some [true, true, true, true, true, false, false, false] else none) else (bif Nat.beq p 101 then some [true, true, true, true, true, false, false, false] else none)) else (bif Nat.ble p 138 then (bif Nat.beq p 138 then some [true, true, true, true, true, true, false, false] else none) else (bif Nat.beq p 242 then some [true, true, false, true, true, true, true, false] else none))) else none)) else (bif Nat.ble i 134 then (bif Nat.beq i 134 then (bif Nat.beq p 16 then some [true, true, true] else none) else none) else (bif Nat.ble i 135 then (bif Nat.beq i 135 then (bif Nat.beq p 55 then some [true, true, false, true, true] else none) else none) else (bif Nat.beq i 136 then (bif Nat.ble p 24 then (bif Nat.beq p 24 then some [true, true, true, true, false] else none) else (bif Nat.ble p 94 then (bif Nat.beq p 94 then some [true, true, true, true, false] else none) else (bif Nat.beq p 149 then some [true, false, true, true, false] else none))) else none)))) else (bif Nat.ble i 143 then (bif Nat.ble i 138 then (bif Nat.beq i 138 then (bif Nat.beq p 27 then some [true, true, true, true, true] else none) else none) else (bif Nat.beq i 143 then (bif Nat.beq p 83 then some [true, true, true, true] else none) else none)) else (bif Nat.ble i 145 then (bif Nat.beq i 145 then (bif Nat.beq p 4 then some [true, true, true, true] else none) else none) else (bif Nat.ble i 146 then (bif Nat.beq i 146 then (bif Nat.ble p 4 then (bif Nat.beq p 4 then some [true, true, true, true] else none) else (bif Nat.beq p 56 then some [true, true, true, true] else none)) else none) else (bif Nat.beq i 147 then (bif Nat.beq p 24 then some [true, true, true, true, false, false] else none) else none)))))) else (bif Nat.ble i 164 then (bif Nat.ble i 153 then (bif Nat.ble i 150 then (bif Nat.ble i 148 then (bif Nat.beq i 148 then (bif Nat.beq p 140 then some [true, true, true, true, false, false] else none) else none) else (bif Nat.beq i 150 then (bif Nat.beq p 2 then some [true, false, true, true] else none) else none)) else (bif Nat.ble i 151 then (bif Nat.beq i 151 then (bif Nat.ble p 15 then (bif Nat.beq p 15 then some [true, true, false, true, false, false] else none) else (bif Nat.beq p 25 then some [true, true, false, true, true, true] else none)) else none) else (bif Nat.ble i 152 then (bif Nat.beq i 152 then (bif Nat.beq p 4 then some [true, true, true, true] else none) else none) else (bif Nat.beq i 153 then (bif Nat.ble p 15 then (bif Nat.beq p 15 then some [true, true, true, true, true, false, false] else none) else (bif Nat.beq p 28 then some [true, true, true, true, true, false, false] else none)) else none)))) else (bif Nat.ble i 160 then (bif Nat.ble i 157 then (bif Nat.beq i 157 then (bif Nat.beq p 40 then some [true, true, true, true, true] else none) else none) else (bif Nat.beq i 160 then (bif Nat.ble p 7 then (bif Nat.beq p 7 then some [true, true, false] else none) else (bif Nat.ble p 20 then (bif Nat.beq p 20 then some [true, true, true] else none) else (bif Nat.beq p 80 then some [true, true, true] else none))) else none)) else (bif Nat.ble i 161 then (bif Nat.beq i 161 then (bif Nat.ble p 65 then (bif Nat.ble p 12 then (bif Nat.beq p 12 then some [true, true, true, true, true, false, true] else none) else (bif Nat.beq p 65 then some [true, true, true, true, true, false, true] else none)) else (bif Nat.ble p 103 then (bif Nat.beq p 103 then some [true, true, true, true, true, false, true] else none) else (bif Nat.beq p 133 then some [true, true, true, true, true, false, true] else none))) else none) else (bif Nat.ble i 163 then (bif Nat.beq i 163 then (bif Nat.ble p 38 then (bif Nat.ble p 25 then (bif Nat.beq p 25 then some [true, true, true, true, false, false, false] else none) else (bif Nat.beq p 38 then some [true, true, true, false, true, true, true] else none)) else (bif Nat.ble p 115 then (bif Nat.beq p 115 then some [true, true, true, false, true, true, true] else none) else (bif Nat.ble p 260 then (bif Nat.beq p 260 then some [true, true, false, false, true, false, false] else none) else (bif Nat.beq p 328 then some [true, true, false, false, true, false, false] else none)))) else none) else (bif Nat.beq i 164 then (bif Nat.beq p 34 then some [true, true, true, true] else none) else none))))) else (bif Nat.ble i 172 then (bif Nat.ble i 169 then (bif Nat.ble i 168 then (bif Nat.beq i 168 then (bif Nat.beq p 3 then some [true, true, true, true, true, true, true] else none) else none) else (bif Nat.beq i 169 then (bif Nat.ble p 18 then (bif Nat.beq p 18 then some [true, true, true, true, true] else none) else (bif Nat.ble p 42 then (bif Nat.beq p 42 then some [true, true, true, true, true] else none) else (bif Nat.beq p 121 then some [true, false, true, false, true] else none))) else none)) else (bif Nat.ble i 170 then (bif Nat.beq i 170 then (bif Nat.beq p 2 then some [true, true, true, true] else none) else none) else (bif Nat.ble i 171 then (bif Nat.beq i 171 then (bif Nat.beq p 13 then some [true, true] else none) else none) else (bif Nat.beq i 172 then (bif Nat.ble p 42 then (bif Nat.beq p 42 then some [true, false, true, true] else none) else (bif Nat.beq p 59 then some [true, false, true, true] else none)) else none)))) else (bif Nat.ble i 175 then (bif Nat.ble i 173 then (bif Nat.beq i 173 then (bif Nat.ble p 68 then (bif Nat.beq p 68 then some [true, false, false, true, true, true, true, true, true, true, false, false, false] else none) else (bif Nat.ble p 155 then (bif Nat.beq p 155 then some [true, false, false, true, false, true, true, true, false, true, true, false, false] else none) else (bif Nat.beq p 228 then some [true, false, false, true, false, false, true, false, false, true, true, true, false] else none))) else none) else (bif Nat.beq i 175 then (bif Nat.beq p 2 then some [true, true, true] else none) else none)) else (bif Nat.ble i 176 then (bif Nat.beq i 176 then (bif Nat.beq p 82 then some [true, false, false, true, true, true, true, true, false] else none) else none) else (bif Nat.ble i 178 then (bif Nat.beq i 178 then (bif Nat.beq p 60 then some [true, true, true, true] else none) else none) else (bif Nat.beq i 194 then (bif Nat.beq p 23 then some [true, true, true, true, true, false, false] else none) else none)))))))
def T_0_0 : List (Nat × Instr × Nat) := [(0, .aload_n 0, 1), (1, .invokespecial 3, 3), (4, .aload_n 0, 1), (5, .aload_n 1, 1), (6, .putfield 9, 3), (9, .aload_n 0, 1), (10, .aload_n 2, 1), (11, .putfield 15, 3), (14, .return_, 1)]
def T_1_0 : List (Nat × Instr × Nat) := [(0, .aload_n 0, 1), (1, .aconst_null, 1), (2, .invokevirtual 19, 3), (5, .aload_n 0, 1), (6, .invokevirtual 23, 3), (9, .astore_n 1, 1), (10, .aload_n 1, 1), (11, .ifnull 8, 3), (14, .aload_n 0, 1), (15, .aload_n 1, 1), (16, .invokevirtual 27, 3), (19, .aload_n 0, 1), (20, .dup, 1), (21, .getfield 30, 3), (24, .iconst 1, 1), (25, .iadd, 1), (26, .putfield 30, 3), (29, .aload_n 0, 1), (30, .getfield 30, 3), (33, .bipush 20, 2), (35, .irem, 1), (36, .ifCond .ne 7, 3), (39, .aload_n 0, 1), (40, .invokevirtual 34, 3), (43, .aload_n 1, 1), (44, .areturn, 1)]
def T_2_0 : List (Nat × Instr × Nat) := [(0, .aload_n 0, 1), (1, .aload_n 1, 1), (2, .invokevirtual 19, 3), (5, .aload_n 1, 1), (6, .getfield 37, 3), (9, .invokevirtual 43, 3), (12, .lstore_n 3, 1), (13, .iload_n 2, 1), (14, .ifCond .eq 15, 3), (17, .aload_n 1, 1), (18, .lload_n 3, 1), (19, .lconst 0, 1), (20, .invokestatic 49, 3), (23, .putfield 55, 3), (26, .goto 15, 3), (29, .aload_n 1, 1), (30, .lload_n 3, 1), (31, .aload_n 1, 1), (32, .getfield 55, 3), (35, .invokestatic 49, 3), (38, .putfield 55, 3), (41, .return_, 1)]
def T_3_0 : List (Nat × Instr × Nat) := [(0, .aload_n 0, 1), (1, .aconst_null, 1), (2, .invokevirtual 19, 3), (5, .aload_n 1, 1), (6, .getfield 59, 3), (9, .ifnull 21, 3), (12, .aload_n 1, 1), (13, .aload_n 1, 1), (14, .getfield 59, 3), (17, .invokevirtual 43, 3), (20, .aload_n 1, 1), (21, .getfield 62, 3), (24, .invokestatic 49, 3), (27, .putfield 62, 3), (30, .return_, 1)]
def T_4_0 : List (Nat × Instr × Nat) := [(0, .iconst 0, 1), (1, .istore_n 2, 1), (2, .iload_n 2, 1), (3, .aload_n 0, 1), (4, .getfield 15, 3), (7, .getfield 63, 3), (10, .if_icmp .ge 35, 3), (13, .aload_n 0, 1), (14, .getfield 15, 3), (17, .getfield 68, 3), (20, .iload_n 2, 1), (21, .aaload, 1), (22, .aconst_null, 1), (23, .putfield 72, 3), (26, .aload_n 0, 1), (27, .getfield 15, 3), (30, .getfield 68, 3), (33, .iload_n 2, 1), (34, .aaload, 1), (35, .aconst_null, 1), (36, .putfield 76, 3), (39, .iinc 2 1, 3), (42, .goto (-40), 3), (45, .iconst 0, 1), (46, .istore_n 2, 1), (47, .iload_n 2, 1), (48, .aload_n 0, 1), (49, .getfield 9, 3), (52, .getfield 79, 3), (55, .if_icmp .ge 36, 3)]
def T_4_1 : List (Nat × Instr × Nat) := [(58, .aload_n 0, 1), (59, .getfield 9, 3), (62, .getfield 82, 3), (65, .iload_n 2, 1), (66, .aaload, 1), (67, .astore_n 3, 1), (68, .aload_n 3, 1), (69, .aload_n 1, 1), (70, .if_acmp .eq 15, 3), (73, .aload_n 3, 1), (74, .invokevirtual 85, 3), (77, .ifCond .eq 8, 3), (80, .aload_n 0, 1), (81, .aload_n 3, 1), (82, .invokevirtual 89, 3), (85, .iinc 2 1, 3), (88, .goto (-41), 3), (91, .aload_n 0, 1), (92, .getfield 15, 3), (95, .getfield 63, 3), (98, .iconst 1, 1), (99, .isub, 1), (100, .istore_n 2, 1), (101, .iload_n 2, 1), (102, .ifCond .le 37, 3), (105, .aload_n 0, 1), (106, .getfield 15, 3), (109, .getfield 68, 3), (112, .iload_n 2, 1), (113, .aaload, 1)]
def T_4_2 : List (Nat × Instr × Nat) := [(114, .invokevirtual 92, 3), (117, .ifCond .eq 16, 3), (120, .aload_n 0, 1), (121, .aload_n 0, 1), (122, .getfield 15, 3), (125, .getfield 68, 3), (128, .iload_n 2, 1), (129, .aaload, 1), (130, .invokevirtual 93, 3), (133, .iinc 2 (-1), 3), (136, .goto (-35), 3), (139, .return_, 1)]
def T_5_0 : List (Nat × Instr × Nat) := [(0, .aload_n 1, 1), (1, .getfield 37, 3), (4, .getfield 72, 3), (7, .astore_n 2, 1), (8, .aload_n 2, 1), (9, .ifnull 15, 3), (12, .aload_n 1, 1), (13, .getfield 55, 3), (16, .aload_n 2, 1), (17, .getfield 55, 3), (20, .lcmp, 1), (21, .ifCond .ge 11, 3), (24, .aload_n 1, 1), (25, .getfield 37, 3), (28, .aload_n 1, 1), (29, .putfield 72, 3), (32, .return_, 1)]
def T_6_0 : List (Nat × Instr × Nat) := [(0, .aload_n 1, 1), (1, .getfield 59, 3), (4, .ifnonnull 4, 3), (7, .return_, 1), (8, .aload_n 1, 1), (9, .getfield 59, 3), (12, .getfield 76, 3), (15, .astore_n 2, 1), (16, .aload_n 2, 1), (17, .ifnull 15, 3), (20, .aload_n 1, 1), (21, .getfield 62, 3), (24, .aload_n 2, 1), (25, .getfield 62, 3), (28, .lcmp, 1), (29, .ifCond .gt 11, 3), (32, .aload_n 1, 1), (33, .getfield 59, 3), (36, .aload_n 1, 1), (37, .putfield 76, 3), (40, .return_, 1)]
def T_7_0 : List (Nat × Instr × Nat) := [(0, .aconst_null, 1), (1, .astore_n 1, 1), (2, .aload_n 0, 1), (3, .getfield 15, 3), (6, .iconst 0, 1), (7, .invokevirtual 97, 3), (10, .astore_n 2, 1), (11, .aload_n 2, 1), (12, .ifnull 27, 3), (15, .aload_n 2, 1), (16, .getfield 72, 3), (19, .astore_n 1, 1), (20, .aload_n 2, 1), (21, .invokevirtual 101, 3), (24, .ifCond .eq 10, 3), (27, .aload_n 2, 1), (28, .getfield 76, 3), (31, .goto 4, 3), (34, .aconst_null, 1), (35, .astore_n 2, 1), (36, .goto (-25), 3), (39, .aload_n 1, 1), (40, .areturn, 1)]
def T_8_0 : List (Nat × Instr × Nat) := [(0, .aload_n 1, 1), (1, .dup, 1), (2, .getfield 104, 3), (5, .iconst 1, 1), (6, .iadd, 1), (7, .putfield 104, 3), (10, .aload_n 1, 1), (11, .dup, 1), (12, .getfield 55, 3), (15, .ldc2_w 107, 3), (18, .ladd, 1), (19, .putfield 55, 3), (22, .aload_n 1, 1), (23, .getfield 37, 3), (26, .astore_n 2, 1), (27, .aload_n 2, 1), (28, .ifnull 52, 3), (31, .aload_n 2, 1), (32, .dup, 1), (33, .getfield 109, 3), (36, .iconst 1, 1), (37, .iadd, 1), (38, .putfield 109, 3), (41, .aload_n 2, 1), (42, .getfield 59, 3), (45, .ifnull 27, 3), (48, .aload_n 2, 1), (49, .getfield 112, 3), (52, .ifCond .le 20, 3), (55, .aload_n 2, 1)]
def T_8_1 : List (Nat × Instr × Nat) := [(56, .dup, 1), (57, .getfield 62, 3), (60, .ldc 115, 2), (62, .aload_n 2, 1), (63, .getfield 112, 3), (66, .idiv, 1), (67, .i2l, 1), (68, .ladd, 1), (69, .putfield 62, 3), (72, .aload_n 2, 1), (73, .getfield 59, 3), (76, .astore_n 2, 1), (77, .goto (-50), 3), (80, .return_, 1)]
def T_9_0 : List (Nat × Instr × Nat) := [(0, .iconst 0, 1), (1, .istore_n 1, 1), (2, .iload_n 1, 1), (3, .aload_n 0, 1), (4, .getfield 15, 3), (7, .getfield 63, 3), (10, .if_icmp .ge 22, 3), (13, .aload_n 0, 1), (14, .getfield 15, 3), (17, .getfield 68, 3), (20, .iload_n 1, 1), (21, .aaload, 1), (22, .iconst 0, 1), (23, .putfield 109, 3), (26, .iinc 1 1, 3), (29, .goto (-27), 3), (32, .return_, 1)]
def T_10_0 : List (Nat × Instr × Nat) := [(0, .aload_n 0, 1), (1, .invokespecial 3, 3), (4, .aload_n 0, 1), (5, .ldc 9, 2), (7, .putfield 10, 3), (10, .aload_n 0, 1), (11, .sipush 150, 3), (14, .putfield 16, 3), (17, .aload_n 0, 1), (18, .bipush 100, 2), (20, .putfield 19, 3), (23, .aload_n 0, 1), (24, .iload_n 1, 1), (25, .putfield 22, 3), (28, .aload_n 0, 1), (29, .aload_n 2, 1), (30, .putfield 25, 3), (33, .aload_n 0, 1), (34, .aload_n 2, 1), (35, .ifnonnull 7, 3), (38, .iconst 0, 1), (39, .goto 9, 3), (42, .aload_n 2, 1), (43, .getfield 29, 3), (46, .iconst 1, 1), (47, .iadd, 1), (48, .putfield 29, 3), (51, .return_, 1)]
def T_11_0 : List (Nat × Instr × Nat) := [(0, .aload_n 0, 1), (1, .astore_n 2, 1), (2, .aload_n 2, 1), (3, .ifnull 18, 3), (6, .aload_n 2, 1), (7, .aload_n 1, 1), (8, .if_acmp .ne 5, 3), (11, .iconst 1, 1), (12, .ireturn, 1), (13, .aload_n 2, 1), (14, .getfield 25, 3), (17, .astore_n 2, 1), (18, .goto (-16), 3), (21, .iconst 0, 1), (22, .ireturn, 1)]
def T_12_0 : List (Nat × Instr × Nat) := [(0, .aload_n 0, 1), (1, .astore_n 2, 1), (2, .aload_n 2, 1), (3, .ifnull 21, 3), (6, .aload_n 2, 1), (7, .dup, 1), (8, .getfield 32, 3), (11, .iload_n 1, 1), (12, .iadd, 1), (13, .putfield 32, 3), (16, .aload_n 2, 1), (17, .getfield 25, 3), (20, .astore_n 2, 1), (21, .goto (-19), 3), (24, .return_, 1)]
def T_13_0 : List (Nat × Instr × Nat) := [(0, .aload_n 0, 1), (1, .astore_n 2, 1), (2, .aload_n 2, 1), (3, .ifnull 21, 3), (6, .aload_n 2, 1), (7, .dup, 1), (8, .getfield 35, 3), (11, .iload_n 1, 1), (12, .iadd, 1), (13, .putfield 35, 3), (16, .aload_n 2, 1), (17, .getfield 25, 3), (20, .astore_n 2, 1), (21, .goto (-19), 3), (24, .return_, 1)]
def T_14_0 : List (Nat × Instr × Nat) := [(0, .aload_n 0, 1), (1, .dup, 1), (2, .getfield 38, 3), (5, .iload_n 1, 1), (6, .iadd, 1), (7, .putfield 38, 3), (10, .aload_n 0, 1), (11, .iload_n 1, 1), (12, .invokevirtual 41, 3), (15, .return_, 1)]
def T_15_0 : List (Nat × Instr × Nat) := [(0, .aload_n 0, 1), (1, .getfield 32, 3), (4, .iload_n 1, 1), (5, .iadd, 1), (6, .aload_n 0, 1), (7, .getfield 10, 3), (10, .isub, 1), (11, .ireturn, 1)]
def T_16_0 : List (Nat × Instr × Nat) := [(0, .aload_n 0, 1), (1, .astore_n 1, 1), (2, .aload_n 1, 1), (3, .ifnull 24, 3), (6, .aload_n 1, 1), (7, .getfield 35, 3), (10, .aload_n 1, 1), (11, .getfield 16, 3), (14, .if_icmp .lt 5, 3), (17, .iconst 0, 1), (18, .ireturn, 1), (19, .aload_n 1, 1), (20, .getfield 25, 3), (23, .astore_n 1, 1), (24, .goto (-22), 3), (27, .iconst 1, 1), (28, .ireturn, 1)]
def T_17_0 : List (Nat × Instr × Nat) := [(0, .aload_n 0, 1), (1, .astore_n 2, 1), (2, .aload_n 2, 1), (3, .ifnull 46, 3), (6, .aload_n 1, 1), (7, .getfield 45, 3), (10, .aload_n 2, 1), (11, .invokevirtual 50, 3), (14, .ifCond .ne 27, 3), (17, .aload_n 2, 1), (18, .getfield 35, 3), (21, .aload_n 2, 1), (22, .getfield 16, 3), (25, .if_icmp .ge 14, 3), (28, .aload_n 2, 1), (29, .aload_n 1, 1), (30, .getfield 54, 3), (33, .invokevirtual 57, 3), (36, .ifCond .le 5, 3), (39, .iconst 0, 1), (40, .ireturn, 1), (41, .aload_n 2, 1), (42, .getfield 25, 3), (45, .astore_n 2, 1), (46, .goto (-44), 3), (49, .iconst 1, 1), (50, .ireturn, 1)]
def T_18_0 : List (Nat × Instr × Nat) := [(0, .iload_n 1, 1), (1, .ifCond .ne 11, 3), (4, .aload_n 0, 1), (5, .getfield 32, 3), (8, .iload_n 2, 1), (9, .if_icmp .gt 16, 3), (12, .iload_n 1, 1), (13, .iconst 1, 1), (14, .if_icmp .ne 15, 3), (17, .aload_n 0, 1), (18, .getfield 35, 3), (21, .iload_n 2, 1), (22, .if_icmp .le 7, 3), (25, .iconst 1, 1), (26, .goto 4, 3), (29, .iconst 0, 1), (30, .ireturn, 1)]
def T_19_0 : List (Nat × Instr × Nat) := [(0, .aload_n 0, 1), (1, .iload_n 1, 1), (2, .iconst 3, 1), (3, .iadd, 1), (4, .invokevirtual 61, 3), (7, .istore_n 3, 1), (8, .iload_n 1, 1), (9, .tableswitch 51 0 2 #[27, 35, 43], 27), (36, .aload_n 0, 1), (37, .iload_n 2, 1), (38, .putfield 10, 3), (41, .goto 24, 3), (44, .aload_n 0, 1), (45, .iload_n 2, 1), (46, .putfield 16, 3), (49, .goto 16, 3), (52, .aload_n 0, 1), (53, .iload_n 2, 1), (54, .putfield 19, 3), (57, .goto 8, 3), (60, .aload_n 0, 1), (61, .iload_n 2, 1), (62, .putfield 64, 3), (65, .iload_n 3, 1), (66, .ireturn, 1)]
def T_20_0 : List (Nat × Instr × Nat) := [(0, .aload_n 0, 1), (1, .getfield 67, 3), (4, .ifnonnull 10, 3), (7, .aload_n 0, 1), (8, .getfield 71, 3), (11, .ifnull 7, 3), (14, .iconst 1, 1), (15, .goto 4, 3), (18, .iconst 0, 1), (19, .istore_n 1, 1), (20, .iload_n 1, 1), (21, .ifCond .eq 25, 3), (24, .aload_n 0, 1), (25, .getfield 64, 3), (28, .ifCond .eq 14, 3), (31, .aload_n 0, 1), (32, .getfield 74, 3), (35, .aload_n 0, 1), (36, .getfield 64, 3), (39, .if_icmp .ge 7, 3), (42, .iconst 1, 1), (43, .goto 4, 3), (46, .iconst 0, 1), (47, .ireturn, 1)]
def T_21_0 : List (Nat × Instr × Nat) := [(0, .aload_n 0, 1), (1, .getfield 71, 3), (4, .ifnull 32, 3), (7, .aload_n 0, 1), (8, .getfield 67, 3), (11, .ifnull 21, 3), (14, .aload_n 0, 1), (15, .getfield 71, 3), (18, .getfield 77, 3), (21, .aload_n 0, 1), (22, .getfield 67, 3), (25, .getfield 81, 3), (28, .lcmp, 1), (29, .ifCond .ge 7, 3), (32, .iconst 1, 1), (33, .goto 4, 3), (36, .iconst 0, 1), (37, .ireturn, 1)]
def T_22_0 : List (Nat × Instr × Nat) := [(0, .aload_n 0, 1), (1, .invokevirtual 82, 3), (4, .ifCond .eq 11, 3), (7, .aload_n 0, 1), (8, .getfield 71, 3), (11, .getfield 77, 3), (14, .lreturn, 1), (15, .aload_n 0, 1), (16, .getfield 67, 3), (19, .ifnonnull 9, 3), (22, .ldc2_w 86, 3), (25, .goto 10, 3), (28, .aload_n 0, 1), (29, .getfield 67, 3), (32, .getfield 81, 3), (35, .lreturn, 1)]
def T_23_0 : List (Nat × Instr × Nat) := [(0, .iload_n 1, 1), (1, .tableswitch 87 0 7 #[47, 52, 57, 62, 67, 72, 77, 82], 47), (48, .aload_n 0, 1), (49, .getfield 32, 3), (52, .ireturn, 1), (53, .aload_n 0, 1), (54, .getfield 35, 3), (57, .ireturn, 1), (58, .aload_n 0, 1), (59, .getfield 38, 3), (62, .ireturn, 1), (63, .aload_n 0, 1), (64, .getfield 10, 3), (67, .ireturn, 1), (68, .aload_n 0, 1), (69, .getfield 16, 3), (72, .ireturn, 1), (73, .aload_n 0, 1), (74, .getfield 19, 3), (77, .ireturn, 1), (78, .aload_n 0, 1), (79, .getfield 64, 3), (82, .ireturn, 1), (83, .aload_n 0, 1), (84, .getfield 74, 3), (87, .ireturn, 1), (88, .aload_n 0, 1), (89, .getfield 25, 3), (92, .ifnonnull 7, 3), (95, .iconst (-1), 1)]
def T_23_1 : List (Nat × Instr × Nat) := [(96, .goto 10, 3), (99, .aload_n 0, 1), (100, .getfield 25, 3), (103, .getfield 22, 3), (106, .ireturn, 1)]
def T_24_0 : List (Nat × Instr × Nat) := [(0, .aload_n 0, 1), (1, .invokespecial 3, 3), (4, .aload_n 0, 1), (5, .bipush 20, 2), (7, .anewarray 9, 3), (10, .putfield 11, 3), (13, .return_, 1)]
def T_25_0 : List (Nat × Instr × Nat) := [(0, .iload_n 1, 1), (1, .ifCond .lt 17, 3), (4, .iload_n 1, 1), (5, .aload_n 0, 1), (6, .getfield 17, 3), (9, .if_icmp .ge 9, 3), (12, .iload_n 1, 1), (13, .bipush 20, 2), (15, .if_icmp .lt 7, 3), (18, .aconst_null, 1), (19, .goto 9, 3), (22, .aload_n 0, 1), (23, .getfield 11, 3), (26, .iload_n 1, 1), (27, .aaload, 1), (28, .areturn, 1)]
def T_26_0 : List (Nat × Instr × Nat) := [(0, .aload_n 0, 1), (1, .getfield 17, 3), (4, .bipush 20, 2), (6, .if_icmp .ge 15, 3), (9, .aload_n 1, 1), (10, .getfield 21, 3), (13, .iconst 5, 1), (14, .if_icmp .ge 7, 3), (17, .iconst 1, 1), (18, .goto 4, 3), (21, .iconst 0, 1), (22, .ireturn, 1)]
def T_27_0 : List (Nat × Instr × Nat) := [(0, .new 9, 3), (3, .dup, 1), (4, .aload_n 0, 1), (5, .getfield 17, 3), (8, .aload_n 1, 1), (9, .invokespecial 24, 3), (12, .astore_n 2, 1), (13, .aload_n 0, 1), (14, .getfield 17, 3), (17, .bipush 20, 2), (19, .if_icmp .ge 23, 3), (22, .aload_n 0, 1), (23, .getfield 11, 3), (26, .aload_n 0, 1), (27, .getfield 17, 3), (30, .aload_n 2, 1), (31, .aastore, 1), (32, .aload_n 0, 1), (33, .dup, 1), (34, .getfield 17, 3), (37, .iconst 1, 1), (38, .iadd, 1), (39, .putfield 17, 3), (42, .aload_n 2, 1), (43, .areturn, 1)]
def T_28_0 : List (Nat × Instr × Nat) := [(0, .aconst_null, 1), (1, .astore_n 2, 1), (2, .iconst 0, 1), (3, .istore_n 3, 1), (4, .iload_n 3, 1), (5, .aload_n 0, 1), (6, .getfield 17, 3), (9, .if_icmp .ge 49, 3), (12, .aload_n 0, 1), (13, .getfield 11, 3), (16, .iload_n 3, 1), (17, .aaload, 1), (18, .astore 4, 2), (20, .aload 4, 2), (22, .getfield 27, 3), (25, .aload_n 2, 1), (26, .ifnonnull 7, 3), (29, .iconst 0, 1), (30, .goto 7, 3), (33, .aload_n 2, 1), (34, .getfield 27, 3), (37, .if_icmp .le 15, 3), (40, .aload 4, 2), (42, .aload_n 1, 1), (43, .invokevirtual 30, 3), (46, .ifCond .eq 6, 3), (49, .aload 4, 2), (51, .astore_n 2, 1), (52, .iinc 3 1, 3), (55, .goto (-51), 3)]
def T_28_1 : List (Nat × Instr × Nat) := [(58, .aload_n 2, 1), (59, .areturn, 1)]
def T_29_0 : List (Nat × Instr × Nat) := [(0, .aload_n 0, 1), (1, .invokespecial 3, 3), (4, .aload_n 0, 1), (5, .aload_n 1, 1), (6, .putfield 9, 3), (9, .aload_n 0, 1), (10, .aload_n 2, 1), (11, .putfield 15, 3), (14, .return_, 1)]
def T_30_0 : List (Nat × Instr × Nat) := [(0, .aload_n 1, 1), (1, .getfield 19, 3), (4, .astore_n 3, 1), (5, .aload_n 3, 1), (6, .ifnull 34, 3), (9, .aload_n 0, 1), (10, .aload_n 3, 1), (11, .iload_n 2, 1), (12, .invokevirtual 25, 3), (15, .aload_n 0, 1), (16, .aload_n 3, 1), (17, .aload_n 1, 1), (18, .iload_n 2, 1), (19, .invokevirtual 29, 3), (22, .istore 4, 2), (24, .iload 4, 2), (26, .ifCond .ge 6, 3), (29, .iload 4, 2), (31, .ireturn, 1), (32, .aload_n 3, 1), (33, .getfield 33, 3), (36, .astore_n 3, 1), (37, .goto (-32), 3), (40, .iconst 0, 1), (41, .ireturn, 1)]
def T_31_0 : List (Nat × Instr × Nat) := [(0, .iconst 0, 1), (1, .istore_n 3, 1), (2, .iload_n 3, 1), (3, .bipush 20, 2), (5, .if_icmp .ge 52, 3), (8, .aload_n 1, 1), (9, .iload_n 2, 1), (10, .invokevirtual 38, 3), (13, .ifCond .le 44, 3), (16, .aload_n 0, 1), (17, .getfield 15, 3), (20, .aload_n 1, 1), (21, .invokevirtual 42, 3), (24, .astore 4, 2), (26, .aload 4, 2), (28, .ifnonnull 4, 3), (31, .return_, 1), (32, .aload 4, 2), (34, .aload 4, 2), (36, .getfield 48, 3), (39, .aload_n 1, 1), (40, .iload_n 2, 1), (41, .invokevirtual 38, 3), (44, .invokestatic 52, 3), (47, .ineg, 1), (48, .invokevirtual 58, 3), (51, .iinc 3 1, 3), (54, .goto (-52), 3), (57, .return_, 1)]
def T_32_0 : List (Nat × Instr × Nat) := [(0, .iconst 0, 1), (1, .istore 4, 2), (3, .iload 4, 2), (5, .sipush 150, 3), (8, .if_icmp .ge 65, 3), (11, .aload_n 1, 1), (12, .iload_n 3, 1), (13, .invokevirtual 38, 3), (16, .ifCond .le 57, 3), (19, .aload_n 0, 1), (20, .getfield 9, 3), (23, .aload_n 1, 1), (24, .invokevirtual 62, 3), (27, .astore 5, 2), (29, .aload 5, 2), (31, .ifnonnull 6, 3), (34, .bipush (-3), 2), (36, .ireturn, 1), (37, .aload_n 0, 1), (38, .dup, 1), (39, .getfield 68, 3), (42, .iconst 1, 1), (43, .iadd, 1), (44, .putfield 68, 3), (47, .aload_n 0, 1), (48, .getfield 9, 3), (51, .aload 5, 2), (53, .invokevirtual 71, 3), (56, .pop, 1), (57, .aload_n 2, 1)]
def T_32_1 : List (Nat × Instr × Nat) := [(58, .getfield 75, 3), (61, .ifCond .eq 6, 3), (64, .bipush (-5), 2), (66, .ireturn, 1), (67, .iinc 4 1, 3), (70, .goto (-67), 3), (73, .iconst 0, 1), (74, .ireturn, 1)]
def T_33_0 : List (Nat × Instr × Nat) := [(0, .aload_n 0, 1), (1, .invokespecial 3, 3), (4, .aload_n 0, 1), (5, .bipush 15, 2), (7, .anewarray 9, 3), (10, .putfield 11, 3), (13, .aload_n 0, 1), (14, .iload_n 1, 1), (15, .putfield 15, 3), (18, .return_, 1)]
def T_34_0 : List (Nat × Instr × Nat) := [(0, .aload_n 0, 1), (1, .aload_n 1, 1), (2, .putfield 19, 3), (5, .aload_n 0, 1), (6, .iload_n 2, 1), (7, .putfield 23, 3), (10, .aload_n 0, 1), (11, .iload_n 3, 1), (12, .putfield 26, 3), (15, .return_, 1)]
def T_35_0 : List (Nat × Instr × Nat) := [(0, .iload_n 1, 1), (1, .ifCond .lt 9, 3), (4, .iload_n 1, 1), (5, .bipush 15, 2), (7, .if_icmp .lt 7, 3), (10, .aconst_null, 1), (11, .goto 9, 3), (14, .aload_n 0, 1), (15, .getfield 11, 3), (18, .iload_n 1, 1), (19, .aaload, 1), (20, .areturn, 1)]
def T_36_0 : List (Nat × Instr × Nat) := [(0, .iload_n 1, 1), (1, .ifCond .lt 34, 3), (4, .iload_n 1, 1), (5, .bipush 15, 2), (7, .if_icmp .ge 28, 3), (10, .aload_n 0, 1), (11, .getfield 11, 3), (14, .iload_n 1, 1), (15, .aload_n 2, 1), (16, .aastore, 1), (17, .aload_n 0, 1), (18, .dup, 1), (19, .getfield 29, 3), (22, .aload_n 2, 1), (23, .ifnonnull 7, 3), (26, .iconst (-1), 1), (27, .goto 4, 3), (30, .iconst 1, 1), (31, .iadd, 1), (32, .putfield 29, 3), (35, .return_, 1)]
def T_37_0 : List (Nat × Instr × Nat) := [(0, .aload_n 0, 1), (1, .aload_n 1, 1), (2, .putfield 32, 3), (5, .aload_n 0, 1), (6, .iload_n 2, 1), (7, .putfield 36, 3), (10, .aload_n 1, 1), (11, .iload_n 2, 1), (12, .aload_n 0, 1), (13, .invokevirtual 39, 3), (16, .return_, 1)]
def T_38_0 : List (Nat × Instr × Nat) := [(0, .aload_n 0, 1), (1, .getfield 32, 3), (4, .ifnull 15, 3), (7, .aload_n 0, 1), (8, .getfield 32, 3), (11, .aload_n 0, 1), (12, .getfield 36, 3), (15, .aconst_null, 1), (16, .invokevirtual 39, 3), (19, .aload_n 0, 1), (20, .aconst_null, 1), (21, .putfield 32, 3), (24, .aload_n 0, 1), (25, .iconst 0, 1), (26, .putfield 36, 3), (29, .aload_n 0, 1), (30, .aconst_null, 1), (31, .putfield 19, 3), (34, .return_, 1)]
def T_39_0 : List (Nat × Instr × Nat) := [(0, .iload_n 1, 1), (1, .tableswitch 79 0 3 #[31, 50, 69, 74], 31), (32, .aload_n 0, 1), (33, .getfield 19, 3), (36, .ifnonnull 7, 3), (39, .iconst (-1), 1), (40, .goto 10, 3), (43, .aload_n 0, 1), (44, .getfield 19, 3), (47, .getfield 43, 3), (50, .ireturn, 1), (51, .aload_n 0, 1), (52, .getfield 32, 3), (55, .ifnonnull 7, 3), (58, .iconst (-1), 1), (59, .goto 10, 3), (62, .aload_n 0, 1), (63, .getfield 32, 3), (66, .getfield 15, 3), (69, .ireturn, 1), (70, .aload_n 0, 1), (71, .getfield 36, 3), (74, .ireturn, 1), (75, .aload_n 0, 1), (76, .getfield 23, 3), (79, .ireturn, 1), (80, .aload_n 0, 1), (81, .getfield 26, 3), (84, .ireturn, 1)]
def T_40_0 : List (Nat × Instr × Nat) := [(0, .aload_n 0, 1), (1, .invokespecial 3, 3), (4, .aload_n 0, 1), (5, .bipush 80, 2), (7, .anewarray 9, 3), (10, .putfield 11, 3), (13, .aload_n 0, 1), (14, .bipush 10, 2), (16, .anewarray 17, 3), (19, .putfield 19, 3), (22, .aload_n 0, 1), (23, .new 23, 3), (26, .dup, 1), (27, .invokespecial 25, 3), (30, .putfield 26, 3), (33, .iconst 0, 1), (34, .istore_n 1, 1), (35, .iload_n 1, 1), (36, .bipush 80, 2), (38, .if_icmp .ge 23, 3), (41, .aload_n 0, 1), (42, .getfield 11, 3), (45, .iload_n 1, 1), (46, .new 9, 3), (49, .dup, 1), (50, .iload_n 1, 1), (51, .invokespecial 30, 3), (54, .aastore, 1), (55, .iinc 1 1, 3), (58, .goto (-23), 3)]
def T_40_1 : List (Nat × Instr × Nat) := [(61, .return_, 1)]
def T_41_0 : List (Nat × Instr × Nat) := [(0, .iload_n 1, 1), (1, .ifCond .lt 17, 3), (4, .iload_n 1, 1), (5, .aload_n 0, 1), (6, .getfield 33, 3), (9, .if_icmp .ge 9, 3), (12, .iload_n 1, 1), (13, .bipush 10, 2), (15, .if_icmp .lt 7, 3), (18, .aconst_null, 1), (19, .goto 9, 3), (22, .aload_n 0, 1), (23, .getfield 19, 3), (26, .iload_n 1, 1), (27, .aaload, 1), (28, .areturn, 1)]
def T_42_0 : List (Nat × Instr × Nat) := [(0, .iload_n 1, 1), (1, .ifCond .lt 21, 3), (4, .iload_n 1, 1), (5, .bipush 80, 2), (7, .if_icmp .ge 15, 3), (10, .aload_n 0, 1), (11, .getfield 11, 3), (14, .iload_n 1, 1), (15, .aaload, 1), (16, .getfield 37, 3), (19, .ifnonnull 7, 3), (22, .aconst_null, 1), (23, .goto 9, 3), (26, .aload_n 0, 1), (27, .getfield 11, 3), (30, .iload_n 1, 1), (31, .aaload, 1), (32, .areturn, 1)]
def T_43_0 : List (Nat × Instr × Nat) := [(0, .aload_n 0, 1), (1, .invokevirtual 41, 3), (4, .astore_n 1, 1), (5, .aload_n 1, 1), (6, .aload_n 0, 1), (7, .aload_n 1, 1), (8, .iconst 0, 1), (9, .iconst 0, 1), (10, .invokevirtual 45, 3), (13, .putfield 49, 3), (16, .aload_n 1, 1), (17, .areturn, 1)]
def T_44_0 : List (Nat × Instr × Nat) := [(0, .new 17, 3), (3, .dup, 1), (4, .aload_n 0, 1), (5, .getfield 33, 3), (8, .invokespecial 53, 3), (11, .astore_n 1, 1), (12, .aload_n 0, 1), (13, .getfield 33, 3), (16, .bipush 10, 2), (18, .if_icmp .ge 23, 3), (21, .aload_n 0, 1), (22, .getfield 19, 3), (25, .aload_n 0, 1), (26, .getfield 33, 3), (29, .aload_n 1, 1), (30, .aastore, 1), (31, .aload_n 0, 1), (32, .dup, 1), (33, .getfield 33, 3), (36, .iconst 1, 1), (37, .iadd, 1), (38, .putfield 33, 3), (41, .aload_n 1, 1), (42, .areturn, 1)]
def T_45_0 : List (Nat × Instr × Nat) := [(0, .iconst 0, 1), (1, .istore 4, 2), (3, .iload 4, 2), (5, .bipush 80, 2), (7, .if_icmp .ge 53, 3), (10, .aload_n 0, 1), (11, .getfield 11, 3), (14, .iload 4, 2), (16, .aaload, 1), (17, .getfield 37, 3), (20, .ifnonnull 34, 3), (23, .aload_n 0, 1), (24, .getfield 11, 3), (27, .iload 4, 2), (29, .aaload, 1), (30, .aload_n 1, 1), (31, .iload_n 2, 1), (32, .iload_n 3, 1), (33, .invokevirtual 54, 3), (36, .aload_n 0, 1), (37, .dup, 1), (38, .getfield 58, 3), (41, .iconst 1, 1), (42, .iadd, 1), (43, .putfield 58, 3), (46, .aload_n 0, 1), (47, .getfield 11, 3), (50, .iload 4, 2), (52, .aaload, 1), (53, .areturn, 1)]
def T_45_1 : List (Nat × Instr × Nat) := [(54, .iinc 4 1, 3), (57, .goto (-54), 3), (60, .aconst_null, 1), (61, .areturn, 1)]
def T_46_0 : List (Nat × Instr × Nat) := [(0, .iload_n 1, 1), (1, .ifCond .ne 5, 3), (4, .iconst 0, 1), (5, .ireturn, 1), (6, .aload_n 0, 1), (7, .dup, 1), (8, .getfield 61, 3), (11, .iconst 1, 1), (12, .iadd, 1), (13, .putfield 61, 3), (16, .aload_n 0, 1), (17, .getfield 61, 3), (20, .ireturn, 1)]
def T_47_0 : List (Nat × Instr × Nat) := [(0, .aload_n 1, 1), (1, .getfield 64, 3), (4, .istore_n 3, 1), (5, .aload_n 1, 1), (6, .aload_n 0, 1), (7, .iload_n 2, 1), (8, .invokevirtual 67, 3), (11, .putfield 64, 3), (14, .iload_n 3, 1), (15, .ireturn, 1)]
def T_48_0 : List (Nat × Instr × Nat) := [(0, .iconst 0, 1), (1, .istore_n 2, 1), (2, .iconst 0, 1), (3, .istore_n 3, 1), (4, .iload_n 3, 1), (5, .bipush 80, 2), (7, .if_icmp .ge 25, 3), (10, .aload_n 0, 1), (11, .getfield 11, 3), (14, .iload_n 3, 1), (15, .aaload, 1), (16, .getfield 37, 3), (19, .aload_n 1, 1), (20, .if_acmp .ne 6, 3), (23, .iinc 2 1, 3), (26, .iinc 3 1, 3), (29, .goto (-25), 3), (32, .aload_n 0, 1), (33, .getfield 33, 3), (36, .bipush 10, 2), (38, .if_icmp .ge 18, 3), (41, .aload_n 0, 1), (42, .getfield 58, 3), (45, .iload_n 2, 1), (46, .iadd, 1), (47, .bipush 80, 2), (49, .if_icmp .gt 7, 3), (52, .iconst 1, 1), (53, .goto 4, 3), (56, .iconst 0, 1)]
def T_48_1 : List (Nat × Instr × Nat) := [(57, .ireturn, 1)]
def T_49_0 : List (Nat × Instr × Nat) := [(0, .aload_n 0, 1), (1, .invokevirtual 41, 3), (4, .astore_n 2, 1), (5, .iconst 0, 1), (6, .istore_n 3, 1), (7, .iload_n 3, 1), (8, .bipush 80, 2), (10, .if_icmp .ge 54, 3), (13, .aload_n 0, 1), (14, .getfield 11, 3), (17, .iload_n 3, 1), (18, .aaload, 1), (19, .getfield 37, 3), (22, .aload_n 1, 1), (23, .if_acmp .ne 35, 3), (26, .aload_n 0, 1), (27, .getfield 11, 3), (30, .iload_n 3, 1), (31, .aaload, 1), (32, .aload_n 0, 1), (33, .aload_n 2, 1), (34, .aload_n 0, 1), (35, .getfield 11, 3), (38, .iload_n 3, 1), (39, .aaload, 1), (40, .getfield 71, 3), (43, .aload_n 0, 1), (44, .getfield 11, 3), (47, .iload_n 3, 1), (48, .aaload, 1)]
def T_49_1 : List (Nat × Instr × Nat) := [(49, .getfield 64, 3), (52, .invokevirtual 45, 3), (55, .putfield 74, 3), (58, .iinc 3 1, 3), (61, .goto (-54), 3), (64, .iconst 0, 1), (65, .istore_n 3, 1), (66, .iload_n 3, 1), (67, .bipush 80, 2), (69, .if_icmp .ge 31, 3), (72, .aload_n 0, 1), (73, .getfield 11, 3), (76, .iload_n 3, 1), (77, .aaload, 1), (78, .getfield 37, 3), (81, .aload_n 1, 1), (82, .if_acmp .ne 12, 3), (85, .aload_n 0, 1), (86, .getfield 11, 3), (89, .iload_n 3, 1), (90, .aaload, 1), (91, .invokestatic 77, 3), (94, .iinc 3 1, 3), (97, .goto (-31), 3), (100, .aload_n 2, 1), (101, .aload_n 1, 1), (102, .getfield 49, 3), (105, .getfield 74, 3), (108, .putfield 49, 3), (111, .aload_n 2, 1)]
def T_49_2 : List (Nat × Instr × Nat) := [(112, .areturn, 1)]
def T_50_0 : List (Nat × Instr × Nat) := [(0, .aload_n 0, 1), (1, .getfield 74, 3), (4, .ifnull 38, 3), (7, .aload_n 0, 1), (8, .getfield 81, 3), (11, .ifnull 31, 3), (14, .aload_n 0, 1), (15, .getfield 81, 3), (18, .getfield 74, 3), (21, .ifnull 21, 3), (24, .aload_n 0, 1), (25, .getfield 74, 3), (28, .aload_n 0, 1), (29, .getfield 81, 3), (32, .getfield 74, 3), (35, .aload_n 0, 1), (36, .getfield 84, 3), (39, .invokevirtual 87, 3), (42, .return_, 1)]
def T_51_0 : List (Nat × Instr × Nat) := [(0, .aload_n 0, 1), (1, .getfield 58, 3), (4, .aload_n 0, 1), (5, .aload_n 1, 1), (6, .iload_n 2, 1), (7, .invokevirtual 91, 3), (10, .iadd, 1), (11, .bipush 80, 2), (13, .if_icmp .le 6, 3), (16, .bipush (-2), 2), (18, .ireturn, 1), (19, .aload_n 0, 1), (20, .iload 4, 2), (22, .invokevirtual 67, 3), (25, .istore 5, 2), (27, .aload_n 0, 1), (28, .aload_n 1, 1), (29, .iload_n 2, 1), (30, .iload_n 3, 1), (31, .iload 5, 2), (33, .invokevirtual 95, 3), (36, .istore 6, 2), (38, .iconst 0, 1), (39, .istore 7, 2), (41, .iload 7, 2), (43, .bipush 80, 2), (45, .if_icmp .ge 53, 3), (48, .aload_n 0, 1), (49, .getfield 11, 3), (52, .iload 7, 2)]
def T_51_1 : List (Nat × Instr × Nat) := [(54, .aaload, 1), (55, .aload_n 1, 1), (56, .invokestatic 99, 3), (59, .ifCond .eq 33, 3), (62, .aload_n 0, 1), (63, .getfield 11, 3), (66, .iload 7, 2), (68, .aaload, 1), (69, .iload_n 2, 1), (70, .invokevirtual 103, 3), (73, .ifnonnull 19, 3), (76, .aload_n 0, 1), (77, .aload_n 0, 1), (78, .getfield 11, 3), (81, .iload 7, 2), (83, .aaload, 1), (84, .iload_n 2, 1), (85, .iload_n 3, 1), (86, .iload 5, 2), (88, .invokevirtual 95, 3), (91, .pop, 1), (92, .iinc 7 1, 3), (95, .goto (-54), 3), (98, .iload 6, 2), (100, .ireturn, 1)]
def T_52_0 : List (Nat × Instr × Nat) := [(0, .aload_n 0, 1), (1, .aload_n 1, 1), (2, .getfield 37, 3), (5, .iload_n 3, 1), (6, .iload 4, 2), (8, .invokevirtual 45, 3), (11, .astore 5, 2), (13, .aload 5, 2), (15, .ifnonnull 6, 3), (18, .bipush (-2), 2), (20, .ireturn, 1), (21, .aload 5, 2), (23, .aload_n 1, 1), (24, .iload_n 2, 1), (25, .invokevirtual 87, 3), (28, .aload 5, 2), (30, .getfield 107, 3), (33, .ireturn, 1)]
def T_53_0 : List (Nat × Instr × Nat) := [(0, .iconst 1, 1), (1, .istore_n 3, 1), (2, .iconst 0, 1), (3, .istore 4, 2), (5, .iload 4, 2), (7, .bipush 80, 2), (9, .if_icmp .ge 40, 3), (12, .aload_n 0, 1), (13, .getfield 11, 3), (16, .iload 4, 2), (18, .aaload, 1), (19, .aload_n 1, 1), (20, .invokestatic 99, 3), (23, .ifCond .eq 20, 3), (26, .aload_n 0, 1), (27, .getfield 11, 3), (30, .iload 4, 2), (32, .aaload, 1), (33, .iload_n 2, 1), (34, .invokevirtual 103, 3), (37, .ifnonnull 6, 3), (40, .iinc 3 1, 3), (43, .iinc 4 1, 3), (46, .goto (-41), 3), (49, .iload_n 3, 1), (50, .ireturn, 1)]
def T_54_0 : List (Nat × Instr × Nat) := [(0, .aload_n 0, 1), (1, .aload_n 1, 1), (2, .if_acmp .eq 32, 3), (5, .aload_n 0, 1), (6, .getfield 37, 3), (9, .ifnull 25, 3), (12, .aload_n 0, 1), (13, .getfield 64, 3), (16, .ifCond .eq 18, 3), (19, .aload_n 0, 1), (20, .getfield 64, 3), (23, .aload_n 1, 1), (24, .getfield 64, 3), (27, .if_icmp .ne 7, 3), (30, .iconst 1, 1), (31, .goto 4, 3), (34, .iconst 0, 1), (35, .ireturn, 1)]
def T_55_0 : List (Nat × Instr × Nat) := [(0, .aload_n 1, 1), (1, .getfield 81, 3), (4, .astore_n 2, 1), (5, .aload_n 2, 1), (6, .ifnonnull 5, 3), (9, .iconst (-1), 1), (10, .ireturn, 1), (11, .aload_n 1, 1), (12, .getfield 110, 3), (15, .ifCond .le 6, 3), (18, .bipush (-4), 2), (20, .ireturn, 1), (21, .aload_n 1, 1), (22, .getfield 84, 3), (25, .istore_n 3, 1), (26, .aload_n 0, 1), (27, .aload_n 1, 1), (28, .invokevirtual 113, 3), (31, .iconst 1, 1), (32, .istore 4, 2), (34, .iconst 0, 1), (35, .istore 5, 2), (37, .iload 5, 2), (39, .bipush 80, 2), (41, .if_icmp .ge 74, 3), (44, .aload_n 0, 1), (45, .getfield 11, 3), (48, .iload 5, 2), (50, .aaload, 1), (51, .aload_n 2, 1)]
def T_55_1 : List (Nat × Instr × Nat) := [(52, .invokestatic 99, 3), (55, .ifCond .eq 17, 3), (58, .aload_n 0, 1), (59, .getfield 11, 3), (62, .iload 5, 2), (64, .aaload, 1), (65, .iload_n 3, 1), (66, .invokevirtual 103, 3), (69, .goto 4, 3), (72, .aconst_null, 1), (73, .astore 6, 2), (75, .aload 6, 2), (77, .ifnull 32, 3), (80, .aload 6, 2), (82, .getfield 71, 3), (85, .aload_n 1, 1), (86, .getfield 71, 3), (89, .if_icmp .ne 20, 3), (92, .aload 6, 2), (94, .getfield 110, 3), (97, .ifCond .ne 12, 3), (100, .aload_n 0, 1), (101, .aload 6, 2), (103, .invokevirtual 113, 3), (106, .iinc 4 1, 3), (109, .iinc 5 1, 3), (112, .goto (-75), 3), (115, .iload 4, 2), (117, .ireturn, 1)]
def T_56_0 : List (Nat × Instr × Nat) := [(0, .aload_n 1, 1), (1, .invokevirtual 116, 3), (4, .aload_n 0, 1), (5, .dup, 1), (6, .getfield 58, 3), (9, .iconst 1, 1), (10, .isub, 1), (11, .putfield 58, 3), (14, .return_, 1)]
def T_57_0 : List (Nat × Instr × Nat) := [(0, .aload_n 0, 1), (1, .invokespecial 3, 3), (4, .return_, 1)]
def T_58_0 : List (Nat × Instr × Nat) := [(0, .iload_n 2, 1), (1, .iconst 1, 1), (2, .if_icmp .ge 5, 3), (5, .iconst 0, 1), (6, .ireturn, 1), (7, .aload_n 0, 1), (8, .aload_n 1, 1), (9, .getfield 9, 3), (12, .iconst 0, 1), (13, .invokevirtual 15, 3), (16, .iload_n 2, 1), (17, .invokestatic 21, 3), (20, .iconst 1, 1), (21, .isub, 1), (22, .istore_n 3, 1), (23, .iload_n 3, 1), (24, .ifCond .lt 42, 3), (27, .aload_n 0, 1), (28, .getfield 25, 3), (31, .bipush 7, 2), (33, .if_icmp .lt 5, 3), (36, .iconst 0, 1), (37, .ireturn, 1), (38, .aload_n 0, 1), (39, .aload_n 0, 1), (40, .getfield 29, 3), (43, .iconst 2, 1), (44, .aload_n 0, 1), (45, .getfield 25, 3), (48, .imul, 1)]
def T_58_1 : List (Nat × Instr × Nat) := [(49, .iconst 1, 1), (50, .iadd, 1), (51, .iload_n 2, 1), (52, .iload_n 3, 1), (53, .ishr, 1), (54, .iconst 1, 1), (55, .iand, 1), (56, .iadd, 1), (57, .invokevirtual 15, 3), (60, .iinc 3 (-1), 3), (63, .goto (-40), 3), (66, .iconst 1, 1), (67, .ireturn, 1)]
def T_59_0 : List (Nat × Instr × Nat) := [(0, .bipush 30, 2), (2, .istore_n 1, 1), (3, .iload_n 1, 1), (4, .ifCond .le 15, 3), (7, .iload_n 0, 1), (8, .iload_n 1, 1), (9, .ishr, 1), (10, .ifCond .ne 9, 3), (13, .iinc 1 (-1), 3), (16, .goto (-13), 3), (19, .iload_n 1, 1), (20, .ireturn, 1)]
def T_60_0 : List (Nat × Instr × Nat) := [(0, .aload_n 0, 1), (1, .aload_n 1, 1), (2, .putfield 29, 3), (5, .aload_n 0, 1), (6, .iload_n 2, 1), (7, .putfield 25, 3), (10, .aload_n 1, 1), (11, .iload_n 2, 1), (12, .invokevirtual 32, 3), (15, .astore_n 3, 1), (16, .aload_n 3, 1), (17, .ifnull 22, 3), (20, .aload_n 0, 1), (21, .aload_n 3, 1), (22, .putfield 29, 3), (25, .aload_n 0, 1), (26, .iconst 0, 1), (27, .putfield 25, 3), (30, .aload_n 3, 1), (31, .iconst 0, 1), (32, .invokevirtual 32, 3), (35, .astore_n 3, 1), (36, .goto (-20), 3), (39, .return_, 1)]
def T_61_0 : List (Nat × Instr × Nat) := [(0, .sipush 1000, 3), (3, .aload_n 0, 1), (4, .getfield 29, 3), (7, .getfield 38, 3), (10, .imul, 1), (11, .bipush 20, 2), (13, .aload_n 0, 1), (14, .getfield 29, 3), (17, .getfield 41, 3), (20, .imul, 1), (21, .iadd, 1), (22, .aload_n 0, 1), (23, .getfield 25, 3), (26, .iadd, 1), (27, .ireturn, 1)]
def T_62_0 : List (Nat × Instr × Nat) := [(0, .aload_n 0, 1), (1, .invokespecial 3, 3), (4, .aload_n 0, 1), (5, .bipush 41, 2), (7, .anewarray 9, 3), (10, .putfield 11, 3), (13, .aload_n 0, 1), (14, .iload_n 1, 1), (15, .putfield 17, 3), (18, .aload_n 0, 1), (19, .aload_n 2, 1), (20, .putfield 21, 3), (23, .aload_n 0, 1), (24, .aload_n 2, 1), (25, .ifnonnull 7, 3), (28, .iconst 0, 1), (29, .goto 9, 3), (32, .aload_n 2, 1), (33, .getfield 25, 3), (36, .iconst 1, 1), (37, .iadd, 1), (38, .putfield 25, 3), (41, .return_, 1)]
def T_63_0 : List (Nat × Instr × Nat) := [(0, .aload_n 0, 1), (1, .astore_n 2, 1), (2, .aload_n 2, 1), (3, .ifnull 18, 3), (6, .aload_n 2, 1), (7, .aload_n 1, 1), (8, .if_acmp .ne 5, 3), (11, .iconst 1, 1), (12, .ireturn, 1), (13, .aload_n 2, 1), (14, .getfield 21, 3), (17, .astore_n 2, 1), (18, .goto (-16), 3), (21, .iconst 0, 1), (22, .ireturn, 1)]
def T_64_0 : List (Nat × Instr × Nat) := [(0, .aload_n 0, 1), (1, .getfield 28, 3), (4, .istore_n 1, 1), (5, .iconst 0, 1), (6, .istore_n 2, 1), (7, .iload_n 2, 1), (8, .bipush 40, 2), (10, .if_icmp .ge 34, 3), (13, .iload_n 1, 1), (14, .bipush 40, 2), (16, .if_icmp .ge 9, 3), (19, .iload_n 1, 1), (20, .iconst 1, 1), (21, .iadd, 1), (22, .goto 4, 3), (25, .iconst 1, 1), (26, .istore_n 1, 1), (27, .aload_n 0, 1), (28, .getfield 11, 3), (31, .iload_n 1, 1), (32, .aaload, 1), (33, .ifnonnull 5, 3), (36, .iload_n 1, 1), (37, .ireturn, 1), (38, .iinc 2 1, 3), (41, .goto (-34), 3), (44, .iconst 0, 1), (45, .ireturn, 1)]
def T_65_0 : List (Nat × Instr × Nat) := [(0, .aload_n 0, 1), (1, .invokevirtual 31, 3), (4, .istore_n 2, 1), (5, .iload_n 2, 1), (6, .ifCond .ne 4, 3), (9, .return_, 1), (10, .aload_n 0, 1), (11, .getfield 11, 3), (14, .iload_n 2, 1), (15, .aload_n 1, 1), (16, .aastore, 1), (17, .aload_n 0, 1), (18, .iload_n 2, 1), (19, .putfield 28, 3), (22, .aload_n 0, 1), (23, .getfield 35, 3), (26, .ifnonnull 8, 3), (29, .aload_n 0, 1), (30, .aload_n 1, 1), (31, .putfield 35, 3), (34, .return_, 1)]
def T_66_0 : List (Nat × Instr × Nat) := [(0, .iconst 1, 1), (1, .istore_n 2, 1), (2, .iload_n 2, 1), (3, .bipush 40, 2), (5, .if_icmp .gt 26, 3), (8, .aload_n 0, 1), (9, .getfield 11, 3), (12, .iload_n 2, 1), (13, .aaload, 1), (14, .aload_n 1, 1), (15, .if_acmp .ne 10, 3), (18, .aload_n 0, 1), (19, .getfield 11, 3), (22, .iload_n 2, 1), (23, .aconst_null, 1), (24, .aastore, 1), (25, .iinc 2 1, 3), (28, .goto (-26), 3), (31, .return_, 1)]
def T_67_0 : List (Nat × Instr × Nat) := [(0, .iload_n 1, 1), (1, .iconst 1, 1), (2, .if_icmp .lt 9, 3), (5, .iload_n 1, 1), (6, .bipush 40, 2), (8, .if_icmp .le 7, 3), (11, .aconst_null, 1), (12, .goto 9, 3), (15, .aload_n 0, 1), (16, .getfield 11, 3), (19, .iload_n 1, 1), (20, .aaload, 1), (21, .areturn, 1)]
def T_68_0 : List (Nat × Instr × Nat) := [(0, .iconst 1, 1), (1, .istore_n 2, 1), (2, .iload_n 2, 1), (3, .bipush 40, 2), (5, .if_icmp .gt 21, 3), (8, .aload_n 0, 1), (9, .getfield 11, 3), (12, .iload_n 2, 1), (13, .aaload, 1), (14, .aload_n 1, 1), (15, .if_acmp .ne 5, 3), (18, .iload_n 2, 1), (19, .ireturn, 1), (20, .iinc 2 1, 3), (23, .goto (-21), 3), (26, .iconst 0, 1), (27, .ireturn, 1)]
def T_69_0 : List (Nat × Instr × Nat) := [(0, .aload_n 0, 1), (1, .invokespecial 3, 3), (4, .aload_n 0, 1), (5, .iload_n 1, 1), (6, .putfield 9, 3), (9, .aload_n 0, 1), (10, .aload_n 2, 1), (11, .putfield 15, 3), (14, .aload_n 0, 1), (15, .aload_n 3, 1), (16, .putfield 19, 3), (19, .aload_n 0, 1), (20, .aload 4, 2), (22, .putfield 23, 3), (25, .aload_n 0, 1), (26, .aload 5, 2), (28, .putfield 27, 3), (31, .return_, 1)]
def T_70_0 : List (Nat × Instr × Nat) := [(0, .aload_n 0, 1), (1, .getfield 31, 3), (4, .ifCond .ne 14, 3), (7, .aload_n 0, 1), (8, .getfield 34, 3), (11, .ifCond .ne 7, 3), (14, .iconst 1, 1), (15, .goto 4, 3), (18, .iconst 0, 1), (19, .ireturn, 1)]
def T_71_0 : List (Nat × Instr × Nat) := [(0, .aload_n 0, 1), (1, .getfield 31, 3), (4, .ifCond .ne 23, 3), (7, .aload_n 0, 1), (8, .getfield 9, 3), (11, .ifCond .eq 16, 3), (14, .aload_n 0, 1), (15, .getfield 38, 3), (18, .bipush (-10), 2), (20, .if_icmp .le 7, 3), (23, .iconst 1, 1), (24, .goto 4, 3), (27, .iconst 0, 1), (28, .ireturn, 1)]
def T_72_0 : List (Nat × Instr × Nat) := [(0, .aload_n 0, 1), (1, .getfield 41, 3), (4, .bipush 100, 2), (6, .aload_n 0, 1), (7, .getfield 38, 3), (10, .imul, 1), (11, .iadd, 1), (12, .ireturn, 1)]
def T_73_0 : List (Nat × Instr × Nat) := [(0, .aload_n 0, 1), (1, .getfield 31, 3), (4, .iconst 1, 1), (5, .if_icmp .ne 34, 3), (8, .aload_n 0, 1), (9, .getfield 15, 3), (12, .ifnull 23, 3), (15, .aload_n 0, 1), (16, .getfield 15, 3), (19, .getfield 31, 3), (22, .ifCond .ne 13, 3), (25, .aload_n 0, 1), (26, .getfield 15, 3), (29, .getfield 9, 3), (32, .ifCond .ne 7, 3), (35, .iconst 1, 1), (36, .goto 4, 3), (39, .iconst 0, 1), (40, .ireturn, 1)]
def T_74_0 : List (Nat × Instr × Nat) := [(0, .aload_n 0, 1), (1, .getfield 19, 3), (4, .getfield 44, 3), (7, .aload_n 0, 1), (8, .if_acmp .eq 11, 3), (11, .aload_n 0, 1), (12, .getfield 19, 3), (15, .getfield 44, 3), (18, .areturn, 1), (19, .aload_n 0, 1), (20, .getfield 19, 3), (23, .getfield 49, 3), (26, .ifnonnull 7, 3), (29, .aconst_null, 1), (30, .goto 13, 3), (33, .aload_n 0, 1), (34, .getfield 19, 3), (37, .getfield 49, 3), (40, .getfield 44, 3), (43, .areturn, 1)]
def T_75_0 : List (Nat × Instr × Nat) := [(0, .aload_n 0, 1), (1, .dup, 1), (2, .getfield 41, 3), (5, .iload_n 1, 1), (6, .iadd, 1), (7, .putfield 41, 3), (10, .aload_n 0, 1), (11, .getfield 23, 3), (14, .iload_n 1, 1), (15, .invokevirtual 52, 3), (18, .return_, 1)]
def T_76_0 : List (Nat × Instr × Nat) := [(0, .aload_n 0, 1), (1, .getfield 23, 3), (4, .aload_n 0, 1), (5, .getfield 41, 3), (8, .ineg, 1), (9, .invokevirtual 52, 3), (12, .aload_n 0, 1), (13, .getfield 23, 3), (16, .iconst (-1), 1), (17, .invokevirtual 58, 3), (20, .aload_n 0, 1), (21, .aload_n 1, 1), (22, .putfield 23, 3), (25, .aload_n 0, 1), (26, .getfield 23, 3), (29, .aload_n 0, 1), (30, .getfield 41, 3), (33, .invokevirtual 52, 3), (36, .aload_n 0, 1), (37, .getfield 23, 3), (40, .iconst 1, 1), (41, .invokevirtual 58, 3), (44, .return_, 1)]
def T_77_0 : List (Nat × Instr × Nat) := [(0, .aload_n 0, 1), (1, .iconst 2, 1), (2, .putfield 31, 3), (5, .aload_n 0, 1), (6, .aconst_null, 1), (7, .putfield 15, 3), (10, .aload_n 0, 1), (11, .getfield 19, 3), (14, .astore_n 1, 1), (15, .aload_n 1, 1), (16, .ifnull 16, 3), (19, .aload_n 1, 1), (20, .aload_n 0, 1), (21, .invokevirtual 61, 3), (24, .aload_n 1, 1), (25, .getfield 49, 3), (28, .astore_n 1, 1), (29, .goto (-14), 3), (32, .return_, 1)]
def T_78_0 : List (Nat × Instr × Nat) := [(0, .iload_n 1, 1), (1, .tableswitch 101 0 6 #[43, 48, 67, 75, 83, 91, 96], 43), (44, .aload_n 0, 1), (45, .getfield 31, 3), (48, .ireturn, 1), (49, .aload_n 0, 1), (50, .getfield 15, 3), (53, .ifnonnull 7, 3), (56, .iconst (-1), 1), (57, .goto 10, 3), (60, .aload_n 0, 1), (61, .getfield 15, 3), (64, .getfield 9, 3), (67, .ireturn, 1), (68, .aload_n 0, 1), (69, .getfield 19, 3), (72, .getfield 65, 3), (75, .ireturn, 1), (76, .aload_n 0, 1), (77, .getfield 23, 3), (80, .getfield 66, 3), (83, .ireturn, 1), (84, .aload_n 0, 1), (85, .getfield 27, 3), (88, .getfield 67, 3), (91, .ireturn, 1), (92, .aload_n 0, 1), (93, .getfield 41, 3), (96, .ireturn, 1), (97, .aload_n 0, 1)]
def T_78_1 : List (Nat × Instr × Nat) := [(98, .getfield 38, 3), (101, .ireturn, 1), (102, .aload_n 0, 1), (103, .getfield 34, 3), (106, .ifCond .eq 7, 3), (109, .iconst 1, 1), (110, .goto 4, 3), (113, .iconst 0, 1), (114, .ireturn, 1)]
def T_79_0 : List (Nat × Instr × Nat) := [(0, .aload_n 0, 1), (1, .invokespecial 3, 3), (4, .aload_n 0, 1), (5, .sipush 150, 3), (8, .anewarray 9, 3), (11, .putfield 11, 3), (14, .aload_n 0, 1), (15, .bipush 20, 2), (17, .anewarray 17, 3), (20, .putfield 19, 3), (23, .return_, 1)]
def T_80_0 : List (Nat × Instr × Nat) := [(0, .iload_n 1, 1), (1, .ifCond .lt 18, 3), (4, .iload_n 1, 1), (5, .aload_n 0, 1), (6, .getfield 23, 3), (9, .if_icmp .ge 10, 3), (12, .iload_n 1, 1), (13, .sipush 150, 3), (16, .if_icmp .lt 7, 3), (19, .aconst_null, 1), (20, .goto 9, 3), (23, .aload_n 0, 1), (24, .getfield 11, 3), (27, .iload_n 1, 1), (28, .aaload, 1), (29, .areturn, 1)]
def T_81_0 : List (Nat × Instr × Nat) := [(0, .aload_n 0, 1), (1, .iload_n 1, 1), (2, .invokevirtual 27, 3), (5, .astore_n 2, 1), (6, .aload_n 2, 1), (7, .ifnull 10, 3), (10, .aload_n 2, 1), (11, .getfield 31, 3), (14, .ifCond .eq 7, 3), (17, .aconst_null, 1), (18, .goto 4, 3), (21, .aload_n 2, 1), (22, .areturn, 1)]
def T_82_0 : List (Nat × Instr × Nat) := [(0, .iload_n 1, 1), (1, .ifCond .lt 17, 3), (4, .iload_n 1, 1), (5, .aload_n 0, 1), (6, .getfield 34, 3), (9, .if_icmp .ge 9, 3), (12, .iload_n 1, 1), (13, .bipush 20, 2), (15, .if_icmp .lt 7, 3), (18, .aconst_null, 1), (19, .goto 9, 3), (22, .aload_n 0, 1), (23, .getfield 19, 3), (26, .iload_n 1, 1), (27, .aaload, 1), (28, .areturn, 1)]
def T_83_0 : List (Nat × Instr × Nat) := [(0, .iconst 0, 1), (1, .istore_n 2, 1), (2, .iconst 0, 1), (3, .istore_n 3, 1), (4, .iload_n 3, 1), (5, .aload_n 0, 1), (6, .getfield 23, 3), (9, .if_icmp .ge 25, 3), (12, .aload_n 0, 1), (13, .getfield 11, 3), (16, .iload_n 3, 1), (17, .aaload, 1), (18, .getfield 31, 3), (21, .iload_n 1, 1), (22, .if_icmp .ne 6, 3), (25, .iinc 2 1, 3), (28, .iinc 3 1, 3), (31, .goto (-27), 3), (34, .iload_n 2, 1), (35, .ireturn, 1)]
def T_84_0 : List (Nat × Instr × Nat) := [(0, .aload_n 0, 1), (1, .getfield 23, 3), (4, .sipush 150, 3), (7, .if_icmp .lt 5, 3), (10, .iconst 0, 1), (11, .ireturn, 1), (12, .iload_n 2, 1), (13, .ifCond .eq 22, 3), (16, .aload_n 0, 1), (17, .getfield 34, 3), (20, .bipush 20, 2), (22, .if_icmp .ge 11, 3), (25, .aload_n 1, 1), (26, .getfield 37, 3), (29, .iconst 4, 1), (30, .if_icmp .lt 5, 3), (33, .iconst 0, 1), (34, .ireturn, 1), (35, .aload_n 1, 1), (36, .astore_n 3, 1), (37, .aload_n 3, 1), (38, .ifnull 20, 3), (41, .aload_n 3, 1), (42, .invokevirtual 40, 3), (45, .ifCond .ne 5, 3), (48, .iconst 0, 1), (49, .ireturn, 1), (50, .aload_n 3, 1), (51, .getfield 44, 3), (54, .astore_n 3, 1)]
def T_84_1 : List (Nat × Instr × Nat) := [(55, .goto (-18), 3), (58, .iconst 1, 1), (59, .ireturn, 1)]
def T_85_0 : List (Nat × Instr × Nat) := [(0, .new 17, 3), (3, .dup, 1), (4, .aload_n 0, 1), (5, .getfield 34, 3), (8, .aload_n 1, 1), (9, .invokespecial 48, 3), (12, .astore_n 2, 1), (13, .aload_n 0, 1), (14, .getfield 34, 3), (17, .bipush 20, 2), (19, .if_icmp .ge 23, 3), (22, .aload_n 0, 1), (23, .getfield 19, 3), (26, .aload_n 0, 1), (27, .getfield 34, 3), (30, .aload_n 2, 1), (31, .aastore, 1), (32, .aload_n 0, 1), (33, .dup, 1), (34, .getfield 34, 3), (37, .iconst 1, 1), (38, .iadd, 1), (39, .putfield 34, 3), (42, .aload_n 2, 1), (43, .areturn, 1)]
def T_86_0 : List (Nat × Instr × Nat) := [(0, .new 9, 3), (3, .dup, 1), (4, .aload_n 0, 1), (5, .getfield 23, 3), (8, .aload_n 1, 1), (9, .aload_n 2, 1), (10, .aload_n 3, 1), (11, .aload 4, 2), (13, .invokespecial 51, 3), (16, .astore 5, 2), (18, .aload_n 0, 1), (19, .getfield 23, 3), (22, .sipush 150, 3), (25, .if_icmp .ge 24, 3), (28, .aload_n 0, 1), (29, .getfield 11, 3), (32, .aload_n 0, 1), (33, .getfield 23, 3), (36, .aload 5, 2), (38, .aastore, 1), (39, .aload_n 0, 1), (40, .dup, 1), (41, .getfield 23, 3), (44, .iconst 1, 1), (45, .iadd, 1), (46, .putfield 23, 3), (49, .aload_n 2, 1), (50, .astore 6, 2), (52, .aload 6, 2), (54, .ifnull 20, 3)]
def T_86_1 : List (Nat × Instr × Nat) := [(57, .aload 6, 2), (59, .aload 5, 2), (61, .invokevirtual 54, 3), (64, .aload 6, 2), (66, .getfield 44, 3), (69, .astore 6, 2), (71, .goto (-19), 3), (74, .aload_n 3, 1), (75, .iconst 1, 1), (76, .invokevirtual 58, 3), (79, .aload 5, 2), (81, .areturn, 1)]
def T_87_0 : List (Nat × Instr × Nat) := [(0, .aload_n 0, 1), (1, .aload_n 1, 1), (2, .invokevirtual 64, 3), (5, .iconst 1, 1), (6, .istore_n 2, 1), (7, .aload_n 1, 1), (8, .getfield 67, 3), (11, .getfield 70, 3), (14, .aload_n 1, 1), (15, .if_acmp .ne 11, 3), (18, .iload_n 2, 1), (19, .aload_n 0, 1), (20, .aload_n 1, 1), (21, .invokevirtual 74, 3), (24, .iadd, 1), (25, .istore_n 2, 1), (26, .aload_n 0, 1), (27, .invokevirtual 78, 3), (30, .iload_n 2, 1), (31, .ireturn, 1)]
def T_88_0 : List (Nat × Instr × Nat) := [(0, .aload_n 1, 1), (1, .invokevirtual 81, 3), (4, .astore_n 2, 1), (5, .aload_n 1, 1), (6, .iconst 1, 1), (7, .putfield 31, 3), (10, .aload_n 1, 1), (11, .getfield 85, 3), (14, .aload_n 1, 1), (15, .getfield 89, 3), (18, .ineg, 1), (19, .invokevirtual 92, 3), (22, .aload_n 1, 1), (23, .getfield 85, 3), (26, .iconst (-1), 1), (27, .invokevirtual 58, 3), (30, .aload_n 1, 1), (31, .iconst 0, 1), (32, .putfield 89, 3), (35, .iconst 0, 1), (36, .istore_n 3, 1), (37, .iload_n 3, 1), (38, .aload_n 0, 1), (39, .getfield 23, 3), (42, .if_icmp .ge 32, 3), (45, .aload_n 0, 1), (46, .getfield 11, 3), (49, .iload_n 3, 1), (50, .aaload, 1), (51, .getfield 95, 3)]
def T_88_1 : List (Nat × Instr × Nat) := [(54, .aload_n 1, 1), (55, .if_acmp .ne 13, 3), (58, .aload_n 0, 1), (59, .getfield 11, 3), (62, .iload_n 3, 1), (63, .aaload, 1), (64, .aload_n 2, 1), (65, .putfield 95, 3), (68, .iinc 3 1, 3), (71, .goto (-34), 3), (74, .return_, 1)]
def T_89_0 : List (Nat × Instr × Nat) := [(0, .iconst 0, 1), (1, .istore_n 2, 1), (2, .iconst 0, 1), (3, .istore_n 3, 1), (4, .iload_n 3, 1), (5, .aload_n 0, 1), (6, .getfield 23, 3), (9, .if_icmp .ge 72, 3), (12, .aload_n 0, 1), (13, .getfield 11, 3), (16, .iload_n 3, 1), (17, .aaload, 1), (18, .astore 4, 2), (20, .aload 4, 2), (22, .aload_n 1, 1), (23, .if_acmp .eq 52, 3), (26, .aload 4, 2), (28, .getfield 31, 3), (31, .iconst 2, 1), (32, .if_icmp .eq 43, 3), (35, .aload 4, 2), (37, .getfield 67, 3), (40, .aload_n 1, 1), (41, .getfield 67, 3), (44, .invokevirtual 98, 3), (47, .ifCond .ne 6, 3), (50, .goto 25, 3), (53, .aload 4, 2), (55, .getfield 31, 3), (58, .ifCond .ne 12, 3)]
def T_89_1 : List (Nat × Instr × Nat) := [(61, .aload_n 0, 1), (62, .aload 4, 2), (64, .invokevirtual 64, 3), (67, .iinc 2 1, 3), (70, .aload 4, 2), (72, .invokevirtual 102, 3), (75, .iinc 3 1, 3), (78, .goto (-74), 3), (81, .iload_n 2, 1), (82, .ireturn, 1)]
def T_90_0 : List (Nat × Instr × Nat) := [(0, .iconst 0, 1), (1, .istore_n 1, 1), (2, .iload_n 1, 1), (3, .aload_n 0, 1), (4, .getfield 23, 3), (7, .if_icmp .ge 30, 3), (10, .aload_n 0, 1), (11, .getfield 11, 3), (14, .iload_n 1, 1), (15, .aaload, 1), (16, .invokevirtual 105, 3), (19, .ifCond .eq 12, 3), (22, .aload_n 0, 1), (23, .getfield 11, 3), (26, .iload_n 1, 1), (27, .aaload, 1), (28, .invokevirtual 102, 3), (31, .iinc 1 1, 3), (34, .goto (-32), 3), (37, .return_, 1)]
def T_91_0 : List (Nat × Instr × Nat) := [(0, .iconst 1, 1), (1, .istore_n 2, 1), (2, .iload_n 2, 1), (3, .bipush 40, 2), (5, .if_icmp .gt 44, 3), (8, .aload_n 1, 1), (9, .getfield 67, 3), (12, .iload_n 2, 1), (13, .invokevirtual 109, 3), (16, .astore_n 3, 1), (17, .aload_n 3, 1), (18, .ifnull 25, 3), (21, .aload_n 3, 1), (22, .getfield 31, 3), (25, .iconst 1, 1), (26, .if_icmp .ne 17, 3), (29, .aload_n 3, 1), (30, .getfield 95, 3), (33, .aload_n 1, 1), (34, .if_acmp .ne 9, 3), (37, .aload_n 3, 1), (38, .invokevirtual 102, 3), (41, .iload_n 2, 1), (42, .ireturn, 1), (43, .iinc 2 1, 3), (46, .goto (-44), 3), (49, .iconst 0, 1), (50, .ireturn, 1)]
def T_92_0 : List (Nat × Instr × Nat) := [(0, .aconst_null, 1), (1, .astore_n 2, 1), (2, .iconst 0, 1), (3, .istore_n 3, 1), (4, .iload_n 3, 1), (5, .aload_n 0, 1), (6, .getfield 23, 3), (9, .if_icmp .ge 56, 3), (12, .aload_n 0, 1), (13, .getfield 11, 3), (16, .iload_n 3, 1), (17, .aaload, 1), (18, .astore 4, 2), (20, .aload 4, 2), (22, .invokevirtual 112, 3), (25, .ifCond .eq 34, 3), (28, .aload 4, 2), (30, .getfield 85, 3), (33, .aload_n 1, 1), (34, .invokevirtual 115, 3), (37, .ifCond .eq 22, 3), (40, .aload_n 2, 1), (41, .ifnull 15, 3), (44, .aload 4, 2), (46, .invokevirtual 118, 3), (49, .aload_n 2, 1), (50, .invokevirtual 118, 3), (53, .if_icmp .lt 6, 3), (56, .aload 4, 2), (58, .astore_n 2, 1)]
def T_92_1 : List (Nat × Instr × Nat) := [(59, .iinc 3 1, 3), (62, .goto (-58), 3), (65, .aload_n 2, 1), (66, .areturn, 1)]
def T_93_0 : List (Nat × Instr × Nat) := [(0, .aload_n 0, 1), (1, .invokespecial 1, 3), (4, .aload_n 0, 1), (5, .iload_n 1, 1), (6, .putfield 7, 3), (9, .return_, 1)]
def T_94_0 : List (Nat × Instr × Nat) := [(0, .aload_n 0, 1), (1, .invokespecial 1, 3), (4, .aload_n 0, 1), (5, .new 7, 3), (8, .dup, 1), (9, .invokespecial 9, 3), (12, .putfield 10, 3), (15, .aload_n 0, 1), (16, .new 16, 3), (19, .dup, 1), (20, .invokespecial 18, 3), (23, .putfield 19, 3), (26, .aload_n 0, 1), (27, .new 23, 3), (30, .dup, 1), (31, .aload_n 0, 1), (32, .getfield 19, 3), (35, .aload_n 0, 1), (36, .getfield 10, 3), (39, .invokespecial 25, 3), (42, .putfield 28, 3), (45, .aload_n 0, 1), (46, .new 32, 3), (49, .dup, 1), (50, .aload_n 0, 1), (51, .getfield 19, 3), (54, .aload_n 0, 1), (55, .getfield 10, 3), (58, .invokespecial 34, 3), (61, .putfield 35, 3)]
def T_94_1 : List (Nat × Instr × Nat) := [(64, .aload_n 0, 1), (65, .new 39, 3), (68, .dup, 1), (69, .invokespecial 41, 3), (72, .putfield 42, 3), (75, .aload_n 0, 1), (76, .getfield 19, 3), (79, .aconst_null, 1), (80, .aload_n 0, 1), (81, .getfield 19, 3), (84, .aconst_null, 1), (85, .invokevirtual 46, 3), (88, .aload_n 0, 1), (89, .getfield 10, 3), (92, .aconst_null, 1), (93, .invokevirtual 50, 3), (96, .aload_n 0, 1), (97, .getfield 42, 3), (100, .invokevirtual 54, 3), (103, .invokevirtual 58, 3), (106, .pop, 1), (107, .return_, 1)]
def T_95_0 : List (Nat × Instr × Nat) := [(0, .aload_n 0, 1), (1, .getfield 19, 3), (4, .iload_n 1, 1), (5, .invokevirtual 62, 3), (8, .astore 4, 2), (10, .aload 4, 2), (12, .ifnonnull 5, 3), (15, .iconst (-1), 1), (16, .ireturn, 1), (17, .aload 4, 2), (19, .getfield 66, 3), (22, .invokevirtual 72, 3), (25, .ifCond .ne 6, 3), (28, .bipush (-3), 2), (30, .ireturn, 1), (31, .aload_n 0, 1), (32, .getfield 19, 3), (35, .aload 4, 2), (37, .getfield 78, 3), (40, .iload_n 2, 1), (41, .invokevirtual 82, 3), (44, .ifCond .eq 22, 3), (47, .iload_n 3, 1), (48, .ifCond .eq 21, 3), (51, .aload_n 0, 1), (52, .getfield 42, 3), (55, .aload 4, 2), (57, .getfield 86, 3), (60, .invokevirtual 90, 3), (63, .ifCond .ne 6, 3)]
def T_95_1 : List (Nat × Instr × Nat) := [(66, .bipush (-2), 2), (68, .ireturn, 1), (69, .iload_n 2, 1), (70, .ifCond .eq 18, 3), (73, .aload_n 0, 1), (74, .getfield 19, 3), (77, .aload 4, 2), (79, .getfield 78, 3), (82, .invokevirtual 46, 3), (85, .goto 8, 3), (88, .aload 4, 2), (90, .getfield 78, 3), (93, .astore 5, 2), (95, .iload_n 3, 1), (96, .ifCond .eq 18, 3), (99, .aload_n 0, 1), (100, .getfield 42, 3), (103, .aload 4, 2), (105, .getfield 86, 3), (108, .invokevirtual 94, 3), (111, .goto 8, 3), (114, .aload 4, 2), (116, .getfield 86, 3), (119, .astore 6, 2), (121, .aload_n 0, 1), (122, .getfield 19, 3), (125, .aload 4, 2), (127, .aload 5, 2), (129, .aload 4, 2), (131, .getfield 66, 3)]
def T_95_2 : List (Nat × Instr × Nat) := [(134, .aload 6, 2), (136, .invokevirtual 58, 3), (139, .astore 7, 2), (141, .aload_n 0, 1), (142, .getfield 35, 3), (145, .aload 7, 2), (147, .iconst 0, 1), (148, .invokevirtual 98, 3), (151, .aload 7, 2), (153, .getfield 102, 3), (156, .ireturn, 1)]
def T_96_0 : List (Nat × Instr × Nat) := [(0, .aload_n 0, 1), (1, .getfield 19, 3), (4, .iload_n 1, 1), (5, .invokevirtual 62, 3), (8, .astore_n 2, 1), (9, .aload_n 2, 1), (10, .ifnull 10, 3), (13, .aload_n 2, 1), (14, .getfield 102, 3), (17, .ifCond .ne 7, 3), (20, .iconst (-1), 1), (21, .goto 11, 3), (24, .aload_n 0, 1), (25, .getfield 19, 3), (28, .aload_n 2, 1), (29, .invokevirtual 106, 3), (32, .ireturn, 1)]
def T_97_0 : List (Nat × Instr × Nat) := [(0, .aload_n 0, 1), (1, .getfield 19, 3), (4, .iload_n 1, 1), (5, .invokevirtual 62, 3), (8, .astore_n 2, 1), (9, .aload_n 2, 1), (10, .ifnonnull 7, 3), (13, .iconst (-1), 1), (14, .goto 11, 3), (17, .aload_n 0, 1), (18, .getfield 19, 3), (21, .aload_n 2, 1), (22, .invokevirtual 110, 3), (25, .ireturn, 1)]
def T_98_0 : List (Nat × Instr × Nat) := [(0, .aload_n 0, 1), (1, .getfield 19, 3), (4, .iload_n 1, 1), (5, .invokevirtual 62, 3), (8, .astore_n 3, 1), (9, .aload_n 3, 1), (10, .ifnonnull 7, 3), (13, .aconst_null, 1), (14, .goto 11, 3), (17, .aload_n 3, 1), (18, .getfield 78, 3), (21, .iload_n 2, 1), (22, .invokevirtual 113, 3), (25, .astore 4, 2), (27, .aload 4, 2), (29, .ifnonnull 5, 3), (32, .iconst (-1), 1), (33, .ireturn, 1), (34, .aload 4, 2), (36, .aload_n 3, 1), (37, .getfield 78, 3), (40, .getfield 118, 3), (43, .if_acmp .eq 11, 3), (46, .aload 4, 2), (48, .getfield 102, 3), (51, .ifCond .ne 7, 3), (54, .iconst 1, 1), (55, .goto 4, 3), (58, .iconst 0, 1), (59, .istore 5, 2)]
def T_98_1 : List (Nat × Instr × Nat) := [(61, .iload 5, 2), (63, .ifCond .ne 11, 3), (66, .aload 4, 2), (68, .getfield 122, 3), (71, .ifCond .eq 7, 3), (74, .iconst 0, 1), (75, .goto 12, 3), (78, .aload_n 0, 1), (79, .getfield 19, 3), (82, .aload 4, 2), (84, .invokevirtual 106, 3), (87, .ireturn, 1)]
def T_99_0 : List (Nat × Instr × Nat) := [(0, .aload_n 0, 1), (1, .getfield 19, 3), (4, .iload_n 2, 1), (5, .invokevirtual 125, 3), (8, .astore_n 3, 1), (9, .aload_n 3, 1), (10, .ifnonnull 13, 3), (13, .new 129, 3), (16, .dup, 1), (17, .ldc 131, 2), (19, .invokespecial 133, 3), (22, .athrow, 1), (23, .aload_n 0, 1), (24, .getfield 19, 3), (27, .iload_n 1, 1), (28, .invokevirtual 136, 3), (31, .astore 4, 2), (33, .aload 4, 2), (35, .ifnonnull 7, 3), (38, .iconst (-1), 1), (39, .goto 9, 3), (42, .aload_n 3, 1), (43, .aload 4, 2), (45, .invokevirtual 139, 3), (48, .ireturn, 1)]
def T_100_0 : List (Nat × Instr × Nat) := [(0, .aload_n 0, 1), (1, .getfield 19, 3), (4, .iload_n 1, 1), (5, .invokevirtual 125, 3), (8, .astore_n 3, 1), (9, .aload_n 3, 1), (10, .ifnonnull 13, 3), (13, .new 129, 3), (16, .dup, 1), (17, .ldc 131, 2), (19, .invokespecial 133, 3), (22, .athrow, 1), (23, .aload_n 3, 1), (24, .iload_n 2, 1), (25, .invokevirtual 113, 3), (28, .astore 4, 2), (30, .aload 4, 2), (32, .ifnonnull 7, 3), (35, .iconst (-1), 1), (36, .goto 8, 3), (39, .aload 4, 2), (41, .getfield 102, 3), (44, .ireturn, 1)]
def T_101_0 : List (Nat × Instr × Nat) := [(0, .iload_n 2, 1), (1, .ifCond .lt 9, 3), (4, .iload_n 2, 1), (5, .bipush 7, 2), (7, .if_icmp .le 13, 3), (10, .new 129, 3), (13, .dup, 1), (14, .ldc 142, 2), (16, .invokespecial 133, 3), (19, .athrow, 1), (20, .aload_n 0, 1), (21, .getfield 19, 3), (24, .iload_n 1, 1), (25, .invokevirtual 136, 3), (28, .astore_n 3, 1), (29, .aload_n 3, 1), (30, .ifnonnull 7, 3), (33, .iconst (-1), 1), (34, .goto 8, 3), (37, .aload_n 3, 1), (38, .iload_n 2, 1), (39, .invokevirtual 144, 3), (42, .ireturn, 1)]
def T_102_0 : List (Nat × Instr × Nat) := [(0, .iload_n 1, 1), (1, .tableswitch 125 0 8 #[51, 59, 68, 77, 85, 93, 101, 109, 117], 51), (52, .aload_n 0, 1), (53, .getfield 19, 3), (56, .getfield 148, 3), (59, .ireturn, 1), (60, .aload_n 0, 1), (61, .getfield 19, 3), (64, .iconst 0, 1), (65, .invokevirtual 151, 3), (68, .ireturn, 1), (69, .aload_n 0, 1), (70, .getfield 19, 3), (73, .iconst 1, 1), (74, .invokevirtual 151, 3), (77, .ireturn, 1), (78, .aload_n 0, 1), (79, .getfield 19, 3), (82, .getfield 154, 3), (85, .ireturn, 1), (86, .aload_n 0, 1), (87, .getfield 10, 3), (90, .getfield 157, 3), (93, .ireturn, 1), (94, .aload_n 0, 1), (95, .getfield 42, 3), (98, .getfield 158, 3), (101, .ireturn, 1), (102, .aload_n 0, 1), (103, .getfield 42, 3)]
def T_102_1 : List (Nat × Instr × Nat) := [(106, .getfield 161, 3), (109, .ireturn, 1), (110, .aload_n 0, 1), (111, .getfield 35, 3), (114, .getfield 164, 3), (117, .ireturn, 1), (118, .aload_n 0, 1), (119, .getfield 28, 3), (122, .getfield 167, 3), (125, .ireturn, 1), (126, .new 129, 3), (129, .dup, 1), (130, .ldc 170, 2), (132, .invokespecial 133, 3), (135, .athrow, 1)]
def T_103_0 : List (Nat × Instr × Nat) := [(0, .aload_n 0, 1), (1, .getfield 10, 3), (4, .iload_n 1, 1), (5, .invokevirtual 172, 3), (8, .astore_n 2, 1), (9, .aload_n 2, 1), (10, .ifnonnull 5, 3), (13, .iconst (-1), 1), (14, .ireturn, 1), (15, .aload_n 0, 1), (16, .getfield 10, 3), (19, .aload_n 2, 1), (20, .invokevirtual 176, 3), (23, .ifCond .ne 6, 3), (26, .bipush (-2), 2), (28, .ireturn, 1), (29, .aload_n 0, 1), (30, .getfield 10, 3), (33, .aload_n 2, 1), (34, .invokevirtual 50, 3), (37, .astore_n 3, 1), (38, .aload_n 0, 1), (39, .getfield 35, 3), (42, .aload_n 3, 1), (43, .invokevirtual 179, 3), (46, .aload_n 3, 1), (47, .getfield 183, 3), (50, .ireturn, 1)]
def T_104_0 : List (Nat × Instr × Nat) := [(0, .iload_n 2, 1), (1, .ifCond .lt 8, 3), (4, .iload_n 2, 1), (5, .iconst 3, 1), (6, .if_icmp .le 13, 3), (9, .new 129, 3), (12, .dup, 1), (13, .ldc 184, 2), (15, .invokespecial 133, 3), (18, .athrow, 1), (19, .iload_n 3, 1), (20, .getstatic 186, 3), (23, .iload_n 2, 1), (24, .iaload, 1), (25, .if_icmp .lt 12, 3), (28, .iload_n 3, 1), (29, .getstatic 190, 3), (32, .iload_n 2, 1), (33, .iaload, 1), (34, .if_icmp .le 13, 3), (37, .new 193, 3), (40, .dup, 1), (41, .ldc 195, 2), (43, .invokespecial 197, 3), (46, .athrow, 1), (47, .aload_n 0, 1), (48, .getfield 10, 3), (51, .iload_n 1, 1), (52, .invokevirtual 172, 3), (55, .astore 4, 2)]
def T_104_1 : List (Nat × Instr × Nat) := [(57, .aload 4, 2), (59, .ifnonnull 5, 3), (62, .iconst (-1), 1), (63, .ireturn, 1), (64, .aload 4, 2), (66, .iload_n 2, 1), (67, .iload_n 3, 1), (68, .invokevirtual 198, 3), (71, .ifCond .eq 8, 3), (74, .bipush (-3), 2), (76, .goto 10, 3), (79, .aload 4, 2), (81, .iload_n 2, 1), (82, .iload_n 3, 1), (83, .invokevirtual 202, 3), (86, .ireturn, 1)]
def T_105_0 : List (Nat × Instr × Nat) := [(0, .iload_n 2, 1), (1, .ifCond .lt 9, 3), (4, .iload_n 2, 1), (5, .bipush 8, 2), (7, .if_icmp .le 13, 3), (10, .new 129, 3), (13, .dup, 1), (14, .ldc 170, 2), (16, .invokespecial 133, 3), (19, .athrow, 1), (20, .aload_n 0, 1), (21, .getfield 10, 3), (24, .iload_n 1, 1), (25, .invokevirtual 172, 3), (28, .astore_n 3, 1), (29, .aload_n 3, 1), (30, .ifnonnull 7, 3), (33, .iconst (-1), 1), (34, .goto 8, 3), (37, .aload_n 3, 1), (38, .iload_n 2, 1), (39, .invokevirtual 206, 3), (42, .ireturn, 1)]
def T_106_0 : List (Nat × Instr × Nat) := [(0, .iload_n 2, 1), (1, .ifCond .lt 9, 3), (4, .iload_n 2, 1), (5, .ldc 207, 2), (7, .if_icmp .le 13, 3), (10, .new 193, 3), (13, .dup, 1), (14, .ldc 208, 2), (16, .invokespecial 197, 3), (19, .athrow, 1), (20, .aload_n 0, 1), (21, .getfield 19, 3), (24, .iload_n 1, 1), (25, .invokevirtual 62, 3), (28, .astore_n 3, 1), (29, .aload_n 3, 1), (30, .ifnonnull 5, 3), (33, .iconst (-1), 1), (34, .ireturn, 1), (35, .aload_n 0, 1), (36, .getfield 28, 3), (39, .aload_n 3, 1), (40, .iload_n 2, 1), (41, .invokevirtual 210, 3), (44, .istore 4, 2), (46, .iload 4, 2), (48, .ifCond .ge 6, 3), (51, .iload 4, 2), (53, .ireturn, 1), (54, .aload_n 3, 1)]
def T_106_1 : List (Nat × Instr × Nat) := [(55, .iload_n 2, 1), (56, .invokevirtual 214, 3), (59, .aload_n 3, 1), (60, .getfield 218, 3), (63, .ireturn, 1)]
def T_107_0 : List (Nat × Instr × Nat) := [(0, .iload_n 2, 1), (1, .ifCond .ge 13, 3), (4, .new 193, 3), (7, .dup, 1), (8, .ldc 221, 2), (10, .invokespecial 197, 3), (13, .athrow, 1), (14, .aload_n 0, 1), (15, .getfield 19, 3), (18, .iload_n 1, 1), (19, .invokevirtual 62, 3), (22, .astore_n 3, 1), (23, .aload_n 3, 1), (24, .ifnonnull 5, 3), (27, .iconst (-1), 1), (28, .ireturn, 1), (29, .iload_n 2, 1), (30, .aload_n 3, 1), (31, .getfield 218, 3), (34, .if_icmp .le 6, 3), (37, .bipush (-3), 2), (39, .ireturn, 1), (40, .aload_n 3, 1), (41, .iload_n 2, 1), (42, .ineg, 1), (43, .invokevirtual 214, 3), (46, .aload_n 3, 1), (47, .getfield 218, 3), (50, .ireturn, 1)]
def T_108_0 : List (Nat × Instr × Nat) := [(0, .iload_n 2, 1), (1, .ifCond .lt 9, 3), (4, .iload_n 2, 1), (5, .ldc 207, 2), (7, .if_icmp .le 13, 3), (10, .new 193, 3), (13, .dup, 1), (14, .ldc 208, 2), (16, .invokespecial 197, 3), (19, .athrow, 1), (20, .aload_n 0, 1), (21, .getfield 19, 3), (24, .iload_n 1, 1), (25, .invokevirtual 62, 3), (28, .astore_n 3, 1), (29, .aload_n 3, 1), (30, .ifnonnull 5, 3), (33, .iconst (-1), 1), (34, .ireturn, 1), (35, .aload_n 0, 1), (36, .getfield 28, 3), (39, .aload_n 3, 1), (40, .iload_n 2, 1), (41, .invokevirtual 210, 3), (44, .istore 4, 2), (46, .iload 4, 2), (48, .ifCond .ge 6, 3), (51, .iload 4, 2), (53, .ireturn, 1), (54, .aload_n 3, 1)]
def T_108_1 : List (Nat × Instr × Nat) := [(55, .getfield 66, 3), (58, .iload_n 2, 1), (59, .invokevirtual 223, 3), (62, .aload_n 3, 1), (63, .getfield 66, 3), (66, .getfield 226, 3), (69, .ireturn, 1)]
def T_109_0 : List (Nat × Instr × Nat) := [(0, .aload_n 0, 1), (1, .getfield 19, 3), (4, .iload_n 1, 1), (5, .invokevirtual 62, 3), (8, .astore_n 3, 1), (9, .aload_n 0, 1), (10, .getfield 10, 3), (13, .iload_n 2, 1), (14, .invokevirtual 172, 3), (17, .astore 4, 2), (19, .aload_n 3, 1), (20, .ifnull 8, 3), (23, .aload 4, 2), (25, .ifnonnull 5, 3), (28, .iconst (-1), 1), (29, .ireturn, 1), (30, .aload_n 3, 1), (31, .getfield 66, 3), (34, .aload 4, 2), (36, .if_acmp .ne 5, 3), (39, .iconst 0, 1), (40, .ireturn, 1), (41, .aload 4, 2), (43, .aload_n 3, 1), (44, .invokevirtual 229, 3), (47, .ifCond .ne 6, 3), (50, .bipush (-3), 2), (52, .ireturn, 1), (53, .aload_n 3, 1), (54, .aload 4, 2)]
def T_109_1 : List (Nat × Instr × Nat) := [(56, .invokevirtual 233, 3), (59, .aload_n 0, 1), (60, .getfield 35, 3), (63, .aload_n 3, 1), (64, .iconst 1, 1), (65, .invokevirtual 98, 3), (68, .iconst 1, 1), (69, .ireturn, 1)]
def T_110_0 : List (Nat × Instr × Nat) := [(0, .iload_n 2, 1), (1, .bipush (-10), 2), (3, .if_icmp .lt 9, 3), (6, .iload_n 2, 1), (7, .bipush 10, 2), (9, .if_icmp .le 13, 3), (12, .new 193, 3), (15, .dup, 1), (16, .ldc 236, 2), (18, .invokespecial 197, 3), (21, .athrow, 1), (22, .aload_n 0, 1), (23, .getfield 19, 3), (26, .iload_n 1, 1), (27, .invokevirtual 62, 3), (30, .astore_n 3, 1), (31, .aload_n 3, 1), (32, .ifnonnull 5, 3), (35, .iconst (-1), 1), (36, .ireturn, 1), (37, .aload_n 3, 1), (38, .iload_n 2, 1), (39, .putfield 238, 3), (42, .iconst 1, 1), (43, .ireturn, 1)]
def T_111_0 : List (Nat × Instr × Nat) := [(0, .iload_n 1, 1), (1, .ifCond .lt 10, 3), (4, .iload_n 1, 1), (5, .sipush 200, 3), (8, .if_icmp .le 13, 3), (11, .new 193, 3), (14, .dup, 1), (15, .ldc 241, 2), (17, .invokespecial 197, 3), (20, .athrow, 1), (21, .aconst_null, 1), (22, .astore_n 2, 1), (23, .iconst 0, 1), (24, .istore_n 3, 1), (25, .iload_n 3, 1), (26, .iload_n 1, 1), (27, .if_icmp .ge 17, 3), (30, .aload_n 0, 1), (31, .getfield 35, 3), (34, .invokevirtual 243, 3), (37, .astore_n 2, 1), (38, .iinc 3 1, 3), (41, .goto (-16), 3), (44, .aload_n 2, 1), (45, .ifnonnull 7, 3), (48, .iconst (-1), 1), (49, .goto 7, 3), (52, .aload_n 2, 1), (53, .getfield 102, 3), (56, .ireturn, 1)]
def T_112_0 : List (Nat × Instr × Nat) := [(0, .aload_n 0, 1), (1, .getfield 19, 3), (4, .iload_n 1, 1), (5, .invokevirtual 62, 3), (8, .astore_n 3, 1), (9, .aload_n 3, 1), (10, .ifnonnull 5, 3), (13, .iconst (-1), 1), (14, .ireturn, 1), (15, .aload_n 3, 1), (16, .getfield 247, 3), (19, .iload_n 2, 1), (20, .if_icmp .ne 5, 3), (23, .iconst 0, 1), (24, .ireturn, 1), (25, .aload_n 3, 1), (26, .iload_n 2, 1), (27, .putfield 247, 3), (30, .iload_n 2, 1), (31, .ifCond .ne 12, 3), (34, .aload_n 0, 1), (35, .getfield 35, 3), (38, .aload_n 3, 1), (39, .iconst 0, 1), (40, .invokevirtual 98, 3), (43, .iconst 1, 1), (44, .ireturn, 1)]
def T_113_0 : List (Nat × Instr × Nat) := [(0, .aload_n 0, 1), (1, .getfield 19, 3), (4, .iload_n 1, 1), (5, .invokevirtual 136, 3), (8, .astore_n 2, 1), (9, .aload_n 2, 1), (10, .ifnonnull 7, 3), (13, .iconst (-1), 1), (14, .goto 7, 3), (17, .aload_n 2, 1), (18, .getfield 251, 3), (21, .ireturn, 1)]
def T_114_0 : List (Nat × Instr × Nat) := [(0, .iload_n 1, 1), (1, .ifCond .eq 27, 3), (4, .aload_n 0, 1), (5, .getfield 10, 3), (8, .iload_n 2, 1), (9, .invokevirtual 172, 3), (12, .astore_n 3, 1), (13, .aload_n 3, 1), (14, .ifnonnull 9, 3), (17, .ldc2_w 254, 3), (20, .goto 7, 3), (23, .aload_n 3, 1), (24, .getfield 256, 3), (27, .lreturn, 1), (28, .aload_n 0, 1), (29, .getfield 19, 3), (32, .iload_n 2, 1), (33, .invokevirtual 136, 3), (36, .astore_n 3, 1), (37, .aload_n 3, 1), (38, .ifnonnull 9, 3), (41, .ldc2_w 254, 3), (44, .goto 7, 3), (47, .aload_n 3, 1), (48, .getfield 260, 3), (51, .lreturn, 1)]
def T_115_0 : List (Nat × Instr × Nat) := [(0, .iload_n 3, 1), (1, .ifCond .lt 9, 3), (4, .iload_n 3, 1), (5, .bipush 10, 2), (7, .if_icmp .lt 14, 3), (10, .new 193, 3), (13, .dup, 1), (14, .ldc_w 261, 3), (17, .invokespecial 197, 3), (20, .athrow, 1), (21, .aload_n 0, 1), (22, .getfield 19, 3), (25, .iload_n 1, 1), (26, .invokevirtual 62, 3), (29, .astore 5, 2), (31, .aload_n 0, 1), (32, .getfield 42, 3), (35, .getfield 263, 3), (38, .astore 6, 2), (40, .aload 5, 2), (42, .ifnull 17, 3), (45, .aload 6, 2), (47, .aload 5, 2), (49, .getfield 86, 3), (52, .iload_n 2, 1), (53, .invokevirtual 267, 3), (56, .ifCond .ne 5, 3), (59, .iconst (-1), 1), (60, .ireturn, 1), (61, .aload_n 0, 1)]
def T_115_1 : List (Nat × Instr × Nat) := [(62, .getfield 42, 3), (65, .aload 6, 2), (67, .getfield 273, 3), (70, .aload 6, 2), (72, .getfield 277, 3), (75, .iload_n 3, 1), (76, .iload 4, 2), (78, .invokevirtual 280, 3), (81, .ireturn, 1)]
def T_116_0 : List (Nat × Instr × Nat) := [(0, .aload_n 0, 1), (1, .getfield 19, 3), (4, .iload_n 1, 1), (5, .invokevirtual 62, 3), (8, .astore_n 3, 1), (9, .aload_n 0, 1), (10, .getfield 42, 3), (13, .getfield 263, 3), (16, .astore 4, 2), (18, .aload_n 3, 1), (19, .ifnull 16, 3), (22, .aload 4, 2), (24, .aload_n 3, 1), (25, .getfield 86, 3), (28, .iload_n 2, 1), (29, .invokevirtual 267, 3), (32, .ifCond .ne 5, 3), (35, .iconst (-1), 1), (36, .ireturn, 1), (37, .aload 4, 2), (39, .getfield 277, 3), (42, .ifCond .ne 18, 3), (45, .aload_n 0, 1), (46, .getfield 42, 3), (49, .aload 4, 2), (51, .getfield 273, 3), (54, .invokevirtual 284, 3), (57, .goto 4, 3), (60, .iconst (-1), 1), (61, .ireturn, 1)]
def T_117_0 : List (Nat × Instr × Nat) := [(0, .aload_n 0, 1), (1, .getfield 19, 3), (4, .iload_n 1, 1), (5, .invokevirtual 62, 3), (8, .astore_n 3, 1), (9, .aload_n 0, 1), (10, .getfield 42, 3), (13, .getfield 263, 3), (16, .astore 4, 2), (18, .aload_n 3, 1), (19, .ifnull 16, 3), (22, .aload 4, 2), (24, .aload_n 3, 1), (25, .getfield 86, 3), (28, .iload_n 2, 1), (29, .invokevirtual 267, 3), (32, .ifCond .ne 7, 3), (35, .iconst (-1), 1), (36, .goto 8, 3), (39, .aload 4, 2), (41, .invokevirtual 288, 3), (44, .ireturn, 1)]
def T_118_0 : List (Nat × Instr × Nat) := [(0, .aload_n 0, 1), (1, .getfield 42, 3), (4, .iload_n 1, 1), (5, .invokevirtual 292, 3), (8, .astore_n 3, 1), (9, .aload_n 3, 1), (10, .ifnonnull 14, 3), (13, .new 129, 3), (16, .dup, 1), (17, .ldc_w 296, 3), (20, .invokespecial 133, 3), (23, .athrow, 1), (24, .aload_n 0, 1), (25, .getfield 42, 3), (28, .aload_n 3, 1), (29, .getfield 298, 3), (32, .iload_n 2, 1), (33, .invokevirtual 303, 3), (36, .ireturn, 1)]
def T_119_0 : List (Nat × Instr × Nat) := [(0, .iload_n 2, 1), (1, .ifCond .lt 8, 3), (4, .iload_n 2, 1), (5, .iconst 4, 1), (6, .if_icmp .le 14, 3), (9, .new 129, 3), (12, .dup, 1), (13, .ldc_w 307, 3), (16, .invokespecial 133, 3), (19, .athrow, 1), (20, .aload_n 0, 1), (21, .getfield 42, 3), (24, .iload_n 1, 1), (25, .invokevirtual 309, 3), (28, .astore_n 3, 1), (29, .aload_n 3, 1), (30, .ifnonnull 7, 3), (33, .iconst (-1), 1), (34, .goto 8, 3), (37, .aload_n 3, 1), (38, .iload_n 2, 1), (39, .invokevirtual 313, 3), (42, .ireturn, 1)]
def T_120_0 : List (Nat × Instr × Nat) := [(0, .aload_n 0, 1), (1, .invokespecial 1, 3), (4, .aload_n 0, 1), (5, .sipush 150, 3), (8, .newarray .int, 2), (10, .putfield 7, 3), (13, .aload_n 0, 1), (14, .sipush 150, 3), (17, .newarray .int, 2), (19, .putfield 13, 3), (22, .aload_n 0, 1), (23, .sipush 150, 3), (26, .newarray .int, 2), (28, .putfield 16, 3), (31, .aload_n 0, 1), (32, .sipush 150, 3), (35, .newarray .int, 2), (37, .putfield 19, 3), (40, .aload_n 0, 1), (41, .sipush 150, 3), (44, .newarray .int, 2), (46, .putfield 22, 3), (49, .aload_n 0, 1), (50, .sipush 150, 3), (53, .newarray .int, 2), (55, .putfield 25, 3), (58, .aload_n 0, 1), (59, .sipush 150, 3), (62, .newarray .int, 2), (64, .putfield 28, 3)]
def T_120_1 : List (Nat × Instr × Nat) := [(67, .aload_n 0, 1), (68, .sipush 150, 3), (71, .newarray .boolean, 2), (73, .putfield 31, 3), (76, .aload_n 0, 1), (77, .sipush 150, 3), (80, .newarray .long, 2), (82, .putfield 35, 3), (85, .aload_n 0, 1), (86, .sipush 150, 3), (89, .newarray .int, 2), (91, .putfield 39, 3), (94, .aload_n 0, 1), (95, .sipush 3000, 3), (98, .newarray .int, 2), (100, .putfield 42, 3), (103, .aload_n 0, 1), (104, .bipush 20, 2), (106, .newarray .int, 2), (108, .putfield 45, 3), (111, .aload_n 0, 1), (112, .bipush 20, 2), (114, .newarray .int, 2), (116, .putfield 48, 3), (119, .aload_n 0, 1), (120, .bipush 20, 2), (122, .newarray .int, 2), (124, .putfield 51, 3), (127, .aload_n 0, 1), (128, .bipush 20, 2)]
def T_120_2 : List (Nat × Instr × Nat) := [(130, .newarray .int, 2), (132, .putfield 54, 3), (135, .aload_n 0, 1), (136, .bipush 20, 2), (138, .newarray .int, 2), (140, .putfield 57, 3), (143, .aload_n 0, 1), (144, .bipush 20, 2), (146, .newarray .int, 2), (148, .putfield 60, 3), (151, .aload_n 0, 1), (152, .bipush 20, 2), (154, .newarray .int, 2), (156, .putfield 63, 3), (159, .aload_n 0, 1), (160, .bipush 20, 2), (162, .newarray .int, 2), (164, .putfield 66, 3), (167, .aload_n 0, 1), (168, .bipush 20, 2), (170, .newarray .int, 2), (172, .putfield 69, 3), (175, .aload_n 0, 1), (176, .bipush 20, 2), (178, .newarray .int, 2), (180, .putfield 72, 3), (183, .aload_n 0, 1), (184, .bipush 20, 2), (186, .newarray .long, 2), (188, .putfield 75, 3)]
def T_120_3 : List (Nat × Instr × Nat) := [(191, .aload_n 0, 1), (192, .bipush 10, 2), (194, .newarray .int, 2), (196, .putfield 78, 3), (199, .aload_n 0, 1), (200, .bipush 80, 2), (202, .newarray .boolean, 2), (204, .putfield 81, 3), (207, .aload_n 0, 1), (208, .bipush 80, 2), (210, .newarray .int, 2), (212, .putfield 84, 3), (215, .aload_n 0, 1), (216, .bipush 80, 2), (218, .newarray .int, 2), (220, .putfield 87, 3), (223, .aload_n 0, 1), (224, .bipush 80, 2), (226, .newarray .int, 2), (228, .putfield 90, 3), (231, .aload_n 0, 1), (232, .bipush 80, 2), (234, .newarray .int, 2), (236, .putfield 93, 3), (239, .aload_n 0, 1), (240, .bipush 80, 2), (242, .newarray .int, 2), (244, .putfield 96, 3), (247, .aload_n 0, 1), (248, .bipush 20, 2)]
def T_120_4 : List (Nat × Instr × Nat) := [(250, .newarray .boolean, 2), (252, .putfield 99, 3), (255, .aload_n 0, 1), (256, .bipush 80, 2), (258, .newarray .int, 2), (260, .putfield 102, 3), (263, .aload_n 0, 1), (264, .iconst 1, 1), (265, .putfield 105, 3), (268, .aload_n 0, 1), (269, .getfield 45, 3), (272, .iconst 0, 1), (273, .iconst (-1), 1), (274, .iastore, 1), (275, .aload_n 0, 1), (276, .iconst (-1), 1), (277, .invokevirtual 109, 3), (280, .pop, 1), (281, .aload_n 0, 1), (282, .iconst 1, 1), (283, .putfield 113, 3), (286, .aload_n 0, 1), (287, .iconst 0, 1), (288, .iconst (-1), 1), (289, .iconst 0, 1), (290, .iconst 0, 1), (291, .iconst 0, 1), (292, .invokevirtual 116, 3), (295, .pop, 1), (296, .aload_n 0, 1)]
def T_120_5 : List (Nat × Instr × Nat) := [(297, .iconst 1, 1), (298, .putfield 120, 3), (301, .aload_n 0, 1), (302, .getfield 13, 3), (305, .iconst 0, 1), (306, .iconst (-1), 1), (307, .iastore, 1), (308, .aload_n 0, 1), (309, .getfield 51, 3), (312, .iconst 0, 1), (313, .iconst 1, 1), (314, .iastore, 1), (315, .aload_n 0, 1), (316, .getfield 42, 3), (319, .iconst 0, 1), (320, .iconst 1, 1), (321, .iastore, 1), (322, .return_, 1)]
def T_121_0 : List (Nat × Instr × Nat) := [(0, .aload_n 0, 1), (1, .getfield 123, 3), (4, .ireturn, 1)]
def T_122_0 : List (Nat × Instr × Nat) := [(0, .lload_n 0, 1), (1, .lload_n 2, 1), (2, .lcmp, 1), (3, .ifCond .lt 14, 3), (6, .lload_n 0, 1), (7, .lload 4, 2), (9, .lcmp, 1), (10, .ifCond .gt 7, 3), (13, .iconst 1, 1), (14, .goto 4, 3), (17, .iconst 0, 1), (18, .ireturn, 1)]
def T_123_0 : List (Nat × Instr × Nat) := [(0, .iload_n 1, 1), (1, .i2l, 1), (2, .lconst 0, 1), (3, .aload_n 0, 1), (4, .getfield 120, 3), (7, .iconst 1, 1), (8, .isub, 1), (9, .i2l, 1), (10, .invokestatic 126, 3), (13, .ireturn, 1)]
def T_124_0 : List (Nat × Instr × Nat) := [(0, .aload_n 0, 1), (1, .iload_n 1, 1), (2, .invokevirtual 130, 3), (5, .ifCond .eq 16, 3), (8, .aload_n 0, 1), (9, .getfield 7, 3), (12, .iload_n 1, 1), (13, .iaload, 1), (14, .ifCond .ne 7, 3), (17, .iconst 1, 1), (18, .goto 4, 3), (21, .iconst 0, 1), (22, .ireturn, 1)]
def T_125_0 : List (Nat × Instr × Nat) := [(0, .iload_n 1, 1), (1, .i2l, 1), (2, .lconst 0, 1), (3, .aload_n 0, 1), (4, .getfield 134, 3), (7, .iconst 1, 1), (8, .isub, 1), (9, .i2l, 1), (10, .invokestatic 126, 3), (13, .ireturn, 1)]
def T_126_0 : List (Nat × Instr × Nat) := [(0, .iload_n 1, 1), (1, .istore_n 3, 1), (2, .iload_n 3, 1), (3, .iconst (-1), 1), (4, .if_icmp .eq 18, 3), (7, .iload_n 3, 1), (8, .iload_n 2, 1), (9, .if_icmp .eq 13, 3), (12, .aload_n 0, 1), (13, .getfield 45, 3), (16, .iload_n 3, 1), (17, .iaload, 1), (18, .istore_n 3, 1), (19, .goto (-17), 3), (22, .iload_n 3, 1), (23, .iload_n 2, 1), (24, .if_icmp .ne 7, 3), (27, .iconst 1, 1), (28, .goto 4, 3), (31, .iconst 0, 1), (32, .ireturn, 1)]
def T_127_0 : List (Nat × Instr × Nat) := [(0, .iload_n 1, 1), (1, .istore_n 3, 1), (2, .iload_n 3, 1), (3, .iconst (-1), 1), (4, .if_icmp .eq 18, 3), (7, .iload_n 3, 1), (8, .iload_n 2, 1), (9, .if_icmp .eq 13, 3), (12, .aload_n 0, 1), (13, .getfield 54, 3), (16, .iload_n 3, 1), (17, .iaload, 1), (18, .istore_n 3, 1), (19, .goto (-17), 3), (22, .iload_n 3, 1), (23, .iload_n 2, 1), (24, .if_icmp .ne 7, 3), (27, .iconst 1, 1), (28, .goto 4, 3), (31, .iconst 0, 1), (32, .ireturn, 1)]
def T_128_0 : List (Nat × Instr × Nat) := [(0, .iconst 0, 1), (1, .istore_n 3, 1), (2, .iload_n 3, 1), (3, .aload_n 0, 1), (4, .getfield 120, 3), (7, .if_icmp .ge 36, 3), (10, .aload_n 0, 1), (11, .getfield 7, 3), (14, .iload_n 3, 1), (15, .iaload, 1), (16, .iconst 2, 1), (17, .if_icmp .eq 20, 3), (20, .aload_n 0, 1), (21, .getfield 42, 3), (24, .bipush 20, 2), (26, .iload_n 3, 1), (27, .imul, 1), (28, .iload_n 1, 1), (29, .iadd, 1), (30, .iaload, 1), (31, .iload_n 2, 1), (32, .if_icmp .ne 5, 3), (35, .iload_n 3, 1), (36, .ireturn, 1), (37, .iinc 3 1, 3), (40, .goto (-38), 3), (43, .iconst (-1), 1), (44, .ireturn, 1)]
def T_129_0 : List (Nat × Instr × Nat) := [(0, .aload_n 0, 1), (1, .getfield 51, 3), (4, .iload_n 1, 1), (5, .iaload, 1), (6, .istore_n 2, 1), (7, .iconst 0, 1), (8, .istore_n 3, 1), (9, .iload_n 3, 1), (10, .bipush 40, 2), (12, .if_icmp .ge 35, 3), (15, .iload_n 2, 1), (16, .bipush 40, 2), (18, .if_icmp .ne 7, 3), (21, .iconst 1, 1), (22, .goto 6, 3), (25, .iload_n 2, 1), (26, .iconst 1, 1), (27, .iadd, 1), (28, .istore_n 2, 1), (29, .aload_n 0, 1), (30, .iload_n 1, 1), (31, .iload_n 2, 1), (32, .invokevirtual 137, 3), (35, .iconst (-1), 1), (36, .if_icmp .ne 5, 3), (39, .iload_n 2, 1), (40, .ireturn, 1), (41, .iinc 3 1, 3), (44, .goto (-35), 3), (47, .iconst 0, 1)]
def T_129_1 : List (Nat × Instr × Nat) := [(48, .ireturn, 1)]
def T_130_0 : List (Nat × Instr × Nat) := [(0, .iconst 0, 1), (1, .istore_n 2, 1), (2, .aload_n 0, 1), (3, .getfield 45, 3), (6, .iload_n 1, 1), (7, .iaload, 1), (8, .istore_n 3, 1), (9, .iload_n 3, 1), (10, .iconst (-1), 1), (11, .if_icmp .eq 16, 3), (14, .iinc 2 1, 3), (17, .aload_n 0, 1), (18, .getfield 45, 3), (21, .iload_n 3, 1), (22, .iaload, 1), (23, .istore_n 3, 1), (24, .goto (-15), 3), (27, .iload_n 2, 1), (28, .ireturn, 1)]
def T_131_0 : List (Nat × Instr × Nat) := [(0, .iconst 0, 1), (1, .istore_n 1, 1), (2, .iconst 0, 1), (3, .istore_n 2, 1), (4, .iload_n 2, 1), (5, .bipush 80, 2), (7, .if_icmp .ge 26, 3), (10, .iload_n 1, 1), (11, .aload_n 0, 1), (12, .getfield 81, 3), (15, .iload_n 2, 1), (16, .baload, 1), (17, .ifCond .eq 7, 3), (20, .iconst 0, 1), (21, .goto 4, 3), (24, .iconst 1, 1), (25, .iadd, 1), (26, .istore_n 1, 1), (27, .iinc 2 1, 3), (30, .goto (-26), 3), (33, .iload_n 1, 1), (34, .ireturn, 1)]
def T_132_0 : List (Nat × Instr × Nat) := [(0, .iconst 0, 1), (1, .istore_n 2, 1), (2, .iconst 0, 1), (3, .istore_n 3, 1), (4, .iload_n 3, 1), (5, .bipush 80, 2), (7, .if_icmp .ge 36, 3), (10, .iload_n 2, 1), (11, .aload_n 0, 1), (12, .getfield 81, 3), (15, .iload_n 3, 1), (16, .baload, 1), (17, .ifCond .eq 17, 3), (20, .aload_n 0, 1), (21, .getfield 84, 3), (24, .iload_n 3, 1), (25, .iaload, 1), (26, .iload_n 1, 1), (27, .if_icmp .ne 7, 3), (30, .iconst 1, 1), (31, .goto 4, 3), (34, .iconst 0, 1), (35, .iadd, 1), (36, .istore_n 2, 1), (37, .iinc 3 1, 3), (40, .goto (-36), 3), (43, .iload_n 2, 1), (44, .ireturn, 1)]
def T_133_0 : List (Nat × Instr × Nat) := [(0, .aload_n 0, 1), (1, .iconst 0, 1), (2, .putfield 123, 3), (5, .aload_n 0, 1), (6, .iload_n 1, 1), (7, .invokevirtual 141, 3), (10, .ifCond .ne 5, 3), (13, .iconst (-1), 1), (14, .ireturn, 1), (15, .aload_n 0, 1), (16, .getfield 19, 3), (19, .iload_n 1, 1), (20, .iaload, 1), (21, .istore 4, 2), (23, .iload 4, 2), (25, .iconst (-1), 1), (26, .if_icmp .eq 34, 3), (29, .aload_n 0, 1), (30, .iload 4, 2), (32, .invokevirtual 144, 3), (35, .aload_n 0, 1), (36, .getfield 57, 3), (39, .iload 4, 2), (41, .iaload, 1), (42, .if_icmp .lt 6, 3), (45, .bipush (-3), 2), (47, .ireturn, 1), (48, .aload_n 0, 1), (49, .getfield 54, 3), (52, .iload 4, 2)]
def T_133_1 : List (Nat × Instr × Nat) := [(54, .iaload, 1), (55, .istore 4, 2), (57, .goto (-34), 3), (60, .aload_n 0, 1), (61, .getfield 16, 3), (64, .iload_n 1, 1), (65, .iaload, 1), (66, .istore 4, 2), (68, .aload_n 0, 1), (69, .getfield 120, 3), (72, .sipush 150, 3), (75, .if_icmp .eq 56, 3), (78, .iload_n 2, 1), (79, .ifCond .eq 22, 3), (82, .aload_n 0, 1), (83, .getfield 105, 3), (86, .bipush 20, 2), (88, .if_icmp .eq 43, 3), (91, .aload_n 0, 1), (92, .iload 4, 2), (94, .invokevirtual 147, 3), (97, .iconst 4, 1), (98, .if_icmp .ge 33, 3), (101, .iload_n 3, 1), (102, .ifCond .eq 32, 3), (105, .aload_n 0, 1), (106, .getfield 113, 3), (109, .bipush 10, 2), (111, .if_icmp .eq 20, 3), (114, .aload_n 0, 1)]
def T_133_2 : List (Nat × Instr × Nat) := [(115, .aload_n 0, 1), (116, .getfield 22, 3), (119, .iload_n 1, 1), (120, .iaload, 1), (121, .invokevirtual 150, 3), (124, .aload_n 0, 1), (125, .invokevirtual 153, 3), (128, .if_icmp .le 6, 3), (131, .bipush (-2), 2), (133, .ireturn, 1), (134, .iload 4, 2), (136, .istore 5, 2), (138, .iload 5, 2), (140, .iconst (-1), 1), (141, .if_icmp .eq 27, 3), (144, .aload_n 0, 1), (145, .iload 5, 2), (147, .invokevirtual 157, 3), (150, .ifCond .ne 6, 3), (153, .bipush (-2), 2), (155, .ireturn, 1), (156, .aload_n 0, 1), (157, .getfield 45, 3), (160, .iload 5, 2), (162, .iaload, 1), (163, .istore 5, 2), (165, .goto (-27), 3), (168, .aload_n 0, 1), (169, .dup, 1), (170, .getfield 120, 3)]
def T_133_3 : List (Nat × Instr × Nat) := [(173, .dup_x1, 1), (174, .iconst 1, 1), (175, .iadd, 1), (176, .putfield 120, 3), (179, .istore 5, 2), (181, .iload_n 2, 1), (182, .ifCond .eq 48, 3), (185, .aload_n 0, 1), (186, .getfield 45, 3), (189, .aload_n 0, 1), (190, .getfield 105, 3), (193, .iload 4, 2), (195, .iastore, 1), (196, .aload_n 0, 1), (197, .getfield 48, 3), (200, .aload_n 0, 1), (201, .getfield 105, 3), (204, .iload 5, 2), (206, .iastore, 1), (207, .aload_n 0, 1), (208, .getfield 51, 3), (211, .aload_n 0, 1), (212, .getfield 105, 3), (215, .iconst 0, 1), (216, .iastore, 1), (217, .aload_n 0, 1), (218, .dup, 1), (219, .getfield 105, 3), (222, .dup_x1, 1), (223, .iconst 1, 1)]
def T_133_4 : List (Nat × Instr × Nat) := [(224, .iadd, 1), (225, .putfield 105, 3), (228, .istore 4, 2), (230, .aload_n 0, 1), (231, .getfield 7, 3), (234, .iload 5, 2), (236, .iconst 2, 1), (237, .iastore, 1), (238, .iload 4, 2), (240, .istore 6, 2), (242, .iload 6, 2), (244, .iconst (-1), 1), (245, .if_icmp .eq 47, 3), (248, .aload_n 0, 1), (249, .iload 6, 2), (251, .invokevirtual 157, 3), (254, .istore 7, 2), (256, .aload_n 0, 1), (257, .getfield 51, 3), (260, .iload 6, 2), (262, .iload 7, 2), (264, .iastore, 1), (265, .aload_n 0, 1), (266, .getfield 42, 3), (269, .bipush 20, 2), (271, .iload 5, 2), (273, .imul, 1), (274, .iload 6, 2), (276, .iadd, 1), (277, .iload 7, 2)]
def T_133_5 : List (Nat × Instr × Nat) := [(279, .iastore, 1), (280, .aload_n 0, 1), (281, .getfield 45, 3), (284, .iload 6, 2), (286, .iaload, 1), (287, .istore 6, 2), (289, .goto (-47), 3), (292, .aload_n 0, 1), (293, .getfield 7, 3), (296, .iload 5, 2), (298, .iconst 0, 1), (299, .iastore, 1), (300, .aload_n 0, 1), (301, .getfield 13, 3), (304, .iload 5, 2), (306, .iload_n 1, 1), (307, .iastore, 1), (308, .aload_n 0, 1), (309, .getfield 16, 3), (312, .iload 5, 2), (314, .iload 4, 2), (316, .iastore, 1), (317, .aload_n 0, 1), (318, .getfield 19, 3), (321, .iload 5, 2), (323, .aload_n 0, 1), (324, .getfield 19, 3), (327, .iload_n 1, 1), (328, .iaload, 1), (329, .iastore, 1)]
def T_133_6 : List (Nat × Instr × Nat) := [(330, .aload_n 0, 1), (331, .getfield 22, 3), (334, .iload 5, 2), (336, .iload_n 3, 1), (337, .ifCond .eq 16, 3), (340, .aload_n 0, 1), (341, .aload_n 0, 1), (342, .getfield 22, 3), (345, .iload_n 1, 1), (346, .iaload, 1), (347, .invokevirtual 160, 3), (350, .goto 9, 3), (353, .aload_n 0, 1), (354, .getfield 22, 3), (357, .iload_n 1, 1), (358, .iaload, 1), (359, .iastore, 1), (360, .aload_n 0, 1), (361, .getfield 35, 3), (364, .iload 5, 2), (366, .lconst 0, 1), (367, .lastore, 1), (368, .aload_n 0, 1), (369, .iload 5, 2), (371, .iconst 0, 1), (372, .invokevirtual 163, 3), (375, .iload 5, 2), (377, .ireturn, 1)]
def T_134_0 : List (Nat × Instr × Nat) := [(0, .aload_n 0, 1), (1, .getfield 7, 3), (4, .iload_n 1, 1), (5, .iconst 2, 1), (6, .iastore, 1), (7, .aload_n 0, 1), (8, .getfield 13, 3), (11, .iload_n 1, 1), (12, .iconst (-1), 1), (13, .iastore, 1), (14, .iconst 0, 1), (15, .istore_n 2, 1), (16, .iload_n 2, 1), (17, .bipush 20, 2), (19, .if_icmp .ge 21, 3), (22, .aload_n 0, 1), (23, .getfield 42, 3), (26, .bipush 20, 2), (28, .iload_n 1, 1), (29, .imul, 1), (30, .iload_n 2, 1), (31, .iadd, 1), (32, .iconst 0, 1), (33, .iastore, 1), (34, .iinc 2 1, 3), (37, .goto (-21), 3), (40, .return_, 1)]
def T_135_0 : List (Nat × Instr × Nat) := [(0, .aload_n 0, 1), (1, .getfield 7, 3), (4, .iload_n 1, 1), (5, .iconst 1, 1), (6, .iastore, 1), (7, .aload_n 0, 1), (8, .getfield 25, 3), (11, .iload_n 1, 1), (12, .iconst 0, 1), (13, .iastore, 1), (14, .aload_n 0, 1), (15, .getfield 16, 3), (18, .iload_n 1, 1), (19, .iaload, 1), (20, .istore_n 2, 1), (21, .aload_n 0, 1), (22, .getfield 48, 3), (25, .iload_n 2, 1), (26, .iaload, 1), (27, .iload_n 1, 1), (28, .if_icmp .ne 17, 3), (31, .aload_n 0, 1), (32, .getfield 48, 3), (35, .aload_n 0, 1), (36, .getfield 45, 3), (39, .iload_n 2, 1), (40, .iaload, 1), (41, .iaload, 1), (42, .goto 9, 3), (45, .aload_n 0, 1)]
def T_135_1 : List (Nat × Instr × Nat) := [(46, .getfield 48, 3), (49, .iload_n 2, 1), (50, .iaload, 1), (51, .istore_n 3, 1), (52, .iconst 0, 1), (53, .istore 4, 2), (55, .iload 4, 2), (57, .aload_n 0, 1), (58, .getfield 120, 3), (61, .if_icmp .ge 39, 3), (64, .aload_n 0, 1), (65, .getfield 7, 3), (68, .iload 4, 2), (70, .iaload, 1), (71, .iconst 2, 1), (72, .if_icmp .eq 22, 3), (75, .aload_n 0, 1), (76, .getfield 13, 3), (79, .iload 4, 2), (81, .iaload, 1), (82, .iload_n 1, 1), (83, .if_icmp .ne 11, 3), (86, .aload_n 0, 1), (87, .getfield 13, 3), (90, .iload 4, 2), (92, .iload_n 3, 1), (93, .iastore, 1), (94, .iinc 4 1, 3), (97, .goto (-42), 3), (100, .return_, 1)]
def T_136_0 : List (Nat × Instr × Nat) := [(0, .iconst 1, 1), (1, .istore_n 2, 1), (2, .aload_n 0, 1), (3, .iload_n 1, 1), (4, .invokevirtual 167, 3), (7, .aload_n 0, 1), (8, .getfield 48, 3), (11, .aload_n 0, 1), (12, .getfield 16, 3), (15, .iload_n 1, 1), (16, .iaload, 1), (17, .iaload, 1), (18, .iload_n 1, 1), (19, .if_icmp .ne 128, 3), (22, .iconst 0, 1), (23, .istore_n 3, 1), (24, .iload_n 3, 1), (25, .aload_n 0, 1), (26, .getfield 120, 3), (29, .if_icmp .ge 63, 3), (32, .iload_n 3, 1), (33, .iload_n 1, 1), (34, .if_icmp .eq 52, 3), (37, .aload_n 0, 1), (38, .getfield 7, 3), (41, .iload_n 3, 1), (42, .iaload, 1), (43, .iconst 2, 1), (44, .if_icmp .eq 42, 3), (47, .aload_n 0, 1)]
def T_136_1 : List (Nat × Instr × Nat) := [(48, .aload_n 0, 1), (49, .getfield 16, 3), (52, .iload_n 3, 1), (53, .iaload, 1), (54, .aload_n 0, 1), (55, .getfield 16, 3), (58, .iload_n 1, 1), (59, .iaload, 1), (60, .invokevirtual 171, 3), (63, .ifCond .ne 6, 3), (66, .goto 20, 3), (69, .aload_n 0, 1), (70, .getfield 7, 3), (73, .iload_n 3, 1), (74, .iaload, 1), (75, .ifCond .ne 11, 3), (78, .aload_n 0, 1), (79, .iload_n 3, 1), (80, .invokevirtual 167, 3), (83, .iinc 2 1, 3), (86, .iinc 3 1, 3), (89, .goto (-65), 3), (92, .iconst 0, 1), (93, .istore_n 3, 1), (94, .iload_n 3, 1), (95, .aload_n 0, 1), (96, .getfield 120, 3), (99, .if_icmp .ge 48, 3), (102, .iload_n 3, 1), (103, .iload_n 1, 1)]
def T_136_2 : List (Nat × Instr × Nat) := [(104, .if_icmp .eq 37, 3), (107, .aload_n 0, 1), (108, .getfield 7, 3), (111, .iload_n 3, 1), (112, .iaload, 1), (113, .iconst 1, 1), (114, .if_icmp .ne 27, 3), (117, .aload_n 0, 1), (118, .aload_n 0, 1), (119, .getfield 16, 3), (122, .iload_n 3, 1), (123, .iaload, 1), (124, .aload_n 0, 1), (125, .getfield 16, 3), (128, .iload_n 1, 1), (129, .iaload, 1), (130, .invokevirtual 171, 3), (133, .ifCond .eq 8, 3), (136, .aload_n 0, 1), (137, .iload_n 3, 1), (138, .invokevirtual 175, 3), (141, .iinc 3 1, 3), (144, .goto (-50), 3), (147, .iconst 0, 1), (148, .istore_n 3, 1), (149, .iload_n 3, 1), (150, .aload_n 0, 1), (151, .getfield 120, 3), (154, .if_icmp .ge 50, 3), (157, .aload_n 0, 1)]
def T_136_3 : List (Nat × Instr × Nat) := [(158, .getfield 7, 3), (161, .iload_n 3, 1), (162, .iaload, 1), (163, .iconst 1, 1), (164, .if_icmp .eq 6, 3), (167, .goto 31, 3), (170, .aload_n 0, 1), (171, .getfield 13, 3), (174, .iload_n 3, 1), (175, .iaload, 1), (176, .istore 4, 2), (178, .iload 4, 2), (180, .ifCond .le 13, 3), (183, .aload_n 0, 1), (184, .getfield 7, 3), (187, .iload 4, 2), (189, .iaload, 1), (190, .ifCond .eq 8, 3), (193, .aload_n 0, 1), (194, .iload_n 3, 1), (195, .invokevirtual 175, 3), (198, .iinc 3 1, 3), (201, .goto (-52), 3), (204, .iload_n 2, 1), (205, .ireturn, 1)]
def T_137_0 : List (Nat × Instr × Nat) := [(0, .aload_n 0, 1), (1, .iconst 0, 1), (2, .putfield 123, 3), (5, .aload_n 0, 1), (6, .iload_n 1, 1), (7, .invokevirtual 141, 3), (10, .ifCond .eq 15, 3), (13, .iload_n 1, 1), (14, .ifCond .eq 11, 3), (17, .aload_n 0, 1), (18, .iload_n 1, 1), (19, .invokevirtual 178, 3), (22, .goto 4, 3), (25, .iconst (-1), 1), (26, .ireturn, 1)]
def T_138_0 : List (Nat × Instr × Nat) := [(0, .aload_n 0, 1), (1, .iconst 0, 1), (2, .putfield 123, 3), (5, .aload_n 0, 1), (6, .iload_n 1, 1), (7, .invokevirtual 141, 3), (10, .ifCond .ne 5, 3), (13, .iconst (-1), 1), (14, .ireturn, 1), (15, .iconst (-1), 1), (16, .istore_n 2, 1), (17, .aload_n 0, 1), (18, .getfield 16, 3), (21, .iload_n 1, 1), (22, .iaload, 1), (23, .istore_n 3, 1), (24, .iconst 0, 1), (25, .istore 4, 2), (27, .iload 4, 2), (29, .aload_n 0, 1), (30, .getfield 120, 3), (33, .if_icmp .ge 65, 3), (36, .aload_n 0, 1), (37, .getfield 7, 3), (40, .iload 4, 2), (42, .iaload, 1), (43, .iconst 1, 1), (44, .if_icmp .ne 48, 3), (47, .aload_n 0, 1), (48, .getfield 13, 3)]
def T_138_1 : List (Nat × Instr × Nat) := [(51, .iload 4, 2), (53, .iaload, 1), (54, .iload_n 1, 1), (55, .if_icmp .ne 37, 3), (58, .iload_n 2, 1), (59, .iconst (-1), 1), (60, .if_icmp .eq 29, 3), (63, .aload_n 0, 1), (64, .getfield 42, 3), (67, .bipush 20, 2), (69, .iload 4, 2), (71, .imul, 1), (72, .iload_n 3, 1), (73, .iadd, 1), (74, .iaload, 1), (75, .aload_n 0, 1), (76, .getfield 42, 3), (79, .bipush 20, 2), (81, .iload_n 2, 1), (82, .imul, 1), (83, .iload_n 3, 1), (84, .iadd, 1), (85, .iaload, 1), (86, .if_icmp .ge 6, 3), (89, .iload 4, 2), (91, .istore_n 2, 1), (92, .iinc 4 1, 3), (95, .goto (-68), 3), (98, .iload_n 2, 1), (99, .iconst (-1), 1)]
def T_138_2 : List (Nat × Instr × Nat) := [(100, .if_icmp .ne 5, 3), (103, .iconst 0, 1), (104, .ireturn, 1), (105, .aload_n 0, 1), (106, .getfield 42, 3), (109, .bipush 20, 2), (111, .iload_n 2, 1), (112, .imul, 1), (113, .iload_n 3, 1), (114, .iadd, 1), (115, .iaload, 1), (116, .istore 4, 2), (118, .aload_n 0, 1), (119, .iload_n 2, 1), (120, .invokevirtual 175, 3), (123, .iload 4, 2), (125, .ireturn, 1)]
def T_139_0 : List (Nat × Instr × Nat) := [(0, .aload_n 0, 1), (1, .iconst 0, 1), (2, .putfield 123, 3), (5, .aload_n 0, 1), (6, .iload_n 1, 1), (7, .invokevirtual 141, 3), (10, .ifCond .ne 5, 3), (13, .iconst (-1), 1), (14, .ireturn, 1), (15, .iload_n 2, 1), (16, .i2l, 1), (17, .lconst 1, 1), (18, .ldc2_w 181, 3), (21, .invokestatic 126, 3), (24, .ifCond .eq 17, 3), (27, .aload_n 0, 1), (28, .aload_n 0, 1), (29, .getfield 16, 3), (32, .iload_n 1, 1), (33, .iaload, 1), (34, .iload_n 2, 1), (35, .invokevirtual 137, 3), (38, .goto 4, 3), (41, .iconst (-1), 1), (42, .istore_n 3, 1), (43, .iload_n 3, 1), (44, .iconst (-1), 1), (45, .if_icmp .ne 5, 3), (48, .iconst (-1), 1), (49, .ireturn, 1)]
def T_139_1 : List (Nat × Instr × Nat) := [(50, .aload_n 0, 1), (51, .getfield 7, 3), (54, .iload_n 3, 1), (55, .iaload, 1), (56, .ifCond .ne 22, 3), (59, .iload_n 3, 1), (60, .ifCond .eq 18, 3), (63, .iload_n 3, 1), (64, .aload_n 0, 1), (65, .getfield 48, 3), (68, .aload_n 0, 1), (69, .getfield 16, 3), (72, .iload_n 1, 1), (73, .iaload, 1), (74, .iaload, 1), (75, .if_icmp .ne 7, 3), (78, .iconst 0, 1), (79, .goto 8, 3), (82, .aload_n 0, 1), (83, .iload_n 3, 1), (84, .invokevirtual 178, 3), (87, .ireturn, 1)]
def T_140_0 : List (Nat × Instr × Nat) := [(0, .aload_n 0, 1), (1, .iload_n 2, 1), (2, .i2l, 1), (3, .lconst 0, 1), (4, .aload_n 0, 1), (5, .getfield 105, 3), (8, .iconst 1, 1), (9, .isub, 1), (10, .i2l, 1), (11, .invokestatic 126, 3), (14, .ifCond .eq 7, 3), (17, .iconst 0, 1), (18, .goto 4, 3), (21, .iconst 1, 1), (22, .putfield 123, 3), (25, .aload_n 0, 1), (26, .getfield 123, 3), (29, .ifCond .le 7, 3), (32, .iconst 0, 1), (33, .goto 26, 3), (36, .aload_n 0, 1), (37, .iload_n 1, 1), (38, .invokevirtual 130, 3), (41, .ifCond .eq 17, 3), (44, .aload_n 0, 1), (45, .getfield 42, 3), (48, .bipush 20, 2), (50, .iload_n 1, 1), (51, .imul, 1), (52, .iload_n 2, 1)]
def T_140_1 : List (Nat × Instr × Nat) := [(53, .iadd, 1), (54, .iaload, 1), (55, .goto 4, 3), (58, .iconst (-1), 1), (59, .ireturn, 1)]
def T_141_0 : List (Nat × Instr × Nat) := [(0, .aload_n 0, 1), (1, .iload_n 1, 1), (2, .i2l, 1), (3, .lconst 0, 1), (4, .aload_n 0, 1), (5, .getfield 105, 3), (8, .iconst 1, 1), (9, .isub, 1), (10, .i2l, 1), (11, .invokestatic 126, 3), (14, .ifCond .eq 7, 3), (17, .iconst 0, 1), (18, .goto 4, 3), (21, .iconst 1, 1), (22, .putfield 123, 3), (25, .aload_n 0, 1), (26, .getfield 123, 3), (29, .ifCond .le 7, 3), (32, .iconst 0, 1), (33, .goto 25, 3), (36, .iload_n 2, 1), (37, .i2l, 1), (38, .lconst 1, 1), (39, .ldc2_w 181, 3), (42, .invokestatic 126, 3), (45, .ifCond .eq 12, 3), (48, .aload_n 0, 1), (49, .iload_n 1, 1), (50, .iload_n 2, 1), (51, .invokevirtual 137, 3)]
def T_141_1 : List (Nat × Instr × Nat) := [(54, .goto 4, 3), (57, .iconst (-1), 1), (58, .ireturn, 1)]
def T_142_0 : List (Nat × Instr × Nat) := [(0, .aload_n 0, 1), (1, .iload_n 2, 1), (2, .i2l, 1), (3, .lconst 0, 1), (4, .ldc2_w 183, 3), (7, .invokestatic 126, 3), (10, .ifCond .eq 7, 3), (13, .iconst 0, 1), (14, .goto 4, 3), (17, .iconst 1, 1), (18, .putfield 123, 3), (21, .aload_n 0, 1), (22, .getfield 123, 3), (25, .ifCond .le 5, 3), (28, .iconst 0, 1), (29, .ireturn, 1), (30, .aload_n 0, 1), (31, .iload_n 1, 1), (32, .invokevirtual 130, 3), (35, .ifCond .ne 5, 3), (38, .iconst (-1), 1), (39, .ireturn, 1), (40, .iload_n 2, 1), (41, .tableswitch 92 0 6 #[43, 50, 57, 64, 71, 78, 85], 43), (84, .aload_n 0, 1), (85, .getfield 7, 3), (88, .iload_n 1, 1), (89, .iaload, 1), (90, .ireturn, 1), (91, .aload_n 0, 1)]
def T_142_1 : List (Nat × Instr × Nat) := [(92, .getfield 13, 3), (95, .iload_n 1, 1), (96, .iaload, 1), (97, .ireturn, 1), (98, .aload_n 0, 1), (99, .getfield 16, 3), (102, .iload_n 1, 1), (103, .iaload, 1), (104, .ireturn, 1), (105, .aload_n 0, 1), (106, .getfield 19, 3), (109, .iload_n 1, 1), (110, .iaload, 1), (111, .ireturn, 1), (112, .aload_n 0, 1), (113, .getfield 22, 3), (116, .iload_n 1, 1), (117, .iaload, 1), (118, .ireturn, 1), (119, .aload_n 0, 1), (120, .getfield 25, 3), (123, .iload_n 1, 1), (124, .iaload, 1), (125, .ireturn, 1), (126, .aload_n 0, 1), (127, .getfield 28, 3), (130, .iload_n 1, 1), (131, .iaload, 1), (132, .ireturn, 1), (133, .aload_n 0, 1)]
def T_142_2 : List (Nat × Instr × Nat) := [(134, .getfield 31, 3), (137, .iload_n 1, 1), (138, .baload, 1), (139, .ifCond .eq 7, 3), (142, .iconst 1, 1), (143, .goto 4, 3), (146, .iconst 0, 1), (147, .ireturn, 1)]
def T_143_0 : List (Nat × Instr × Nat) := [(0, .aload_n 0, 1), (1, .iload_n 1, 1), (2, .i2l, 1), (3, .lconst 0, 1), (4, .ldc2_w 185, 3), (7, .invokestatic 126, 3), (10, .ifCond .eq 7, 3), (13, .iconst 0, 1), (14, .goto 4, 3), (17, .iconst 1, 1), (18, .putfield 123, 3), (21, .iconst 0, 1), (22, .istore_n 2, 1), (23, .iload_n 1, 1), (24, .tableswitch 128 0 8 #[52, 57, 57, 95, 100, 105, 110, 118, 123], 52), (76, .aload_n 0, 1), (77, .getfield 120, 3), (80, .ireturn, 1), (81, .iconst 0, 1), (82, .istore_n 3, 1), (83, .iload_n 3, 1), (84, .aload_n 0, 1), (85, .getfield 120, 3), (88, .if_icmp .ge 29, 3), (91, .iload_n 2, 1), (92, .aload_n 0, 1), (93, .getfield 7, 3), (96, .iload_n 3, 1), (97, .iaload, 1), (98, .iload_n 1, 1)]
def T_143_1 : List (Nat × Instr × Nat) := [(99, .iconst 1, 1), (100, .isub, 1), (101, .if_icmp .ne 7, 3), (104, .iconst 1, 1), (105, .goto 4, 3), (108, .iconst 0, 1), (109, .iadd, 1), (110, .istore_n 2, 1), (111, .iinc 3 1, 3), (114, .goto (-31), 3), (117, .iload_n 2, 1), (118, .ireturn, 1), (119, .aload_n 0, 1), (120, .getfield 105, 3), (123, .ireturn, 1), (124, .aload_n 0, 1), (125, .getfield 134, 3), (128, .ireturn, 1), (129, .aload_n 0, 1), (130, .getfield 113, 3), (133, .ireturn, 1), (134, .bipush 80, 2), (136, .aload_n 0, 1), (137, .invokevirtual 153, 3), (140, .isub, 1), (141, .ireturn, 1), (142, .aload_n 0, 1), (143, .getfield 187, 3), (146, .ireturn, 1), (147, .aload_n 0, 1)]
def T_143_2 : List (Nat × Instr × Nat) := [(148, .getfield 190, 3), (151, .ireturn, 1), (152, .iconst 0, 1), (153, .ireturn, 1)]
def T_144_0 : List (Nat × Instr × Nat) := [(0, .aload_n 0, 1), (1, .dup, 1), (2, .getfield 134, 3), (5, .dup_x1, 1), (6, .iconst 1, 1), (7, .iadd, 1), (8, .putfield 134, 3), (11, .istore_n 2, 1), (12, .aload_n 0, 1), (13, .getfield 54, 3), (16, .iload_n 2, 1), (17, .iload_n 1, 1), (18, .iastore, 1), (19, .aload_n 0, 1), (20, .getfield 60, 3), (23, .iload_n 2, 1), (24, .ldc 193, 2), (26, .iastore, 1), (27, .aload_n 0, 1), (28, .getfield 57, 3), (31, .iload_n 2, 1), (32, .sipush 150, 3), (35, .iastore, 1), (36, .aload_n 0, 1), (37, .getfield 63, 3), (40, .iload_n 2, 1), (41, .bipush 100, 2), (43, .iastore, 1), (44, .aload_n 0, 1), (45, .getfield 75, 3)]
def T_144_1 : List (Nat × Instr × Nat) := [(48, .iload_n 2, 1), (49, .lconst 0, 1), (50, .lastore, 1), (51, .iload_n 2, 1), (52, .ireturn, 1)]
def T_145_0 : List (Nat × Instr × Nat) := [(0, .iconst 0, 1), (1, .istore_n 2, 1), (2, .iconst 0, 1), (3, .istore_n 3, 1), (4, .iload_n 3, 1), (5, .aload_n 0, 1), (6, .getfield 120, 3), (9, .if_icmp .ge 40, 3), (12, .iload_n 2, 1), (13, .aload_n 0, 1), (14, .getfield 7, 3), (17, .iload_n 3, 1), (18, .iaload, 1), (19, .ifCond .ne 21, 3), (22, .aload_n 0, 1), (23, .aload_n 0, 1), (24, .getfield 19, 3), (27, .iload_n 3, 1), (28, .iaload, 1), (29, .iload_n 1, 1), (30, .invokevirtual 194, 3), (33, .ifCond .eq 7, 3), (36, .iconst 1, 1), (37, .goto 4, 3), (40, .iconst 0, 1), (41, .iadd, 1), (42, .istore_n 2, 1), (43, .iinc 3 1, 3), (46, .goto (-42), 3), (49, .iload_n 2, 1)]
def T_145_1 : List (Nat × Instr × Nat) := [(50, .ireturn, 1)]
def T_146_0 : List (Nat × Instr × Nat) := [(0, .iconst 0, 1), (1, .istore_n 2, 1), (2, .iconst 0, 1), (3, .istore_n 3, 1), (4, .iload_n 3, 1), (5, .aload_n 0, 1), (6, .getfield 120, 3), (9, .if_icmp .ge 45, 3), (12, .iload_n 2, 1), (13, .aload_n 0, 1), (14, .getfield 7, 3), (17, .iload_n 3, 1), (18, .iaload, 1), (19, .ifCond .ne 26, 3), (22, .aload_n 0, 1), (23, .aload_n 0, 1), (24, .getfield 19, 3), (27, .iload_n 3, 1), (28, .iaload, 1), (29, .iload_n 1, 1), (30, .invokevirtual 194, 3), (33, .ifCond .eq 12, 3), (36, .aload_n 0, 1), (37, .getfield 25, 3), (40, .iload_n 3, 1), (41, .iaload, 1), (42, .goto 4, 3), (45, .iconst 0, 1), (46, .iadd, 1), (47, .istore_n 2, 1)]
def T_146_1 : List (Nat × Instr × Nat) := [(48, .iinc 3 1, 3), (51, .goto (-47), 3), (54, .iconst 0, 1), (55, .istore_n 3, 1), (56, .iload_n 3, 1), (57, .aload_n 0, 1), (58, .getfield 134, 3), (61, .if_icmp .ge 31, 3), (64, .iload_n 2, 1), (65, .aload_n 0, 1), (66, .iload_n 3, 1), (67, .iload_n 1, 1), (68, .invokevirtual 194, 3), (71, .ifCond .eq 12, 3), (74, .aload_n 0, 1), (75, .getfield 69, 3), (78, .iload_n 3, 1), (79, .iaload, 1), (80, .goto 4, 3), (83, .iconst 0, 1), (84, .iadd, 1), (85, .istore_n 2, 1), (86, .iinc 3 1, 3), (89, .goto (-33), 3), (92, .iload_n 2, 1), (93, .ireturn, 1)]
def T_147_0 : List (Nat × Instr × Nat) := [(0, .aload_n 0, 1), (1, .iconst 0, 1), (2, .putfield 123, 3), (5, .aload_n 0, 1), (6, .iload_n 1, 1), (7, .invokevirtual 197, 3), (10, .ifCond .ne 5, 3), (13, .iconst (-1), 1), (14, .ireturn, 1), (15, .iconst 1, 1), (16, .istore_n 2, 1), (17, .aload_n 0, 1), (18, .getfield 54, 3), (21, .iload_n 1, 1), (22, .iaload, 1), (23, .istore_n 3, 1), (24, .iload_n 3, 1), (25, .iconst (-1), 1), (26, .if_icmp .eq 16, 3), (29, .iinc 2 1, 3), (32, .aload_n 0, 1), (33, .getfield 54, 3), (36, .iload_n 3, 1), (37, .iaload, 1), (38, .istore_n 3, 1), (39, .goto (-15), 3), (42, .aload_n 0, 1), (43, .getfield 134, 3), (46, .bipush 20, 2), (48, .if_icmp .eq 8, 3)]
def T_147_1 : List (Nat × Instr × Nat) := [(51, .iload_n 2, 1), (52, .iconst 5, 1), (53, .if_icmp .le 6, 3), (56, .bipush (-2), 2), (58, .ireturn, 1), (59, .aload_n 0, 1), (60, .iload_n 1, 1), (61, .invokevirtual 109, 3), (64, .istore_n 3, 1), (65, .aload_n 0, 1), (66, .iload_n 1, 1), (67, .iconst 1, 1), (68, .iload_n 3, 1), (69, .invokevirtual 200, 3), (72, .lstore 4, 2), (74, .lload 4, 2), (76, .lconst 0, 1), (77, .lcmp, 1), (78, .ifCond .le 11, 3), (81, .aload_n 0, 1), (82, .getfield 75, 3), (85, .iload_n 3, 1), (86, .lload 4, 2), (88, .lastore, 1), (89, .iload_n 3, 1), (90, .ireturn, 1)]
def T_148_0 : List (Nat × Instr × Nat) := [(0, .iload_n 2, 1), (1, .ifCond .ne 15, 3), (4, .iload_n 3, 1), (5, .i2l, 1), (6, .lconst 0, 1), (7, .ldc2_w 204, 3), (10, .invokestatic 126, 3), (13, .goto 46, 3), (16, .iload_n 2, 1), (17, .iconst 1, 1), (18, .if_icmp .ne 15, 3), (21, .iload_n 3, 1), (22, .i2l, 1), (23, .lconst 0, 1), (24, .ldc2_w 206, 3), (27, .invokestatic 126, 3), (30, .goto 29, 3), (33, .iload_n 2, 1), (34, .iconst 2, 1), (35, .if_icmp .ne 15, 3), (38, .iload_n 3, 1), (39, .i2l, 1), (40, .lconst 1, 1), (41, .ldc2_w 208, 3), (44, .invokestatic 126, 3), (47, .goto 12, 3), (50, .iload_n 3, 1), (51, .i2l, 1), (52, .lconst 0, 1), (53, .ldc2_w 210, 3)]
def T_148_1 : List (Nat × Instr × Nat) := [(56, .invokestatic 126, 3), (59, .istore 4, 2), (61, .aload_n 0, 1), (62, .iload_n 2, 1), (63, .i2l, 1), (64, .lconst 0, 1), (65, .ldc2_w 212, 3), (68, .invokestatic 126, 3), (71, .ifCond .ne 7, 3), (74, .iconst 1, 1), (75, .goto 13, 3), (78, .iload 4, 2), (80, .ifCond .ne 7, 3), (83, .iconst 2, 1), (84, .goto 4, 3), (87, .iconst 0, 1), (88, .putfield 123, 3), (91, .aload_n 0, 1), (92, .getfield 123, 3), (95, .ifCond .le 5, 3), (98, .iconst 0, 1), (99, .ireturn, 1), (100, .aload_n 0, 1), (101, .iload_n 1, 1), (102, .invokevirtual 197, 3), (105, .ifCond .ne 5, 3), (108, .iconst (-1), 1), (109, .ireturn, 1), (110, .iload_n 2, 1), (111, .ifCond .ne 12, 3)]
def T_148_2 : List (Nat × Instr × Nat) := [(114, .aload_n 0, 1), (115, .iload_n 1, 1), (116, .invokevirtual 214, 3), (119, .iload_n 3, 1), (120, .if_icmp .gt 17, 3), (123, .iload_n 2, 1), (124, .iconst 1, 1), (125, .if_icmp .ne 15, 3), (128, .aload_n 0, 1), (129, .iload_n 1, 1), (130, .invokevirtual 144, 3), (133, .iload_n 3, 1), (134, .if_icmp .le 6, 3), (137, .bipush (-3), 2), (139, .ireturn, 1), (140, .iload_n 2, 1), (141, .ifCond .ne 12, 3), (144, .aload_n 0, 1), (145, .getfield 60, 3), (148, .iload_n 1, 1), (149, .iaload, 1), (150, .goto 37, 3), (153, .iload_n 2, 1), (154, .iconst 1, 1), (155, .if_icmp .ne 12, 3), (158, .aload_n 0, 1), (159, .getfield 57, 3), (162, .iload_n 1, 1), (163, .iaload, 1), (164, .goto 23, 3)]
def T_148_3 : List (Nat × Instr × Nat) := [(167, .iload_n 2, 1), (168, .iconst 2, 1), (169, .if_icmp .ne 12, 3), (172, .aload_n 0, 1), (173, .getfield 63, 3), (176, .iload_n 1, 1), (177, .iaload, 1), (178, .goto 9, 3), (181, .aload_n 0, 1), (182, .getfield 66, 3), (185, .iload_n 1, 1), (186, .iaload, 1), (187, .istore 5, 2), (189, .iload_n 2, 1), (190, .ifCond .ne 13, 3), (193, .aload_n 0, 1), (194, .getfield 60, 3), (197, .iload_n 1, 1), (198, .iload_n 3, 1), (199, .iastore, 1), (200, .goto 40, 3), (203, .iload_n 2, 1), (204, .iconst 1, 1), (205, .if_icmp .ne 13, 3), (208, .aload_n 0, 1), (209, .getfield 57, 3), (212, .iload_n 1, 1), (213, .iload_n 3, 1), (214, .iastore, 1), (215, .goto 25, 3)]
def T_148_4 : List (Nat × Instr × Nat) := [(218, .iload_n 2, 1), (219, .iconst 2, 1), (220, .if_icmp .ne 13, 3), (223, .aload_n 0, 1), (224, .getfield 63, 3), (227, .iload_n 1, 1), (228, .iload_n 3, 1), (229, .iastore, 1), (230, .goto 10, 3), (233, .aload_n 0, 1), (234, .getfield 66, 3), (237, .iload_n 1, 1), (238, .iload_n 3, 1), (239, .iastore, 1), (240, .iload 5, 2), (242, .ireturn, 1)]
def T_149_0 : List (Nat × Instr × Nat) := [(0, .aload_n 0, 1), (1, .iload_n 2, 1), (2, .i2l, 1), (3, .lconst 0, 1), (4, .ldc2_w 185, 3), (7, .invokestatic 126, 3), (10, .ifCond .eq 7, 3), (13, .iconst 0, 1), (14, .goto 4, 3), (17, .iconst 1, 1), (18, .putfield 123, 3), (21, .aload_n 0, 1), (22, .getfield 123, 3), (25, .ifCond .le 5, 3), (28, .iconst 0, 1), (29, .ireturn, 1), (30, .aload_n 0, 1), (31, .iload_n 1, 1), (32, .invokevirtual 197, 3), (35, .ifCond .ne 5, 3), (38, .iconst (-1), 1), (39, .ireturn, 1), (40, .iload_n 2, 1), (41, .tableswitch 101 0 7 #[47, 53, 59, 66, 73, 80, 87, 94], 47), (88, .aload_n 0, 1), (89, .iload_n 1, 1), (90, .invokevirtual 214, 3), (93, .ireturn, 1), (94, .aload_n 0, 1), (95, .iload_n 1, 1)]
def T_149_1 : List (Nat × Instr × Nat) := [(96, .invokevirtual 144, 3), (99, .ireturn, 1), (100, .aload_n 0, 1), (101, .getfield 69, 3), (104, .iload_n 1, 1), (105, .iaload, 1), (106, .ireturn, 1), (107, .aload_n 0, 1), (108, .getfield 60, 3), (111, .iload_n 1, 1), (112, .iaload, 1), (113, .ireturn, 1), (114, .aload_n 0, 1), (115, .getfield 57, 3), (118, .iload_n 1, 1), (119, .iaload, 1), (120, .ireturn, 1), (121, .aload_n 0, 1), (122, .getfield 63, 3), (125, .iload_n 1, 1), (126, .iaload, 1), (127, .ireturn, 1), (128, .aload_n 0, 1), (129, .getfield 66, 3), (132, .iload_n 1, 1), (133, .iaload, 1), (134, .ireturn, 1), (135, .aload_n 0, 1), (136, .getfield 72, 3), (139, .iload_n 1, 1)]
def T_149_2 : List (Nat × Instr × Nat) := [(140, .iaload, 1), (141, .ireturn, 1), (142, .aload_n 0, 1), (143, .getfield 54, 3), (146, .iload_n 1, 1), (147, .iaload, 1), (148, .ireturn, 1)]
def T_150_0 : List (Nat × Instr × Nat) := [(0, .iload_n 1, 1), (1, .istore_n 3, 1), (2, .iload_n 3, 1), (3, .iconst (-1), 1), (4, .if_icmp .eq 29, 3), (7, .aload_n 0, 1), (8, .iload_n 3, 1), (9, .invokevirtual 214, 3), (12, .iload_n 2, 1), (13, .iadd, 1), (14, .aload_n 0, 1), (15, .getfield 60, 3), (18, .iload_n 3, 1), (19, .iaload, 1), (20, .if_icmp .gt 13, 3), (23, .aload_n 0, 1), (24, .getfield 54, 3), (27, .iload_n 3, 1), (28, .iaload, 1), (29, .istore_n 3, 1), (30, .goto (-28), 3), (33, .iload_n 3, 1), (34, .ireturn, 1)]
def T_151_0 : List (Nat × Instr × Nat) := [(0, .aload_n 0, 1), (1, .iload_n 1, 1), (2, .invokevirtual 214, 3), (5, .iload_n 2, 1), (6, .iadd, 1), (7, .aload_n 0, 1), (8, .getfield 60, 3), (11, .iload_n 1, 1), (12, .iaload, 1), (13, .isub, 1), (14, .istore_n 3, 1), (15, .iload_n 3, 1), (16, .ifCond .le 122, 3), (19, .iconst (-1), 1), (20, .istore 4, 2), (22, .iconst 0, 1), (23, .istore 5, 2), (25, .iload 5, 2), (27, .aload_n 0, 1), (28, .getfield 134, 3), (31, .if_icmp .ge 56, 3), (34, .aload_n 0, 1), (35, .iload 5, 2), (37, .iload_n 1, 1), (38, .invokevirtual 194, 3), (41, .ifCond .eq 40, 3), (44, .aload_n 0, 1), (45, .getfield 69, 3), (48, .iload 5, 2), (50, .iaload, 1)]
def T_151_1 : List (Nat × Instr × Nat) := [(51, .ifCond .le 30, 3), (54, .iload 4, 2), (56, .iconst (-1), 1), (57, .if_icmp .eq 20, 3), (60, .aload_n 0, 1), (61, .getfield 69, 3), (64, .iload 5, 2), (66, .iaload, 1), (67, .aload_n 0, 1), (68, .getfield 69, 3), (71, .iload 4, 2), (73, .iaload, 1), (74, .if_icmp .le 7, 3), (77, .iload 5, 2), (79, .istore 4, 2), (81, .iinc 5 1, 3), (84, .goto (-59), 3), (87, .iload 4, 2), (89, .iconst (-1), 1), (90, .if_icmp .ne 4, 3), (93, .return_, 1), (94, .aload_n 0, 1), (95, .getfield 69, 3), (98, .iload 4, 2), (100, .iaload, 1), (101, .iload_n 3, 1), (102, .if_icmp .ge 13, 3), (105, .aload_n 0, 1), (106, .getfield 69, 3), (109, .iload 4, 2)]
def T_151_2 : List (Nat × Instr × Nat) := [(111, .iaload, 1), (112, .goto 4, 3), (115, .iload_n 3, 1), (116, .istore 5, 2), (118, .aload_n 0, 1), (119, .getfield 69, 3), (122, .iload 4, 2), (124, .dup2, 1), (125, .iaload, 1), (126, .iload 5, 2), (128, .isub, 1), (129, .iastore, 1), (130, .iload_n 3, 1), (131, .iload 5, 2), (133, .isub, 1), (134, .istore_n 3, 1), (135, .goto (-120), 3), (138, .return_, 1)]
def T_152_0 : List (Nat × Instr × Nat) := [(0, .iconst (-1), 1), (1, .istore_n 2, 1), (2, .iconst 1, 1), (3, .istore_n 3, 1), (4, .iload_n 3, 1), (5, .aload_n 0, 1), (6, .getfield 120, 3), (9, .if_icmp .ge 88, 3), (12, .aload_n 0, 1), (13, .getfield 7, 3), (16, .iload_n 3, 1), (17, .iaload, 1), (18, .ifCond .ne 73, 3), (21, .aload_n 0, 1), (22, .getfield 28, 3), (25, .iload_n 3, 1), (26, .iaload, 1), (27, .bipush (-10), 2), (29, .if_icmp .eq 62, 3), (32, .aload_n 0, 1), (33, .aload_n 0, 1), (34, .getfield 19, 3), (37, .iload_n 3, 1), (38, .iaload, 1), (39, .iload_n 1, 1), (40, .invokevirtual 194, 3), (43, .ifCond .ne 6, 3), (46, .goto 45, 3), (49, .iload_n 2, 1), (50, .iconst (-1), 1)]
def T_152_1 : List (Nat × Instr × Nat) := [(51, .if_icmp .eq 38, 3), (54, .aload_n 0, 1), (55, .getfield 25, 3), (58, .iload_n 3, 1), (59, .iaload, 1), (60, .bipush 100, 2), (62, .aload_n 0, 1), (63, .getfield 28, 3), (66, .iload_n 3, 1), (67, .iaload, 1), (68, .imul, 1), (69, .iadd, 1), (70, .aload_n 0, 1), (71, .getfield 25, 3), (74, .iload_n 2, 1), (75, .iaload, 1), (76, .bipush 100, 2), (78, .aload_n 0, 1), (79, .getfield 28, 3), (82, .iload_n 2, 1), (83, .iaload, 1), (84, .imul, 1), (85, .iadd, 1), (86, .if_icmp .lt 5, 3), (89, .iload_n 3, 1), (90, .istore_n 2, 1), (91, .iinc 3 1, 3), (94, .goto (-90), 3), (97, .iload_n 2, 1), (98, .ireturn, 1)]
def T_153_0 : List (Nat × Instr × Nat) := [(0, .aload_n 0, 1), (1, .getfield 19, 3), (4, .iload_n 1, 1), (5, .iaload, 1), (6, .istore_n 3, 1), (7, .aload_n 0, 1), (8, .iload_n 3, 1), (9, .iload_n 2, 1), (10, .invokevirtual 217, 3), (13, .istore 4, 2), (15, .iload 4, 2), (17, .iconst (-1), 1), (18, .if_icmp .eq 89, 3), (21, .aload_n 0, 1), (22, .iload 4, 2), (24, .iload_n 2, 1), (25, .invokevirtual 220, 3), (28, .aload_n 0, 1), (29, .iload 4, 2), (31, .invokevirtual 214, 3), (34, .iload_n 2, 1), (35, .iadd, 1), (36, .aload_n 0, 1), (37, .getfield 60, 3), (40, .iload 4, 2), (42, .iaload, 1), (43, .if_icmp .le 53, 3), (46, .aload_n 0, 1), (47, .iload 4, 2), (49, .invokevirtual 224, 3)]
def T_153_1 : List (Nat × Instr × Nat) := [(52, .istore 5, 2), (54, .iload 5, 2), (56, .iconst (-1), 1), (57, .if_icmp .ne 6, 3), (60, .bipush (-3), 2), (62, .ireturn, 1), (63, .aload_n 0, 1), (64, .dup, 1), (65, .getfield 190, 3), (68, .iconst 1, 1), (69, .iadd, 1), (70, .putfield 190, 3), (73, .aload_n 0, 1), (74, .iload 5, 2), (76, .invokevirtual 178, 3), (79, .istore 6, 2), (81, .aload_n 0, 1), (82, .getfield 7, 3), (85, .iload_n 1, 1), (86, .iaload, 1), (87, .ifCond .eq 6, 3), (90, .bipush (-5), 2), (92, .ireturn, 1), (93, .goto (-65), 3), (96, .aload_n 0, 1), (97, .iload_n 3, 1), (98, .iload_n 2, 1), (99, .invokevirtual 217, 3), (102, .istore 4, 2), (104, .goto (-89), 3)]
def T_153_2 : List (Nat × Instr × Nat) := [(107, .iconst 0, 1), (108, .ireturn, 1)]
def T_154_0 : List (Nat × Instr × Nat) := [(0, .aload_n 0, 1), (1, .iload_n 2, 1), (2, .i2l, 1), (3, .lconst 0, 1), (4, .ldc2_w 204, 3), (7, .invokestatic 126, 3), (10, .ifCond .eq 7, 3), (13, .iconst 0, 1), (14, .goto 4, 3), (17, .iconst 1, 1), (18, .putfield 123, 3), (21, .aload_n 0, 1), (22, .getfield 123, 3), (25, .ifCond .le 5, 3), (28, .iconst 0, 1), (29, .ireturn, 1), (30, .aload_n 0, 1), (31, .iload_n 1, 1), (32, .invokevirtual 141, 3), (35, .ifCond .ne 5, 3), (38, .iconst (-1), 1), (39, .ireturn, 1), (40, .aload_n 0, 1), (41, .iload_n 1, 1), (42, .iload_n 2, 1), (43, .invokevirtual 227, 3), (46, .istore_n 3, 1), (47, .iload_n 3, 1), (48, .ifCond .ge 5, 3), (51, .iload_n 3, 1)]
def T_154_1 : List (Nat × Instr × Nat) := [(52, .ireturn, 1), (53, .aload_n 0, 1), (54, .getfield 25, 3), (57, .iload_n 1, 1), (58, .dup2, 1), (59, .iaload, 1), (60, .iload_n 2, 1), (61, .iadd, 1), (62, .iastore, 1), (63, .aload_n 0, 1), (64, .getfield 25, 3), (67, .iload_n 1, 1), (68, .iaload, 1), (69, .ireturn, 1)]
def T_155_0 : List (Nat × Instr × Nat) := [(0, .aload_n 0, 1), (1, .iload_n 2, 1), (2, .ifCond .lt 7, 3), (5, .iconst 0, 1), (6, .goto 4, 3), (9, .iconst 1, 1), (10, .putfield 123, 3), (13, .aload_n 0, 1), (14, .getfield 123, 3), (17, .ifCond .le 5, 3), (20, .iconst 0, 1), (21, .ireturn, 1), (22, .aload_n 0, 1), (23, .iload_n 1, 1), (24, .invokevirtual 141, 3), (27, .ifCond .ne 5, 3), (30, .iconst (-1), 1), (31, .ireturn, 1), (32, .aload_n 0, 1), (33, .getfield 25, 3), (36, .iload_n 1, 1), (37, .iaload, 1), (38, .iload_n 2, 1), (39, .if_icmp .ge 6, 3), (42, .bipush (-3), 2), (44, .ireturn, 1), (45, .aload_n 0, 1), (46, .getfield 25, 3), (49, .iload_n 1, 1), (50, .dup2, 1)]
def T_155_1 : List (Nat × Instr × Nat) := [(51, .iaload, 1), (52, .iload_n 2, 1), (53, .isub, 1), (54, .iastore, 1), (55, .aload_n 0, 1), (56, .getfield 25, 3), (59, .iload_n 1, 1), (60, .iaload, 1), (61, .ireturn, 1)]
def T_156_0 : List (Nat × Instr × Nat) := [(0, .aload_n 0, 1), (1, .iload_n 2, 1), (2, .i2l, 1), (3, .lconst 0, 1), (4, .ldc2_w 204, 3), (7, .invokestatic 126, 3), (10, .ifCond .eq 7, 3), (13, .iconst 0, 1), (14, .goto 4, 3), (17, .iconst 1, 1), (18, .putfield 123, 3), (21, .aload_n 0, 1), (22, .getfield 123, 3), (25, .ifCond .le 5, 3), (28, .iconst 0, 1), (29, .ireturn, 1), (30, .aload_n 0, 1), (31, .iload_n 1, 1), (32, .invokevirtual 141, 3), (35, .ifCond .ne 5, 3), (38, .iconst (-1), 1), (39, .ireturn, 1), (40, .aload_n 0, 1), (41, .iload_n 1, 1), (42, .iload_n 2, 1), (43, .invokevirtual 227, 3), (46, .istore_n 3, 1), (47, .iload_n 3, 1), (48, .ifCond .ge 5, 3), (51, .iload_n 3, 1)]
def T_156_1 : List (Nat × Instr × Nat) := [(52, .ireturn, 1), (53, .aload_n 0, 1), (54, .getfield 69, 3), (57, .aload_n 0, 1), (58, .getfield 19, 3), (61, .iload_n 1, 1), (62, .iaload, 1), (63, .dup2, 1), (64, .iaload, 1), (65, .iload_n 2, 1), (66, .iadd, 1), (67, .iastore, 1), (68, .aload_n 0, 1), (69, .getfield 69, 3), (72, .aload_n 0, 1), (73, .getfield 19, 3), (76, .iload_n 1, 1), (77, .iaload, 1), (78, .iaload, 1), (79, .ireturn, 1)]
def T_157_0 : List (Nat × Instr × Nat) := [(0, .aload_n 0, 1), (1, .iconst 0, 1), (2, .putfield 123, 3), (5, .aload_n 0, 1), (6, .iload_n 1, 1), (7, .invokevirtual 141, 3), (10, .ifCond .eq 11, 3), (13, .aload_n 0, 1), (14, .iload_n 2, 1), (15, .invokevirtual 197, 3), (18, .ifCond .ne 5, 3), (21, .iconst (-1), 1), (22, .ireturn, 1), (23, .aload_n 0, 1), (24, .getfield 19, 3), (27, .iload_n 1, 1), (28, .iaload, 1), (29, .istore_n 3, 1), (30, .iload_n 3, 1), (31, .iload_n 2, 1), (32, .if_icmp .ne 5, 3), (35, .iconst 0, 1), (36, .ireturn, 1), (37, .iload_n 2, 1), (38, .istore 4, 2), (40, .iload 4, 2), (42, .iconst (-1), 1), (43, .if_icmp .eq 72, 3), (46, .aload_n 0, 1), (47, .iload_n 3, 1)]
def T_157_1 : List (Nat × Instr × Nat) := [(48, .iload 4, 2), (50, .invokevirtual 194, 3), (53, .ifCond .eq 6, 3), (56, .goto 47, 3), (59, .aload_n 0, 1), (60, .iload 4, 2), (62, .invokevirtual 144, 3), (65, .iconst 1, 1), (66, .iadd, 1), (67, .aload_n 0, 1), (68, .getfield 57, 3), (71, .iload 4, 2), (73, .iaload, 1), (74, .if_icmp .gt 26, 3), (77, .aload_n 0, 1), (78, .iload 4, 2), (80, .invokevirtual 214, 3), (83, .aload_n 0, 1), (84, .getfield 25, 3), (87, .iload_n 1, 1), (88, .iaload, 1), (89, .iadd, 1), (90, .aload_n 0, 1), (91, .getfield 60, 3), (94, .iload 4, 2), (96, .iaload, 1), (97, .if_icmp .le 6, 3), (100, .bipush (-3), 2), (102, .ireturn, 1), (103, .aload_n 0, 1)]
def T_157_2 : List (Nat × Instr × Nat) := [(104, .getfield 54, 3), (107, .iload 4, 2), (109, .iaload, 1), (110, .istore 4, 2), (112, .goto (-72), 3), (115, .aload_n 0, 1), (116, .getfield 19, 3), (119, .iload_n 1, 1), (120, .iload_n 2, 1), (121, .iastore, 1), (122, .aload_n 0, 1), (123, .iload_n 1, 1), (124, .iconst 1, 1), (125, .invokevirtual 163, 3), (128, .iconst 1, 1), (129, .ireturn, 1)]
def T_158_0 : List (Nat × Instr × Nat) := [(0, .aload_n 0, 1), (1, .iload_n 2, 1), (2, .i2l, 1), (3, .ldc2_w 230, 3), (6, .ldc2_w 232, 3), (9, .invokestatic 126, 3), (12, .ifCond .eq 7, 3), (15, .iconst 0, 1), (16, .goto 4, 3), (19, .iconst 1, 1), (20, .putfield 123, 3), (23, .aload_n 0, 1), (24, .getfield 123, 3), (27, .ifCond .le 5, 3), (30, .iconst 0, 1), (31, .ireturn, 1), (32, .aload_n 0, 1), (33, .iload_n 1, 1), (34, .invokevirtual 141, 3), (37, .ifCond .ne 5, 3), (40, .iconst (-1), 1), (41, .ireturn, 1), (42, .aload_n 0, 1), (43, .getfield 28, 3), (46, .iload_n 1, 1), (47, .iload_n 2, 1), (48, .iastore, 1), (49, .iconst 1, 1), (50, .ireturn, 1)]
def T_159_0 : List (Nat × Instr × Nat) := [(0, .aload_n 0, 1), (1, .getfield 99, 3), (4, .iload_n 1, 1), (5, .baload, 1), (6, .ifCond .eq 31, 3), (9, .aload_n 0, 1), (10, .getfield 66, 3), (13, .iload_n 1, 1), (14, .iaload, 1), (15, .ifCond .eq 18, 3), (18, .aload_n 0, 1), (19, .getfield 72, 3), (22, .iload_n 1, 1), (23, .iaload, 1), (24, .aload_n 0, 1), (25, .getfield 66, 3), (28, .iload_n 1, 1), (29, .iaload, 1), (30, .if_icmp .ge 7, 3), (33, .iconst 1, 1), (34, .goto 4, 3), (37, .iconst 0, 1), (38, .ireturn, 1)]
def T_160_0 : List (Nat × Instr × Nat) := [(0, .aload_n 0, 1), (1, .getfield 134, 3), (4, .iconst 1, 1), (5, .isub, 1), (6, .istore_n 1, 1), (7, .iload_n 1, 1), (8, .ifCond .lt 124, 3), (11, .aload_n 0, 1), (12, .getfield 99, 3), (15, .iload_n 1, 1), (16, .iconst 0, 1), (17, .bastore, 1), (18, .iconst 0, 1), (19, .istore_n 2, 1), (20, .iload_n 2, 1), (21, .aload_n 0, 1), (22, .getfield 120, 3), (25, .if_icmp .ge 51, 3), (28, .aload_n 0, 1), (29, .getfield 99, 3), (32, .iload_n 1, 1), (33, .dup2, 1), (34, .baload, 1), (35, .aload_n 0, 1), (36, .getfield 7, 3), (39, .iload_n 2, 1), (40, .iaload, 1), (41, .ifCond .ne 26, 3), (44, .aload_n 0, 1), (45, .getfield 31, 3)]
def T_160_1 : List (Nat × Instr × Nat) := [(48, .iload_n 2, 1), (49, .baload, 1), (50, .ifCond .ne 17, 3), (53, .aload_n 0, 1), (54, .getfield 19, 3), (57, .iload_n 2, 1), (58, .iaload, 1), (59, .iload_n 1, 1), (60, .if_icmp .ne 7, 3), (63, .iconst 1, 1), (64, .goto 4, 3), (67, .iconst 0, 1), (68, .ior, 1), (69, .bastore, 1), (70, .iinc 2 1, 3), (73, .goto (-53), 3), (76, .iload_n 1, 1), (77, .iconst 1, 1), (78, .iadd, 1), (79, .istore_n 2, 1), (80, .iload_n 2, 1), (81, .aload_n 0, 1), (82, .getfield 134, 3), (85, .if_icmp .ge 41, 3), (88, .aload_n 0, 1), (89, .getfield 99, 3), (92, .iload_n 1, 1), (93, .dup2, 1), (94, .baload, 1), (95, .aload_n 0, 1)]
def T_160_2 : List (Nat × Instr × Nat) := [(96, .getfield 54, 3), (99, .iload_n 2, 1), (100, .iaload, 1), (101, .iload_n 1, 1), (102, .if_icmp .ne 15, 3), (105, .aload_n 0, 1), (106, .iload_n 2, 1), (107, .invokevirtual 234, 3), (110, .ifCond .eq 7, 3), (113, .iconst 1, 1), (114, .goto 4, 3), (117, .iconst 0, 1), (118, .ior, 1), (119, .bastore, 1), (120, .iinc 2 1, 3), (123, .goto (-43), 3), (126, .iinc 1 (-1), 3), (129, .goto (-122), 3), (132, .return_, 1)]
def T_161_0 : List (Nat × Instr × Nat) := [(0, .ldc2_w 237, 3), (3, .lstore 4, 2), (5, .aload_n 0, 1), (6, .invokevirtual 239, 3), (9, .iconst 0, 1), (10, .istore 6, 2), (12, .iload 6, 2), (14, .aload_n 0, 1), (15, .getfield 120, 3), (18, .if_icmp .ge 82, 3), (21, .aload_n 0, 1), (22, .getfield 7, 3), (25, .iload 6, 2), (27, .iaload, 1), (28, .ifCond .ne 66, 3), (31, .aload_n 0, 1), (32, .getfield 31, 3), (35, .iload 6, 2), (37, .baload, 1), (38, .ifCond .ne 56, 3), (41, .aload_n 0, 1), (42, .getfield 19, 3), (45, .iload 6, 2), (47, .iaload, 1), (48, .iload_n 1, 1), (49, .if_icmp .ne 45, 3), (52, .iload_n 2, 1), (53, .ifCond .ne 12, 3), (56, .iload 6, 2), (58, .iload_n 3, 1)]
def T_161_1 : List (Nat × Instr × Nat) := [(59, .if_icmp .ne 6, 3), (62, .goto 32, 3), (65, .lload 4, 2), (67, .lconst 0, 1), (68, .lcmp, 1), (69, .ifCond .lt 16, 3), (72, .aload_n 0, 1), (73, .getfield 35, 3), (76, .iload 6, 2), (78, .laload, 1), (79, .lload 4, 2), (81, .lcmp, 1), (82, .ifCond .ge 12, 3), (85, .aload_n 0, 1), (86, .getfield 35, 3), (89, .iload 6, 2), (91, .laload, 1), (92, .lstore 4, 2), (94, .iinc 6 1, 3), (97, .goto (-85), 3), (100, .iconst 1, 1), (101, .istore 6, 2), (103, .iload 6, 2), (105, .aload_n 0, 1), (106, .getfield 134, 3), (109, .if_icmp .ge 71, 3), (112, .aload_n 0, 1), (113, .getfield 54, 3), (116, .iload 6, 2), (118, .iaload, 1)]
def T_161_2 : List (Nat × Instr × Nat) := [(119, .iload_n 1, 1), (120, .if_icmp .ne 54, 3), (123, .iload_n 2, 1), (124, .ifCond .eq 9, 3), (127, .iload 6, 2), (129, .iload_n 3, 1), (130, .if_icmp .eq 44, 3), (133, .aload_n 0, 1), (134, .iload 6, 2), (136, .invokevirtual 234, 3), (139, .ifCond .ne 6, 3), (142, .goto 32, 3), (145, .lload 4, 2), (147, .lconst 0, 1), (148, .lcmp, 1), (149, .ifCond .lt 16, 3), (152, .aload_n 0, 1), (153, .getfield 75, 3), (156, .iload 6, 2), (158, .laload, 1), (159, .lload 4, 2), (161, .lcmp, 1), (162, .ifCond .ge 12, 3), (165, .aload_n 0, 1), (166, .getfield 75, 3), (169, .iload 6, 2), (171, .laload, 1), (172, .lstore 4, 2), (174, .iinc 6 1, 3), (177, .goto (-74), 3)]
def T_161_3 : List (Nat × Instr × Nat) := [(180, .lload 4, 2), (182, .lreturn, 1)]
def T_162_0 : List (Nat × Instr × Nat) := [(0, .aload_n 0, 1), (1, .aload_n 0, 1), (2, .getfield 19, 3), (5, .iload_n 1, 1), (6, .iaload, 1), (7, .iconst 0, 1), (8, .iload_n 1, 1), (9, .invokevirtual 200, 3), (12, .lstore_n 3, 1), (13, .iload_n 2, 1), (14, .ifCond .eq 23, 3), (17, .aload_n 0, 1), (18, .getfield 35, 3), (21, .iload_n 1, 1), (22, .lload_n 3, 1), (23, .lconst 0, 1), (24, .lcmp, 1), (25, .ifCond .ge 7, 3), (28, .lconst 0, 1), (29, .goto 4, 3), (32, .lload_n 3, 1), (33, .lastore, 1), (34, .goto 21, 3), (37, .lload_n 3, 1), (38, .aload_n 0, 1), (39, .getfield 35, 3), (42, .iload_n 1, 1), (43, .laload, 1), (44, .lcmp, 1), (45, .ifCond .le 10, 3)]
def T_162_1 : List (Nat × Instr × Nat) := [(48, .aload_n 0, 1), (49, .getfield 35, 3), (52, .iload_n 1, 1), (53, .lload_n 3, 1), (54, .lastore, 1), (55, .return_, 1)]
def T_163_0 : List (Nat × Instr × Nat) := [(0, .aload_n 0, 1), (1, .dup, 1), (2, .getfield 187, 3), (5, .iconst 1, 1), (6, .iadd, 1), (7, .putfield 187, 3), (10, .iconst (-1), 1), (11, .istore_n 1, 1), (12, .iconst 0, 1), (13, .istore_n 2, 1), (14, .aload_n 0, 1), (15, .invokevirtual 239, 3), (18, .aload_n 0, 1), (19, .getfield 99, 3), (22, .iconst 0, 1), (23, .baload, 1), (24, .istore_n 3, 1), (25, .iload_n 3, 1), (26, .ifCond .eq 204, 3), (29, .iconst (-1), 1), (30, .istore 4, 2), (32, .iconst (-1), 1), (33, .istore 5, 2), (35, .iconst 0, 1), (36, .istore 6, 2), (38, .iload 6, 2), (40, .aload_n 0, 1), (41, .getfield 120, 3), (44, .if_icmp .ge 68, 3), (47, .aload_n 0, 1)]
def T_163_1 : List (Nat × Instr × Nat) := [(48, .getfield 7, 3), (51, .iload 6, 2), (53, .iaload, 1), (54, .ifCond .ne 52, 3), (57, .aload_n 0, 1), (58, .getfield 31, 3), (61, .iload 6, 2), (63, .baload, 1), (64, .ifCond .ne 42, 3), (67, .aload_n 0, 1), (68, .getfield 19, 3), (71, .iload 6, 2), (73, .iaload, 1), (74, .iload_n 2, 1), (75, .if_icmp .ne 31, 3), (78, .iload 4, 2), (80, .iconst (-1), 1), (81, .if_icmp .eq 21, 3), (84, .aload_n 0, 1), (85, .getfield 35, 3), (88, .iload 6, 2), (90, .laload, 1), (91, .aload_n 0, 1), (92, .getfield 35, 3), (95, .iload 4, 2), (97, .laload, 1), (98, .lcmp, 1), (99, .ifCond .ge 7, 3), (102, .iload 6, 2), (104, .istore 4, 2)]
def T_163_2 : List (Nat × Instr × Nat) := [(106, .iinc 6 1, 3), (109, .goto (-71), 3), (112, .iconst 1, 1), (113, .istore 6, 2), (115, .iload 6, 2), (117, .aload_n 0, 1), (118, .getfield 134, 3), (121, .if_icmp .ge 57, 3), (124, .aload_n 0, 1), (125, .getfield 54, 3), (128, .iload 6, 2), (130, .iaload, 1), (131, .iload_n 2, 1), (132, .if_icmp .ne 40, 3), (135, .aload_n 0, 1), (136, .iload 6, 2), (138, .invokevirtual 234, 3), (141, .ifCond .eq 31, 3), (144, .iload 5, 2), (146, .iconst (-1), 1), (147, .if_icmp .eq 21, 3), (150, .aload_n 0, 1), (151, .getfield 75, 3), (154, .iload 6, 2), (156, .laload, 1), (157, .aload_n 0, 1), (158, .getfield 75, 3), (161, .iload 5, 2), (163, .laload, 1), (164, .lcmp, 1)]
def T_163_3 : List (Nat × Instr × Nat) := [(165, .ifCond .ge 7, 3), (168, .iload 6, 2), (170, .istore 5, 2), (172, .iinc 6 1, 3), (175, .goto (-60), 3), (178, .iload 4, 2), (180, .iconst (-1), 1), (181, .if_icmp .eq 27, 3), (184, .iload 5, 2), (186, .iconst (-1), 1), (187, .if_icmp .eq 25, 3), (190, .aload_n 0, 1), (191, .getfield 75, 3), (194, .iload 5, 2), (196, .laload, 1), (197, .aload_n 0, 1), (198, .getfield 35, 3), (201, .iload 4, 2), (203, .laload, 1), (204, .lcmp, 1), (205, .ifCond .ge 7, 3), (208, .iconst 1, 1), (209, .goto 4, 3), (212, .iconst 0, 1), (213, .istore_n 3, 1), (214, .iload_n 3, 1), (215, .ifCond .eq 9, 3), (218, .iload 5, 2), (220, .istore_n 2, 1), (221, .goto 6, 3)]
def T_163_4 : List (Nat × Instr × Nat) := [(224, .iload 4, 2), (226, .istore_n 1, 1), (227, .goto (-202), 3), (230, .iload_n 1, 1), (231, .iconst (-1), 1), (232, .if_icmp .eq 83, 3), (235, .aload_n 0, 1), (236, .getfield 35, 3), (239, .iload_n 1, 1), (240, .dup2, 1), (241, .laload, 1), (242, .ldc2_w 242, 3), (245, .ladd, 1), (246, .lastore, 1), (247, .aload_n 0, 1), (248, .getfield 39, 3), (251, .iload_n 1, 1), (252, .dup2, 1), (253, .iaload, 1), (254, .iconst 1, 1), (255, .iadd, 1), (256, .iastore, 1), (257, .iload_n 2, 1), (258, .istore 4, 2), (260, .iload 4, 2), (262, .iconst (-1), 1), (263, .if_icmp .eq 52, 3), (266, .aload_n 0, 1), (267, .getfield 72, 3), (270, .iload 4, 2)]
def T_163_5 : List (Nat × Instr × Nat) := [(272, .dup2, 1), (273, .iaload, 1), (274, .iconst 1, 1), (275, .iadd, 1), (276, .iastore, 1), (277, .iload 4, 2), (279, .ifCond .le 24, 3), (282, .aload_n 0, 1), (283, .getfield 75, 3), (286, .iload 4, 2), (288, .dup2, 1), (289, .laload, 1), (290, .ldc 193, 2), (292, .aload_n 0, 1), (293, .getfield 63, 3), (296, .iload 4, 2), (298, .iaload, 1), (299, .idiv, 1), (300, .i2l, 1), (301, .ladd, 1), (302, .lastore, 1), (303, .aload_n 0, 1), (304, .getfield 54, 3), (307, .iload 4, 2), (309, .iaload, 1), (310, .istore 4, 2), (312, .goto (-52), 3), (315, .aload_n 0, 1), (316, .getfield 187, 3), (319, .bipush 20, 2)]
def T_163_6 : List (Nat × Instr × Nat) := [(321, .irem, 1), (322, .ifCond .ne 29, 3), (325, .iconst 0, 1), (326, .istore 4, 2), (328, .iload 4, 2), (330, .aload_n 0, 1), (331, .getfield 134, 3), (334, .if_icmp .ge 17, 3), (337, .aload_n 0, 1), (338, .getfield 72, 3), (341, .iload 4, 2), (343, .iconst 0, 1), (344, .iastore, 1), (345, .iinc 4 1, 3), (348, .goto (-20), 3), (351, .iload_n 1, 1), (352, .ireturn, 1)]
def T_164_0 : List (Nat × Instr × Nat) := [(0, .aload_n 0, 1), (1, .iload_n 1, 1), (2, .i2l, 1), (3, .lconst 0, 1), (4, .ldc2_w 244, 3), (7, .invokestatic 126, 3), (10, .ifCond .eq 7, 3), (13, .iconst 0, 1), (14, .goto 4, 3), (17, .iconst 1, 1), (18, .putfield 123, 3), (21, .aload_n 0, 1), (22, .getfield 123, 3), (25, .ifCond .le 5, 3), (28, .iconst 0, 1), (29, .ireturn, 1), (30, .iconst (-1), 1), (31, .istore_n 2, 1), (32, .iconst 0, 1), (33, .istore_n 3, 1), (34, .iload_n 3, 1), (35, .iload_n 1, 1), (36, .if_icmp .ge 14, 3), (39, .aload_n 0, 1), (40, .invokevirtual 246, 3), (43, .istore_n 2, 1), (44, .iinc 3 1, 3), (47, .goto (-13), 3), (50, .iload_n 2, 1), (51, .ireturn, 1)]
def T_165_0 : List (Nat × Instr × Nat) := [(0, .aload_n 0, 1), (1, .iconst 0, 1), (2, .putfield 123, 3), (5, .aload_n 0, 1), (6, .iload_n 1, 1), (7, .invokevirtual 141, 3), (10, .ifCond .ne 5, 3), (13, .iconst (-1), 1), (14, .ireturn, 1), (15, .aload_n 0, 1), (16, .getfield 31, 3), (19, .iload_n 1, 1), (20, .baload, 1), (21, .iload_n 2, 1), (22, .if_icmp .ne 5, 3), (25, .iconst 0, 1), (26, .ireturn, 1), (27, .aload_n 0, 1), (28, .getfield 31, 3), (31, .iload_n 1, 1), (32, .iload_n 2, 1), (33, .bastore, 1), (34, .iload_n 2, 1), (35, .ifCond .ne 9, 3), (38, .aload_n 0, 1), (39, .iload_n 1, 1), (40, .iconst 0, 1), (41, .invokevirtual 163, 3), (44, .iconst 1, 1), (45, .ireturn, 1)]
def T_166_0 : List (Nat × Instr × Nat) := [(0, .aload_n 0, 1), (1, .iconst 0, 1), (2, .putfield 123, 3), (5, .aload_n 0, 1), (6, .iload_n 1, 1), (7, .invokevirtual 130, 3), (10, .ifCond .eq 12, 3), (13, .aload_n 0, 1), (14, .getfield 39, 3), (17, .iload_n 1, 1), (18, .iaload, 1), (19, .goto 4, 3), (22, .iconst (-1), 1), (23, .ireturn, 1)]
def T_167_0 : List (Nat × Instr × Nat) := [(0, .aload_n 0, 1), (1, .iconst 0, 1), (2, .putfield 123, 3), (5, .iload_n 1, 1), (6, .ifCond .eq 24, 3), (9, .aload_n 0, 1), (10, .iload_n 2, 1), (11, .invokevirtual 197, 3), (14, .ifCond .eq 12, 3), (17, .aload_n 0, 1), (18, .getfield 75, 3), (21, .iload_n 2, 1), (22, .laload, 1), (23, .goto 6, 3), (26, .ldc2_w 237, 3), (29, .lreturn, 1), (30, .aload_n 0, 1), (31, .iload_n 2, 1), (32, .invokevirtual 130, 3), (35, .ifCond .eq 12, 3), (38, .aload_n 0, 1), (39, .getfield 35, 3), (42, .iload_n 2, 1), (43, .laload, 1), (44, .goto 6, 3), (47, .ldc2_w 237, 3), (50, .lreturn, 1)]
def T_168_0 : List (Nat × Instr × Nat) := [(0, .iconst 0, 1), (1, .istore 6, 2), (3, .aload_n 0, 1), (4, .getfield 81, 3), (7, .iload 6, 2), (9, .baload, 1), (10, .ifCond .eq 9, 3), (13, .iinc 6 1, 3), (16, .goto (-13), 3), (19, .aload_n 0, 1), (20, .getfield 81, 3), (23, .iload 6, 2), (25, .iconst 1, 1), (26, .bastore, 1), (27, .aload_n 0, 1), (28, .getfield 84, 3), (31, .iload 6, 2), (33, .iload_n 1, 1), (34, .iastore, 1), (35, .aload_n 0, 1), (36, .getfield 87, 3), (39, .iload 6, 2), (41, .iload_n 2, 1), (42, .iastore, 1), (43, .aload_n 0, 1), (44, .getfield 90, 3), (47, .iload 6, 2), (49, .iload_n 3, 1), (50, .iastore, 1), (51, .aload_n 0, 1)]
def T_168_1 : List (Nat × Instr × Nat) := [(52, .getfield 93, 3), (55, .iload 6, 2), (57, .iload 4, 2), (59, .iastore, 1), (60, .aload_n 0, 1), (61, .getfield 96, 3), (64, .iload 6, 2), (66, .iload 5, 2), (68, .iastore, 1), (69, .iload_n 2, 1), (70, .iconst (-1), 1), (71, .if_icmp .ne 11, 3), (74, .aload_n 0, 1), (75, .getfield 78, 3), (78, .iload_n 1, 1), (79, .iload 6, 2), (81, .iastore, 1), (82, .iload 6, 2), (84, .ireturn, 1)]
def T_169_0 : List (Nat × Instr × Nat) := [(0, .aload_n 0, 1), (1, .dup, 1), (2, .getfield 113, 3), (5, .dup_x1, 1), (6, .iconst 1, 1), (7, .iadd, 1), (8, .putfield 113, 3), (11, .istore_n 2, 1), (12, .bipush 80, 2), (14, .istore_n 3, 1), (15, .iconst 0, 1), (16, .istore 4, 2), (18, .iload 4, 2), (20, .bipush 80, 2), (22, .if_icmp .ge 17, 3), (25, .aload_n 0, 1), (26, .getfield 102, 3), (29, .iload 4, 2), (31, .iconst (-1), 1), (32, .iastore, 1), (33, .iinc 4 1, 3), (36, .goto (-18), 3), (39, .iconst 0, 1), (40, .istore 4, 2), (42, .iload 4, 2), (44, .iload_n 3, 1), (45, .if_icmp .ge 73, 3), (48, .aload_n 0, 1), (49, .getfield 81, 3), (52, .iload 4, 2)]
def T_169_1 : List (Nat × Instr × Nat) := [(54, .baload, 1), (55, .ifCond .eq 57, 3), (58, .aload_n 0, 1), (59, .getfield 84, 3), (62, .iload 4, 2), (64, .iaload, 1), (65, .iload_n 1, 1), (66, .if_icmp .eq 6, 3), (69, .goto 43, 3), (72, .aload_n 0, 1), (73, .getfield 102, 3), (76, .iload 4, 2), (78, .aload_n 0, 1), (79, .iload_n 2, 1), (80, .aload_n 0, 1), (81, .getfield 87, 3), (84, .iload 4, 2), (86, .iaload, 1), (87, .aload_n 0, 1), (88, .getfield 90, 3), (91, .iload 4, 2), (93, .iaload, 1), (94, .aload_n 0, 1), (95, .getfield 93, 3), (98, .iload 4, 2), (100, .iaload, 1), (101, .aload_n 0, 1), (102, .getfield 96, 3), (105, .iload 4, 2), (107, .iaload, 1)]
def T_169_2 : List (Nat × Instr × Nat) := [(108, .invokevirtual 116, 3), (111, .iastore, 1), (112, .iinc 4 1, 3), (115, .goto (-73), 3), (118, .iconst 0, 1), (119, .istore 4, 2), (121, .iload 4, 2), (123, .bipush 80, 2), (125, .if_icmp .ge 55, 3), (128, .aload_n 0, 1), (129, .getfield 102, 3), (132, .iload 4, 2), (134, .iaload, 1), (135, .iconst (-1), 1), (136, .if_icmp .eq 38, 3), (139, .aload_n 0, 1), (140, .getfield 87, 3), (143, .iload 4, 2), (145, .iaload, 1), (146, .iconst (-1), 1), (147, .if_icmp .eq 27, 3), (150, .aload_n 0, 1), (151, .getfield 87, 3), (154, .aload_n 0, 1), (155, .getfield 102, 3), (158, .iload 4, 2), (160, .iaload, 1), (161, .aload_n 0, 1), (162, .getfield 102, 3), (165, .aload_n 0, 1)]
def T_169_3 : List (Nat × Instr × Nat) := [(166, .getfield 87, 3), (169, .iload 4, 2), (171, .iaload, 1), (172, .iaload, 1), (173, .iastore, 1), (174, .iinc 4 1, 3), (177, .goto (-56), 3), (180, .iload_n 2, 1), (181, .ireturn, 1)]
def T_170_0 : List (Nat × Instr × Nat) := [(0, .iconst 0, 1), (1, .istore_n 3, 1), (2, .iload_n 3, 1), (3, .bipush 80, 2), (5, .if_icmp .ge 40, 3), (8, .aload_n 0, 1), (9, .getfield 81, 3), (12, .iload_n 3, 1), (13, .baload, 1), (14, .ifCond .eq 25, 3), (17, .aload_n 0, 1), (18, .getfield 87, 3), (21, .iload_n 3, 1), (22, .iaload, 1), (23, .iload_n 1, 1), (24, .if_icmp .ne 15, 3), (27, .aload_n 0, 1), (28, .getfield 90, 3), (31, .iload_n 3, 1), (32, .iaload, 1), (33, .iload_n 2, 1), (34, .if_icmp .ne 5, 3), (37, .iload_n 3, 1), (38, .ireturn, 1), (39, .iinc 3 1, 3), (42, .goto (-40), 3), (45, .iconst (-1), 1), (46, .ireturn, 1)]
def T_171_0 : List (Nat × Instr × Nat) := [(0, .aload_n 0, 1), (1, .aload_n 0, 1), (2, .getfield 249, 3), (5, .aload_n 0, 1), (6, .getfield 252, 3), (9, .invokevirtual 255, 3), (12, .istore_n 1, 1), (13, .iload_n 1, 1), (14, .iconst (-1), 1), (15, .if_icmp .eq 29, 3), (18, .aload_n 0, 1), (19, .iload_n 1, 1), (20, .putfield 249, 3), (23, .aload_n 0, 1), (24, .iconst 0, 1), (25, .putfield 252, 3), (28, .aload_n 0, 1), (29, .aload_n 0, 1), (30, .getfield 249, 3), (33, .aload_n 0, 1), (34, .getfield 252, 3), (37, .invokevirtual 255, 3), (40, .istore_n 1, 1), (41, .goto (-28), 3), (44, .return_, 1)]
def T_172_0 : List (Nat × Instr × Nat) := [(0, .aload_n 0, 1), (1, .iload_n 1, 1), (2, .invokevirtual 141, 3), (5, .ifCond .eq 8, 3), (8, .iload_n 2, 1), (9, .iconst 1, 1), (10, .if_icmp .ge 5, 3), (13, .iconst 0, 1), (14, .ireturn, 1), (15, .aload_n 0, 1), (16, .aload_n 0, 1), (17, .getfield 78, 3), (20, .aload_n 0, 1), (21, .getfield 22, 3), (24, .iload_n 1, 1), (25, .iaload, 1), (26, .iaload, 1), (27, .putfield 249, 3), (30, .aload_n 0, 1), (31, .iconst 0, 1), (32, .putfield 252, 3), (35, .aload_n 0, 1), (36, .invokevirtual 258, 3), (39, .bipush 30, 2), (41, .istore_n 3, 1), (42, .iload_n 2, 1), (43, .iload_n 3, 1), (44, .ishr, 1), (45, .iconst 1, 1), (46, .iand, 1)]
def T_172_1 : List (Nat × Instr × Nat) := [(47, .ifCond .ne 9, 3), (50, .iinc 3 (-1), 3), (53, .goto (-11), 3), (56, .iinc 3 (-1), 3), (59, .iload_n 3, 1), (60, .ifCond .lt 42, 3), (63, .aload_n 0, 1), (64, .getfield 252, 3), (67, .bipush 7, 2), (69, .if_icmp .lt 5, 3), (72, .iconst 0, 1), (73, .ireturn, 1), (74, .aload_n 0, 1), (75, .iconst 2, 1), (76, .aload_n 0, 1), (77, .getfield 252, 3), (80, .imul, 1), (81, .iconst 1, 1), (82, .iadd, 1), (83, .iload_n 2, 1), (84, .iload_n 3, 1), (85, .ishr, 1), (86, .iconst 1, 1), (87, .iand, 1), (88, .iadd, 1), (89, .putfield 252, 3), (92, .aload_n 0, 1), (93, .invokevirtual 258, 3), (96, .iinc 3 (-1), 3), (99, .goto (-40), 3)]
def T_172_2 : List (Nat × Instr × Nat) := [(102, .iconst 1, 1), (103, .ireturn, 1)]
def T_173_0 : List (Nat × Instr × Nat) := [(0, .aload_n 0, 1), (1, .iload_n 3, 1), (2, .i2l, 1), (3, .lconst 0, 1), (4, .ldc2_w 261, 3), (7, .invokestatic 126, 3), (10, .ifCond .eq 7, 3), (13, .iconst 0, 1), (14, .goto 4, 3), (17, .iconst 1, 1), (18, .putfield 123, 3), (21, .aload_n 0, 1), (22, .getfield 123, 3), (25, .ifCond .le 5, 3), (28, .iconst 0, 1), (29, .ireturn, 1), (30, .aload_n 0, 1), (31, .iload_n 1, 1), (32, .iload_n 2, 1), (33, .invokevirtual 263, 3), (36, .ifCond .ne 5, 3), (39, .iconst (-1), 1), (40, .ireturn, 1), (41, .aload_n 0, 1), (42, .getfield 249, 3), (45, .istore 5, 2), (47, .aload_n 0, 1), (48, .getfield 252, 3), (51, .istore 6, 2), (53, .aload_n 0, 1)]
def T_173_1 : List (Nat × Instr × Nat) := [(54, .getfield 96, 3), (57, .iload 5, 2), (59, .iaload, 1), (60, .istore 7, 2), (62, .iconst 1, 1), (63, .istore 8, 2), (65, .iconst 0, 1), (66, .istore 9, 2), (68, .iload 9, 2), (70, .bipush 80, 2), (72, .if_icmp .ge 44, 3), (75, .iload 8, 2), (77, .aload_n 0, 1), (78, .iload 9, 2), (80, .iload 5, 2), (82, .iload 7, 2), (84, .invokevirtual 266, 3), (87, .ifCond .eq 19, 3), (90, .aload_n 0, 1), (91, .iload 9, 2), (93, .iload 6, 2), (95, .invokevirtual 255, 3), (98, .iconst (-1), 1), (99, .if_icmp .ne 7, 3), (102, .iconst 1, 1), (103, .goto 4, 3), (106, .iconst 0, 1), (107, .iadd, 1), (108, .istore 8, 2), (110, .iinc 9 1, 3)]
def T_173_2 : List (Nat × Instr × Nat) := [(113, .goto (-45), 3), (116, .iload 8, 2), (118, .aload_n 0, 1), (119, .invokevirtual 153, 3), (122, .if_icmp .le 6, 3), (125, .bipush (-2), 2), (127, .ireturn, 1), (128, .iconst 0, 1), (129, .istore 9, 2), (131, .iload 4, 2), (133, .ifCond .eq 19, 3), (136, .aload_n 0, 1), (137, .dup, 1), (138, .getfield 270, 3), (141, .iconst 1, 1), (142, .iadd, 1), (143, .putfield 270, 3), (146, .aload_n 0, 1), (147, .getfield 270, 3), (150, .istore 9, 2), (152, .iconst 0, 1), (153, .istore 10, 2), (155, .iload 10, 2), (157, .bipush 80, 2), (159, .if_icmp .ge 46, 3), (162, .aload_n 0, 1), (163, .getfield 102, 3), (166, .iload 10, 2), (168, .aload_n 0, 1), (169, .iload 10, 2)]
def T_173_3 : List (Nat × Instr × Nat) := [(171, .iload 5, 2), (173, .iload 7, 2), (175, .invokevirtual 266, 3), (178, .ifCond .eq 19, 3), (181, .aload_n 0, 1), (182, .iload 10, 2), (184, .iload 6, 2), (186, .invokevirtual 255, 3), (189, .iconst (-1), 1), (190, .if_icmp .ne 7, 3), (193, .iconst 1, 1), (194, .goto 4, 3), (197, .iconst 0, 1), (198, .iastore, 1), (199, .iinc 10 1, 3), (202, .goto (-47), 3), (205, .aload_n 0, 1), (206, .aload_n 0, 1), (207, .getfield 84, 3), (210, .iload 5, 2), (212, .iaload, 1), (213, .iload 5, 2), (215, .iload 6, 2), (217, .iload_n 3, 1), (218, .iload 9, 2), (220, .invokevirtual 116, 3), (223, .istore 10, 2), (225, .iconst 0, 1), (226, .istore 11, 2), (228, .iload 11, 2)]
def T_173_4 : List (Nat × Instr × Nat) := [(230, .bipush 80, 2), (232, .if_icmp .ge 42, 3), (235, .aload_n 0, 1), (236, .getfield 102, 3), (239, .iload 11, 2), (241, .iaload, 1), (242, .ifCond .ne 6, 3), (245, .goto 23, 3), (248, .aload_n 0, 1), (249, .aload_n 0, 1), (250, .getfield 84, 3), (253, .iload 11, 2), (255, .iaload, 1), (256, .iload 11, 2), (258, .iload 6, 2), (260, .iload_n 3, 1), (261, .iload 9, 2), (263, .invokevirtual 116, 3), (266, .istore 12, 2), (268, .iinc 11 1, 3), (271, .goto (-43), 3), (274, .iload 10, 2), (276, .ireturn, 1)]
def T_174_0 : List (Nat × Instr × Nat) := [(0, .iload_n 1, 1), (1, .iload_n 2, 1), (2, .if_icmp .eq 30, 3), (5, .aload_n 0, 1), (6, .getfield 81, 3), (9, .iload_n 1, 1), (10, .baload, 1), (11, .ifCond .eq 21, 3), (14, .iload_n 3, 1), (15, .ifCond .le 17, 3), (18, .aload_n 0, 1), (19, .getfield 96, 3), (22, .iload_n 1, 1), (23, .iaload, 1), (24, .iload_n 3, 1), (25, .if_icmp .ne 7, 3), (28, .iconst 1, 1), (29, .goto 4, 3), (32, .iconst 0, 1), (33, .ireturn, 1)]
def T_175_0 : List (Nat × Instr × Nat) := [(0, .iconst 0, 1), (1, .istore_n 2, 1), (2, .iload_n 2, 1), (3, .bipush 80, 2), (5, .if_icmp .ge 30, 3), (8, .aload_n 0, 1), (9, .getfield 81, 3), (12, .iload_n 2, 1), (13, .baload, 1), (14, .ifCond .eq 15, 3), (17, .aload_n 0, 1), (18, .getfield 87, 3), (21, .iload_n 2, 1), (22, .iaload, 1), (23, .iload_n 1, 1), (24, .if_icmp .ne 5, 3), (27, .iconst 1, 1), (28, .ireturn, 1), (29, .iinc 2 1, 3), (32, .goto (-30), 3), (35, .iconst 0, 1), (36, .ireturn, 1)]
def T_176_0 : List (Nat × Instr × Nat) := [(0, .aload_n 0, 1), (1, .iconst 0, 1), (2, .putfield 123, 3), (5, .aload_n 0, 1), (6, .iload_n 1, 1), (7, .iload_n 2, 1), (8, .invokevirtual 263, 3), (11, .ifCond .eq 23, 3), (14, .aload_n 0, 1), (15, .getfield 252, 3), (18, .ifCond .ne 16, 3), (21, .aload_n 0, 1), (22, .getfield 87, 3), (25, .aload_n 0, 1), (26, .getfield 249, 3), (29, .iaload, 1), (30, .iconst (-1), 1), (31, .if_icmp .ne 5, 3), (34, .iconst (-1), 1), (35, .ireturn, 1), (36, .aload_n 0, 1), (37, .getfield 249, 3), (40, .istore_n 3, 1), (41, .aload_n 0, 1), (42, .iload_n 3, 1), (43, .invokevirtual 273, 3), (46, .ifCond .eq 6, 3), (49, .bipush (-4), 2), (51, .ireturn, 1), (52, .aload_n 0, 1)]
def T_176_1 : List (Nat × Instr × Nat) := [(53, .getfield 87, 3), (56, .iload_n 3, 1), (57, .iaload, 1), (58, .istore 4, 2), (60, .aload_n 0, 1), (61, .getfield 81, 3), (64, .iload_n 3, 1), (65, .iconst 0, 1), (66, .bastore, 1), (67, .iconst 1, 1), (68, .istore 5, 2), (70, .aload_n 0, 1), (71, .getfield 96, 3), (74, .iload 4, 2), (76, .iaload, 1), (77, .istore 6, 2), (79, .iconst 0, 1), (80, .istore 7, 2), (82, .iload 7, 2), (84, .bipush 80, 2), (86, .if_icmp .ge 84, 3), (89, .aload_n 0, 1), (90, .iload 7, 2), (92, .iload 4, 2), (94, .iload 6, 2), (96, .invokevirtual 266, 3), (99, .ifCond .ne 6, 3), (102, .goto 62, 3), (105, .aload_n 0, 1), (106, .iload 7, 2)]
def T_176_2 : List (Nat × Instr × Nat) := [(108, .aload_n 0, 1), (109, .getfield 90, 3), (112, .iload_n 3, 1), (113, .iaload, 1), (114, .invokevirtual 255, 3), (117, .istore 8, 2), (119, .iload 8, 2), (121, .iconst (-1), 1), (122, .if_icmp .eq 42, 3), (125, .aload_n 0, 1), (126, .getfield 93, 3), (129, .iload 8, 2), (131, .iaload, 1), (132, .aload_n 0, 1), (133, .getfield 93, 3), (136, .iload_n 3, 1), (137, .iaload, 1), (138, .if_icmp .ne 26, 3), (141, .aload_n 0, 1), (142, .iload 8, 2), (144, .invokevirtual 273, 3), (147, .ifCond .eq 6, 3), (150, .goto 14, 3), (153, .aload_n 0, 1), (154, .getfield 81, 3), (157, .iload 8, 2), (159, .iconst 0, 1), (160, .bastore, 1), (161, .iinc 5 1, 3), (164, .iinc 7 1, 3)]
def T_176_3 : List (Nat × Instr × Nat) := [(167, .goto (-85), 3), (170, .iload 5, 2), (172, .ireturn, 1)]
def T_177_0 : List (Nat × Instr × Nat) := [(0, .aload_n 0, 1), (1, .iconst 0, 1), (2, .putfield 123, 3), (5, .aload_n 0, 1), (6, .iload_n 1, 1), (7, .iload_n 2, 1), (8, .invokevirtual 263, 3), (11, .ifCond .eq 32, 3), (14, .sipush 1000, 3), (17, .aload_n 0, 1), (18, .getfield 249, 3), (21, .imul, 1), (22, .bipush 20, 2), (24, .aload_n 0, 1), (25, .getfield 93, 3), (28, .aload_n 0, 1), (29, .getfield 249, 3), (32, .iaload, 1), (33, .imul, 1), (34, .iadd, 1), (35, .aload_n 0, 1), (36, .getfield 252, 3), (39, .iadd, 1), (40, .goto 4, 3), (43, .iconst (-1), 1), (44, .ireturn, 1)]
def T_178_0 : List (Nat × Instr × Nat) := [(0, .aload_n 0, 1), (1, .iload_n 1, 1), (2, .i2l, 1), (3, .lconst 0, 1), (4, .aload_n 0, 1), (5, .getfield 113, 3), (8, .iconst 1, 1), (9, .isub, 1), (10, .i2l, 1), (11, .invokestatic 126, 3), (14, .ifCond .eq 7, 3), (17, .iconst 0, 1), (18, .goto 4, 3), (21, .iconst 1, 1), (22, .putfield 123, 3), (25, .aload_n 0, 1), (26, .getfield 123, 3), (29, .ifCond .le 5, 3), (32, .iconst 0, 1), (33, .ireturn, 1), (34, .aload_n 0, 1), (35, .getfield 96, 3), (38, .aload_n 0, 1), (39, .getfield 78, 3), (42, .iload_n 1, 1), (43, .iaload, 1), (44, .iaload, 1), (45, .istore_n 3, 1), (46, .iload_n 2, 1), (47, .ifCond .eq 13, 3)]
def T_178_1 : List (Nat × Instr × Nat) := [(50, .aload_n 0, 1), (51, .dup, 1), (52, .getfield 270, 3), (55, .iconst 1, 1), (56, .iadd, 1), (57, .putfield 270, 3), (60, .aload_n 0, 1), (61, .getfield 96, 3), (64, .aload_n 0, 1), (65, .getfield 78, 3), (68, .iload_n 1, 1), (69, .iaload, 1), (70, .iload_n 2, 1), (71, .ifCond .eq 10, 3), (74, .aload_n 0, 1), (75, .getfield 270, 3), (78, .goto 4, 3), (81, .iconst 0, 1), (82, .iastore, 1), (83, .iload_n 3, 1), (84, .ireturn, 1)]
def T_179_0 : List (Nat × Instr × Nat) := [(0, .aload_n 0, 1), (1, .iload_n 2, 1), (2, .i2l, 1), (3, .lconst 0, 1), (4, .ldc2_w 276, 3), (7, .invokestatic 126, 3), (10, .ifCond .eq 7, 3), (13, .iconst 0, 1), (14, .goto 4, 3), (17, .iconst 1, 1), (18, .putfield 123, 3), (21, .aload_n 0, 1), (22, .getfield 123, 3), (25, .ifCond .le 5, 3), (28, .iconst 0, 1), (29, .ireturn, 1), (30, .iload_n 1, 1), (31, .i2l, 1), (32, .lconst 0, 1), (33, .ldc2_w 278, 3), (36, .invokestatic 126, 3), (39, .ifCond .eq 12, 3), (42, .aload_n 0, 1), (43, .getfield 81, 3), (46, .iload_n 1, 1), (47, .baload, 1), (48, .ifCond .ne 5, 3), (51, .iconst (-1), 1), (52, .ireturn, 1), (53, .iload_n 2, 1)]
def T_179_1 : List (Nat × Instr × Nat) := [(54, .tableswitch 58 0 3 #[30, 37, 44, 51], 30), (84, .aload_n 0, 1), (85, .getfield 84, 3), (88, .iload_n 1, 1), (89, .iaload, 1), (90, .ireturn, 1), (91, .aload_n 0, 1), (92, .getfield 87, 3), (95, .iload_n 1, 1), (96, .iaload, 1), (97, .ireturn, 1), (98, .aload_n 0, 1), (99, .getfield 90, 3), (102, .iload_n 1, 1), (103, .iaload, 1), (104, .ireturn, 1), (105, .aload_n 0, 1), (106, .getfield 93, 3), (109, .iload_n 1, 1), (110, .iaload, 1), (111, .ireturn, 1), (112, .aload_n 0, 1), (113, .getfield 96, 3), (116, .iload_n 1, 1), (117, .iaload, 1), (118, .ireturn, 1)]
def T_180_0 : List (Nat × Instr × Nat) := [(0, .aload_n 3, 1), (1, .iconst 0, 1), (2, .aload_n 0, 1), (3, .iload_n 1, 1), (4, .iload_n 2, 1), (5, .invokevirtual 7, 3), (8, .i2l, 1), (9, .lastore, 1), (10, .goto 7, 3), (13, .astore 4, 2), (15, .iconst 1, 1), (16, .ireturn, 1), (17, .iconst 0, 1), (18, .ireturn, 1)]
def T_181_0 : List (Nat × Instr × Nat) := [(0, .aload_n 3, 1), (1, .iconst 0, 1), (2, .aload_n 0, 1), (3, .iload_n 1, 1), (4, .iload_n 2, 1), (5, .invokevirtual 15, 3), (8, .i2l, 1), (9, .lastore, 1), (10, .goto 7, 3), (13, .astore 4, 2), (15, .iconst 1, 1), (16, .ireturn, 1), (17, .iconst 0, 1), (18, .ireturn, 1)]
def T_182_0 : List (Nat × Instr × Nat) := [(0, .aload_n 3, 1), (1, .iconst 0, 1), (2, .aload_n 0, 1), (3, .iload_n 1, 1), (4, .iload_n 2, 1), (5, .invokevirtual 18, 3), (8, .i2l, 1), (9, .lastore, 1), (10, .goto 7, 3), (13, .astore 4, 2), (15, .iconst 1, 1), (16, .ireturn, 1), (17, .iconst 0, 1), (18, .ireturn, 1)]
def T_183_0 : List (Nat × Instr × Nat) := [(0, .aload_n 2, 1), (1, .iconst 0, 1), (2, .aload_n 0, 1), (3, .iload_n 1, 1), (4, .invokevirtual 21, 3), (7, .i2l, 1), (8, .lastore, 1), (9, .goto 6, 3), (12, .astore_n 3, 1), (13, .iconst 1, 1), (14, .ireturn, 1), (15, .iconst 0, 1), (16, .ireturn, 1)]
def T_184_0 : List (Nat × Instr × Nat) := [(0, .aload 4, 2), (2, .iconst 0, 1), (3, .aload_n 0, 1), (4, .iload_n 1, 1), (5, .iload_n 2, 1), (6, .iload_n 3, 1), (7, .invokevirtual 25, 3), (10, .i2l, 1), (11, .lastore, 1), (12, .goto 11, 3), (15, .astore 5, 2), (17, .iconst 1, 1), (18, .ireturn, 1), (19, .astore 5, 2), (21, .iconst 2, 1), (22, .ireturn, 1), (23, .iconst 0, 1), (24, .ireturn, 1)]
def T_185_0 : List (Nat × Instr × Nat) := [(0, .aload_n 3, 1), (1, .iconst 0, 1), (2, .aload_n 0, 1), (3, .iload_n 1, 1), (4, .iload_n 2, 1), (5, .invokevirtual 31, 3), (8, .i2l, 1), (9, .lastore, 1), (10, .goto 7, 3), (13, .astore 4, 2), (15, .iconst 1, 1), (16, .ireturn, 1), (17, .iconst 0, 1), (18, .ireturn, 1)]
def T_186_0 : List (Nat × Instr × Nat) := [(0, .aload_n 3, 1), (1, .iconst 0, 1), (2, .aload_n 0, 1), (3, .iload_n 1, 1), (4, .iload_n 2, 1), (5, .invokevirtual 34, 3), (8, .i2l, 1), (9, .lastore, 1), (10, .goto 7, 3), (13, .astore 4, 2), (15, .iconst 1, 1), (16, .ireturn, 1), (17, .iconst 0, 1), (18, .ireturn, 1)]
def T_187_0 : List (Nat × Instr × Nat) := [(0, .aload_n 3, 1), (1, .iconst 0, 1), (2, .aload_n 0, 1), (3, .iload_n 1, 1), (4, .iload_n 2, 1), (5, .invokevirtual 37, 3), (8, .i2l, 1), (9, .lastore, 1), (10, .goto 7, 3), (13, .astore 4, 2), (15, .iconst 1, 1), (16, .ireturn, 1), (17, .iconst 0, 1), (18, .ireturn, 1)]
def T_188_0 : List (Nat × Instr × Nat) := [(0, .aload_n 3, 1), (1, .iconst 0, 1), (2, .aload_n 0, 1), (3, .iload_n 1, 1), (4, .iload_n 2, 1), (5, .invokevirtual 40, 3), (8, .i2l, 1), (9, .lastore, 1), (10, .goto 7, 3), (13, .astore 4, 2), (15, .iconst 1, 1), (16, .ireturn, 1), (17, .iconst 0, 1), (18, .ireturn, 1)]
def T_189_0 : List (Nat × Instr × Nat) := [(0, .aload_n 3, 1), (1, .iconst 0, 1), (2, .aload_n 0, 1), (3, .iload_n 1, 1), (4, .iload_n 2, 1), (5, .invokevirtual 43, 3), (8, .i2l, 1), (9, .lastore, 1), (10, .goto 7, 3), (13, .astore 4, 2), (15, .iconst 1, 1), (16, .ireturn, 1), (17, .iconst 0, 1), (18, .ireturn, 1)]
def T_190_0 : List (Nat × Instr × Nat) := [(0, .aload_n 2, 1), (1, .iconst 0, 1), (2, .aload_n 0, 1), (3, .iload_n 1, 1), (4, .invokevirtual 46, 3), (7, .i2l, 1), (8, .lastore, 1), (9, .goto 6, 3), (12, .astore_n 3, 1), (13, .iconst 1, 1), (14, .ireturn, 1), (15, .iconst 0, 1), (16, .ireturn, 1)]
def T_191_0 : List (Nat × Instr × Nat) := [(0, .aload 5, 2), (2, .iconst 0, 1), (3, .aload_n 0, 1), (4, .iload_n 1, 1), (5, .iload_n 2, 1), (6, .iload_n 3, 1), (7, .iload 4, 2), (9, .invokevirtual 49, 3), (12, .i2l, 1), (13, .lastore, 1), (14, .goto 7, 3), (17, .astore 6, 2), (19, .iconst 1, 1), (20, .ireturn, 1), (21, .iconst 0, 1), (22, .ireturn, 1)]
def T_192_0 : List (Nat × Instr × Nat) := [(0, .aload_n 3, 1), (1, .iconst 0, 1), (2, .aload_n 0, 1), (3, .iload_n 1, 1), (4, .iload_n 2, 1), (5, .invokevirtual 53, 3), (8, .i2l, 1), (9, .lastore, 1), (10, .goto 7, 3), (13, .astore 4, 2), (15, .iconst 1, 1), (16, .ireturn, 1), (17, .iconst 0, 1), (18, .ireturn, 1)]
def T_193_0 : List (Nat × Instr × Nat) := [(0, .aload_n 3, 1), (1, .iconst 0, 1), (2, .aload_n 0, 1), (3, .iload_n 1, 1), (4, .iload_n 2, 1), (5, .invokevirtual 57, 3), (8, .i2l, 1), (9, .lastore, 1), (10, .goto 7, 3), (13, .astore 4, 2), (15, .iconst 1, 1), (16, .ireturn, 1), (17, .iconst 0, 1), (18, .ireturn, 1)]
def T_194_0 : List (Nat × Instr × Nat) := [(0, .new 8, 3), (3, .dup, 1), (4, .invokespecial 60, 3), (7, .astore_n 1, 1), (8, .new 61, 3), (11, .dup, 1), (12, .invokespecial 63, 3), (15, .astore_n 2, 1), (16, .iconst 1, 1), (17, .newarray .long, 2), (19, .astore_n 3, 1), (20, .iconst 0, 1), (21, .istore 4, 2), (23, .iload 4, 2), (25, .aload_n 0, 1), (26, .arraylength, 1), (27, .iconst 5, 1), (28, .isub, 1), (29, .if_icmp .gt 1561, 3), (32, .aload_n 0, 1), (33, .iload 4, 2), (35, .iaload, 1), (36, .bipush 31, 2), (38, .iand, 1), (39, .tableswitch 1545 0 24 #[113, 194, 219, 244, 281, 349, 417, 485, 541, 566, 646, 714, 782, 850, 918, 955, 1023, 1079, 1132, 1157, 1211, 1319, 1356, 1393, 1477], 113), (152, .aload_n 1, 1), (153, .aload_n 0, 1), (154, .iload 4, 2), (156, .iconst 1, 1), (157, .iadd, 1)]
def T_194_1 : List (Nat × Instr × Nat) := [(158, .iaload, 1), (159, .aload_n 0, 1), (160, .iload 4, 2), (162, .iconst 2, 1), (163, .iadd, 1), (164, .iaload, 1), (165, .ifCond .eq 7, 3), (168, .iconst 1, 1), (169, .goto 4, 3), (172, .iconst 0, 1), (173, .aload_n 0, 1), (174, .iload 4, 2), (176, .iconst 3, 1), (177, .iadd, 1), (178, .iaload, 1), (179, .ifCond .eq 7, 3), (182, .iconst 1, 1), (183, .goto 4, 3), (186, .iconst 0, 1), (187, .invokevirtual 64, 3), (190, .aload_n 2, 1), (191, .aload_n 0, 1), (192, .iload 4, 2), (194, .iconst 1, 1), (195, .iadd, 1), (196, .iaload, 1), (197, .aload_n 0, 1), (198, .iload 4, 2), (200, .iconst 2, 1), (201, .iadd, 1)]
def T_194_2 : List (Nat × Instr × Nat) := [(202, .iaload, 1), (203, .ifCond .eq 7, 3), (206, .iconst 1, 1), (207, .goto 4, 3), (210, .iconst 0, 1), (211, .aload_n 0, 1), (212, .iload 4, 2), (214, .iconst 3, 1), (215, .iadd, 1), (216, .iaload, 1), (217, .ifCond .eq 7, 3), (220, .iconst 1, 1), (221, .goto 4, 3), (224, .iconst 0, 1), (225, .invokevirtual 68, 3), (228, .if_icmp .eq 1356, 3), (231, .iconst 0, 1), (232, .ireturn, 1), (233, .aload_n 1, 1), (234, .aload_n 0, 1), (235, .iload 4, 2), (237, .iconst 1, 1), (238, .iadd, 1), (239, .iaload, 1), (240, .invokevirtual 69, 3), (243, .aload_n 2, 1), (244, .aload_n 0, 1), (245, .iload 4, 2), (247, .iconst 1, 1), (248, .iadd, 1)]
def T_194_3 : List (Nat × Instr × Nat) := [(249, .iaload, 1), (250, .invokevirtual 72, 3), (253, .if_icmp .eq 1331, 3), (256, .iconst 0, 1), (257, .ireturn, 1), (258, .aload_n 1, 1), (259, .aload_n 0, 1), (260, .iload 4, 2), (262, .iconst 1, 1), (263, .iadd, 1), (264, .iaload, 1), (265, .invokevirtual 73, 3), (268, .aload_n 2, 1), (269, .aload_n 0, 1), (270, .iload 4, 2), (272, .iconst 1, 1), (273, .iadd, 1), (274, .iaload, 1), (275, .invokevirtual 76, 3), (278, .if_icmp .eq 1306, 3), (281, .iconst 0, 1), (282, .ireturn, 1), (283, .aload_n 1, 1), (284, .aload_n 0, 1), (285, .iload 4, 2), (287, .iconst 1, 1), (288, .iadd, 1), (289, .iaload, 1), (290, .aload_n 0, 1), (291, .iload 4, 2)]
def T_194_4 : List (Nat × Instr × Nat) := [(293, .iconst 2, 1), (294, .iadd, 1), (295, .iaload, 1), (296, .invokevirtual 77, 3), (299, .aload_n 2, 1), (300, .aload_n 0, 1), (301, .iload 4, 2), (303, .iconst 1, 1), (304, .iadd, 1), (305, .iaload, 1), (306, .aload_n 0, 1), (307, .iload 4, 2), (309, .iconst 2, 1), (310, .iadd, 1), (311, .iaload, 1), (312, .invokevirtual 80, 3), (315, .if_icmp .eq 1269, 3), (318, .iconst 0, 1), (319, .ireturn, 1), (320, .aload_n 1, 1), (321, .aload_n 0, 1), (322, .iload 4, 2), (324, .iconst 1, 1), (325, .iadd, 1), (326, .iaload, 1), (327, .aload_n 0, 1), (328, .iload 4, 2), (330, .iconst 2, 1), (331, .iadd, 1), (332, .iaload, 1)]
def T_194_5 : List (Nat × Instr × Nat) := [(333, .aload_n 3, 1), (334, .invokestatic 81, 3), (337, .istore 5, 2), (339, .aload_n 2, 1), (340, .aload_n 0, 1), (341, .iload 4, 2), (343, .iconst 1, 1), (344, .iadd, 1), (345, .iaload, 1), (346, .aload_n 0, 1), (347, .iload 4, 2), (349, .iconst 2, 1), (350, .iadd, 1), (351, .iaload, 1), (352, .invokevirtual 86, 3), (355, .istore 6, 2), (357, .aload_n 2, 1), (358, .invokevirtual 87, 3), (361, .iload 5, 2), (363, .if_icmp .eq 5, 3), (366, .iconst 0, 1), (367, .ireturn, 1), (368, .iload 5, 2), (370, .ifCond .ne 15, 3), (373, .aload_n 3, 1), (374, .iconst 0, 1), (375, .laload, 1), (376, .iload 6, 2), (378, .i2l, 1), (379, .lcmp, 1)]
def T_194_6 : List (Nat × Instr × Nat) := [(380, .ifCond .eq 5, 3), (383, .iconst 0, 1), (384, .ireturn, 1), (385, .goto 1199, 3), (388, .aload_n 1, 1), (389, .aload_n 0, 1), (390, .iload 4, 2), (392, .iconst 1, 1), (393, .iadd, 1), (394, .iaload, 1), (395, .aload_n 0, 1), (396, .iload 4, 2), (398, .iconst 2, 1), (399, .iadd, 1), (400, .iaload, 1), (401, .aload_n 3, 1), (402, .invokestatic 91, 3), (405, .istore 5, 2), (407, .aload_n 2, 1), (408, .aload_n 0, 1), (409, .iload 4, 2), (411, .iconst 1, 1), (412, .iadd, 1), (413, .iaload, 1), (414, .aload_n 0, 1), (415, .iload 4, 2), (417, .iconst 2, 1), (418, .iadd, 1), (419, .iaload, 1), (420, .invokevirtual 93, 3)]
def T_194_7 : List (Nat × Instr × Nat) := [(423, .istore 6, 2), (425, .aload_n 2, 1), (426, .invokevirtual 87, 3), (429, .iload 5, 2), (431, .if_icmp .eq 5, 3), (434, .iconst 0, 1), (435, .ireturn, 1), (436, .iload 5, 2), (438, .ifCond .ne 15, 3), (441, .aload_n 3, 1), (442, .iconst 0, 1), (443, .laload, 1), (444, .iload 6, 2), (446, .i2l, 1), (447, .lcmp, 1), (448, .ifCond .eq 5, 3), (451, .iconst 0, 1), (452, .ireturn, 1), (453, .goto 1131, 3), (456, .aload_n 1, 1), (457, .aload_n 0, 1), (458, .iload 4, 2), (460, .iconst 1, 1), (461, .iadd, 1), (462, .iaload, 1), (463, .aload_n 0, 1), (464, .iload 4, 2), (466, .iconst 2, 1), (467, .iadd, 1), (468, .iaload, 1)]
def T_194_8 : List (Nat × Instr × Nat) := [(469, .aload_n 3, 1), (470, .invokestatic 94, 3), (473, .istore 5, 2), (475, .aload_n 2, 1), (476, .aload_n 0, 1), (477, .iload 4, 2), (479, .iconst 1, 1), (480, .iadd, 1), (481, .iaload, 1), (482, .aload_n 0, 1), (483, .iload 4, 2), (485, .iconst 2, 1), (486, .iadd, 1), (487, .iaload, 1), (488, .invokevirtual 96, 3), (491, .istore 6, 2), (493, .aload_n 2, 1), (494, .invokevirtual 87, 3), (497, .iload 5, 2), (499, .if_icmp .eq 5, 3), (502, .iconst 0, 1), (503, .ireturn, 1), (504, .iload 5, 2), (506, .ifCond .ne 15, 3), (509, .aload_n 3, 1), (510, .iconst 0, 1), (511, .laload, 1), (512, .iload 6, 2), (514, .i2l, 1), (515, .lcmp, 1)]
def T_194_9 : List (Nat × Instr × Nat) := [(516, .ifCond .eq 5, 3), (519, .iconst 0, 1), (520, .ireturn, 1), (521, .goto 1063, 3), (524, .aload_n 1, 1), (525, .aload_n 0, 1), (526, .iload 4, 2), (528, .iconst 1, 1), (529, .iadd, 1), (530, .iaload, 1), (531, .aload_n 3, 1), (532, .invokestatic 97, 3), (535, .istore 5, 2), (537, .aload_n 2, 1), (538, .aload_n 0, 1), (539, .iload 4, 2), (541, .iconst 1, 1), (542, .iadd, 1), (543, .iaload, 1), (544, .invokevirtual 100, 3), (547, .istore 6, 2), (549, .aload_n 2, 1), (550, .invokevirtual 87, 3), (553, .iload 5, 2), (555, .if_icmp .eq 5, 3), (558, .iconst 0, 1), (559, .ireturn, 1), (560, .iload 5, 2), (562, .ifCond .ne 15, 3), (565, .aload_n 3, 1)]
def T_194_10 : List (Nat × Instr × Nat) := [(566, .iconst 0, 1), (567, .laload, 1), (568, .iload 6, 2), (570, .i2l, 1), (571, .lcmp, 1), (572, .ifCond .eq 5, 3), (575, .iconst 0, 1), (576, .ireturn, 1), (577, .goto 1007, 3), (580, .aload_n 1, 1), (581, .aload_n 0, 1), (582, .iload 4, 2), (584, .iconst 1, 1), (585, .iadd, 1), (586, .iaload, 1), (587, .invokevirtual 101, 3), (590, .aload_n 2, 1), (591, .aload_n 0, 1), (592, .iload 4, 2), (594, .iconst 1, 1), (595, .iadd, 1), (596, .iaload, 1), (597, .invokevirtual 104, 3), (600, .if_icmp .eq 984, 3), (603, .iconst 0, 1), (604, .ireturn, 1), (605, .aload_n 1, 1), (606, .aload_n 0, 1), (607, .iload 4, 2), (609, .iconst 1, 1)]
def T_194_11 : List (Nat × Instr × Nat) := [(610, .iadd, 1), (611, .iaload, 1), (612, .aload_n 0, 1), (613, .iload 4, 2), (615, .iconst 2, 1), (616, .iadd, 1), (617, .iaload, 1), (618, .aload_n 0, 1), (619, .iload 4, 2), (621, .iconst 3, 1), (622, .iadd, 1), (623, .iaload, 1), (624, .aload_n 3, 1), (625, .invokestatic 105, 3), (628, .istore 5, 2), (630, .aload_n 2, 1), (631, .aload_n 0, 1), (632, .iload 4, 2), (634, .iconst 1, 1), (635, .iadd, 1), (636, .iaload, 1), (637, .aload_n 0, 1), (638, .iload 4, 2), (640, .iconst 2, 1), (641, .iadd, 1), (642, .iaload, 1), (643, .aload_n 0, 1), (644, .iload 4, 2), (646, .iconst 3, 1), (647, .iadd, 1)]
def T_194_12 : List (Nat × Instr × Nat) := [(648, .iaload, 1), (649, .invokevirtual 108, 3), (652, .istore 6, 2), (654, .aload_n 2, 1), (655, .invokevirtual 87, 3), (658, .iload 5, 2), (660, .if_icmp .eq 5, 3), (663, .iconst 0, 1), (664, .ireturn, 1), (665, .iload 5, 2), (667, .ifCond .ne 15, 3), (670, .aload_n 3, 1), (671, .iconst 0, 1), (672, .laload, 1), (673, .iload 6, 2), (675, .i2l, 1), (676, .lcmp, 1), (677, .ifCond .eq 5, 3), (680, .iconst 0, 1), (681, .ireturn, 1), (682, .goto 902, 3), (685, .aload_n 1, 1), (686, .aload_n 0, 1), (687, .iload 4, 2), (689, .iconst 1, 1), (690, .iadd, 1), (691, .iaload, 1), (692, .aload_n 0, 1), (693, .iload 4, 2), (695, .iconst 2, 1)]
def T_194_13 : List (Nat × Instr × Nat) := [(696, .iadd, 1), (697, .iaload, 1), (698, .aload_n 3, 1), (699, .invokestatic 109, 3), (702, .istore 5, 2), (704, .aload_n 2, 1), (705, .aload_n 0, 1), (706, .iload 4, 2), (708, .iconst 1, 1), (709, .iadd, 1), (710, .iaload, 1), (711, .aload_n 0, 1), (712, .iload 4, 2), (714, .iconst 2, 1), (715, .iadd, 1), (716, .iaload, 1), (717, .invokevirtual 111, 3), (720, .istore 6, 2), (722, .aload_n 2, 1), (723, .invokevirtual 87, 3), (726, .iload 5, 2), (728, .if_icmp .eq 5, 3), (731, .iconst 0, 1), (732, .ireturn, 1), (733, .iload 5, 2), (735, .ifCond .ne 15, 3), (738, .aload_n 3, 1), (739, .iconst 0, 1), (740, .laload, 1), (741, .iload 6, 2)]
def T_194_14 : List (Nat × Instr × Nat) := [(743, .i2l, 1), (744, .lcmp, 1), (745, .ifCond .eq 5, 3), (748, .iconst 0, 1), (749, .ireturn, 1), (750, .goto 834, 3), (753, .aload_n 1, 1), (754, .aload_n 0, 1), (755, .iload 4, 2), (757, .iconst 1, 1), (758, .iadd, 1), (759, .iaload, 1), (760, .aload_n 0, 1), (761, .iload 4, 2), (763, .iconst 2, 1), (764, .iadd, 1), (765, .iaload, 1), (766, .aload_n 3, 1), (767, .invokestatic 112, 3), (770, .istore 5, 2), (772, .aload_n 2, 1), (773, .aload_n 0, 1), (774, .iload 4, 2), (776, .iconst 1, 1), (777, .iadd, 1), (778, .iaload, 1), (779, .aload_n 0, 1), (780, .iload 4, 2), (782, .iconst 2, 1), (783, .iadd, 1)]
def T_194_15 : List (Nat × Instr × Nat) := [(784, .iaload, 1), (785, .invokevirtual 114, 3), (788, .istore 6, 2), (790, .aload_n 2, 1), (791, .invokevirtual 87, 3), (794, .iload 5, 2), (796, .if_icmp .eq 5, 3), (799, .iconst 0, 1), (800, .ireturn, 1), (801, .iload 5, 2), (803, .ifCond .ne 15, 3), (806, .aload_n 3, 1), (807, .iconst 0, 1), (808, .laload, 1), (809, .iload 6, 2), (811, .i2l, 1), (812, .lcmp, 1), (813, .ifCond .eq 5, 3), (816, .iconst 0, 1), (817, .ireturn, 1), (818, .goto 766, 3), (821, .aload_n 1, 1), (822, .aload_n 0, 1), (823, .iload 4, 2), (825, .iconst 1, 1), (826, .iadd, 1), (827, .iaload, 1), (828, .aload_n 0, 1), (829, .iload 4, 2), (831, .iconst 2, 1)]
def T_194_16 : List (Nat × Instr × Nat) := [(832, .iadd, 1), (833, .iaload, 1), (834, .aload_n 3, 1), (835, .invokestatic 115, 3), (838, .istore 5, 2), (840, .aload_n 2, 1), (841, .aload_n 0, 1), (842, .iload 4, 2), (844, .iconst 1, 1), (845, .iadd, 1), (846, .iaload, 1), (847, .aload_n 0, 1), (848, .iload 4, 2), (850, .iconst 2, 1), (851, .iadd, 1), (852, .iaload, 1), (853, .invokevirtual 117, 3), (856, .istore 6, 2), (858, .aload_n 2, 1), (859, .invokevirtual 87, 3), (862, .iload 5, 2), (864, .if_icmp .eq 5, 3), (867, .iconst 0, 1), (868, .ireturn, 1), (869, .iload 5, 2), (871, .ifCond .ne 15, 3), (874, .aload_n 3, 1), (875, .iconst 0, 1), (876, .laload, 1), (877, .iload 6, 2)]
def T_194_17 : List (Nat × Instr × Nat) := [(879, .i2l, 1), (880, .lcmp, 1), (881, .ifCond .eq 5, 3), (884, .iconst 0, 1), (885, .ireturn, 1), (886, .goto 698, 3), (889, .aload_n 1, 1), (890, .aload_n 0, 1), (891, .iload 4, 2), (893, .iconst 1, 1), (894, .iadd, 1), (895, .iaload, 1), (896, .aload_n 0, 1), (897, .iload 4, 2), (899, .iconst 2, 1), (900, .iadd, 1), (901, .iaload, 1), (902, .aload_n 3, 1), (903, .invokestatic 118, 3), (906, .istore 5, 2), (908, .aload_n 2, 1), (909, .aload_n 0, 1), (910, .iload 4, 2), (912, .iconst 1, 1), (913, .iadd, 1), (914, .iaload, 1), (915, .aload_n 0, 1), (916, .iload 4, 2), (918, .iconst 2, 1), (919, .iadd, 1)]
def T_194_18 : List (Nat × Instr × Nat) := [(920, .iaload, 1), (921, .invokevirtual 120, 3), (924, .istore 6, 2), (926, .aload_n 2, 1), (927, .invokevirtual 87, 3), (930, .iload 5, 2), (932, .if_icmp .eq 5, 3), (935, .iconst 0, 1), (936, .ireturn, 1), (937, .iload 5, 2), (939, .ifCond .ne 15, 3), (942, .aload_n 3, 1), (943, .iconst 0, 1), (944, .laload, 1), (945, .iload 6, 2), (947, .i2l, 1), (948, .lcmp, 1), (949, .ifCond .eq 5, 3), (952, .iconst 0, 1), (953, .ireturn, 1), (954, .goto 630, 3), (957, .aload_n 1, 1), (958, .aload_n 0, 1), (959, .iload 4, 2), (961, .iconst 1, 1), (962, .iadd, 1), (963, .iaload, 1), (964, .aload_n 0, 1), (965, .iload 4, 2), (967, .iconst 2, 1)]
def T_194_19 : List (Nat × Instr × Nat) := [(968, .iadd, 1), (969, .iaload, 1), (970, .invokevirtual 121, 3), (973, .aload_n 2, 1), (974, .aload_n 0, 1), (975, .iload 4, 2), (977, .iconst 1, 1), (978, .iadd, 1), (979, .iaload, 1), (980, .aload_n 0, 1), (981, .iload 4, 2), (983, .iconst 2, 1), (984, .iadd, 1), (985, .iaload, 1), (986, .invokevirtual 124, 3), (989, .if_icmp .eq 595, 3), (992, .iconst 0, 1), (993, .ireturn, 1), (994, .aload_n 1, 1), (995, .aload_n 0, 1), (996, .iload 4, 2), (998, .iconst 1, 1), (999, .iadd, 1), (1000, .iaload, 1), (1001, .aload_n 0, 1), (1002, .iload 4, 2), (1004, .iconst 2, 1), (1005, .iadd, 1), (1006, .iaload, 1), (1007, .aload_n 3, 1)]
def T_194_20 : List (Nat × Instr × Nat) := [(1008, .invokestatic 125, 3), (1011, .istore 5, 2), (1013, .aload_n 2, 1), (1014, .aload_n 0, 1), (1015, .iload 4, 2), (1017, .iconst 1, 1), (1018, .iadd, 1), (1019, .iaload, 1), (1020, .aload_n 0, 1), (1021, .iload 4, 2), (1023, .iconst 2, 1), (1024, .iadd, 1), (1025, .iaload, 1), (1026, .invokevirtual 127, 3), (1029, .istore 6, 2), (1031, .aload_n 2, 1), (1032, .invokevirtual 87, 3), (1035, .iload 5, 2), (1037, .if_icmp .eq 5, 3), (1040, .iconst 0, 1), (1041, .ireturn, 1), (1042, .iload 5, 2), (1044, .ifCond .ne 15, 3), (1047, .aload_n 3, 1), (1048, .iconst 0, 1), (1049, .laload, 1), (1050, .iload 6, 2), (1052, .i2l, 1), (1053, .lcmp, 1), (1054, .ifCond .eq 5, 3)]
def T_194_21 : List (Nat × Instr × Nat) := [(1057, .iconst 0, 1), (1058, .ireturn, 1), (1059, .goto 525, 3), (1062, .aload_n 1, 1), (1063, .aload_n 0, 1), (1064, .iload 4, 2), (1066, .iconst 1, 1), (1067, .iadd, 1), (1068, .iaload, 1), (1069, .aload_n 3, 1), (1070, .invokestatic 128, 3), (1073, .istore 5, 2), (1075, .aload_n 2, 1), (1076, .aload_n 0, 1), (1077, .iload 4, 2), (1079, .iconst 1, 1), (1080, .iadd, 1), (1081, .iaload, 1), (1082, .invokevirtual 130, 3), (1085, .istore 6, 2), (1087, .aload_n 2, 1), (1088, .invokevirtual 87, 3), (1091, .iload 5, 2), (1093, .if_icmp .eq 5, 3), (1096, .iconst 0, 1), (1097, .ireturn, 1), (1098, .iload 5, 2), (1100, .ifCond .ne 15, 3), (1103, .aload_n 3, 1), (1104, .iconst 0, 1)]
def T_194_22 : List (Nat × Instr × Nat) := [(1105, .laload, 1), (1106, .iload 6, 2), (1108, .i2l, 1), (1109, .lcmp, 1), (1110, .ifCond .eq 5, 3), (1113, .iconst 0, 1), (1114, .ireturn, 1), (1115, .goto 469, 3), (1118, .aload_n 1, 1), (1119, .aload_n 0, 1), (1120, .iload 4, 2), (1122, .iconst 1, 1), (1123, .iadd, 1), (1124, .iaload, 1), (1125, .aload_n 0, 1), (1126, .iload 4, 2), (1128, .iconst 2, 1), (1129, .iadd, 1), (1130, .iaload, 1), (1131, .ifCond .eq 7, 3), (1134, .iconst 1, 1), (1135, .goto 4, 3), (1138, .iconst 0, 1), (1139, .invokevirtual 131, 3), (1142, .aload_n 2, 1), (1143, .aload_n 0, 1), (1144, .iload 4, 2), (1146, .iconst 1, 1), (1147, .iadd, 1), (1148, .iaload, 1)]
def T_194_23 : List (Nat × Instr × Nat) := [(1149, .aload_n 0, 1), (1150, .iload 4, 2), (1152, .iconst 2, 1), (1153, .iadd, 1), (1154, .iaload, 1), (1155, .ifCond .eq 7, 3), (1158, .iconst 1, 1), (1159, .goto 4, 3), (1162, .iconst 0, 1), (1163, .invokevirtual 134, 3), (1166, .if_icmp .eq 418, 3), (1169, .iconst 0, 1), (1170, .ireturn, 1), (1171, .aload_n 1, 1), (1172, .aload_n 0, 1), (1173, .iload 4, 2), (1175, .iconst 1, 1), (1176, .iadd, 1), (1177, .iaload, 1), (1178, .invokevirtual 135, 3), (1181, .aload_n 2, 1), (1182, .aload_n 0, 1), (1183, .iload 4, 2), (1185, .iconst 1, 1), (1186, .iadd, 1), (1187, .iaload, 1), (1188, .invokevirtual 138, 3), (1191, .if_icmp .eq 393, 3), (1194, .iconst 0, 1), (1195, .ireturn, 1)]
def T_194_24 : List (Nat × Instr × Nat) := [(1196, .aload_n 1, 1), (1197, .aload_n 0, 1), (1198, .iload 4, 2), (1200, .iconst 1, 1), (1201, .iadd, 1), (1202, .iaload, 1), (1203, .ifCond .eq 7, 3), (1206, .iconst 1, 1), (1207, .goto 4, 3), (1210, .iconst 0, 1), (1211, .aload_n 0, 1), (1212, .iload 4, 2), (1214, .iconst 2, 1), (1215, .iadd, 1), (1216, .iaload, 1), (1217, .invokevirtual 139, 3), (1220, .aload_n 2, 1), (1221, .aload_n 0, 1), (1222, .iload 4, 2), (1224, .iconst 1, 1), (1225, .iadd, 1), (1226, .iaload, 1), (1227, .ifCond .eq 7, 3), (1230, .iconst 1, 1), (1231, .goto 4, 3), (1234, .iconst 0, 1), (1235, .aload_n 0, 1), (1236, .iload 4, 2), (1238, .iconst 2, 1), (1239, .iadd, 1)]
def T_194_25 : List (Nat × Instr × Nat) := [(1240, .iaload, 1), (1241, .invokevirtual 143, 3), (1244, .lcmp, 1), (1245, .ifCond .eq 339, 3), (1248, .iconst 0, 1), (1249, .ireturn, 1), (1250, .aload_n 1, 1), (1251, .aload_n 0, 1), (1252, .iload 4, 2), (1254, .iconst 1, 1), (1255, .iadd, 1), (1256, .iaload, 1), (1257, .aload_n 0, 1), (1258, .iload 4, 2), (1260, .iconst 2, 1), (1261, .iadd, 1), (1262, .iaload, 1), (1263, .aload_n 0, 1), (1264, .iload 4, 2), (1266, .iconst 3, 1), (1267, .iadd, 1), (1268, .iaload, 1), (1269, .aload_n 0, 1), (1270, .iload 4, 2), (1272, .iconst 4, 1), (1273, .iadd, 1), (1274, .iaload, 1), (1275, .ifCond .eq 7, 3), (1278, .iconst 1, 1), (1279, .goto 4, 3)]
def T_194_26 : List (Nat × Instr × Nat) := [(1282, .iconst 0, 1), (1283, .aload_n 3, 1), (1284, .invokestatic 144, 3), (1287, .istore 5, 2), (1289, .aload_n 2, 1), (1290, .aload_n 0, 1), (1291, .iload 4, 2), (1293, .iconst 1, 1), (1294, .iadd, 1), (1295, .iaload, 1), (1296, .aload_n 0, 1), (1297, .iload 4, 2), (1299, .iconst 2, 1), (1300, .iadd, 1), (1301, .iaload, 1), (1302, .aload_n 0, 1), (1303, .iload 4, 2), (1305, .iconst 3, 1), (1306, .iadd, 1), (1307, .iaload, 1), (1308, .aload_n 0, 1), (1309, .iload 4, 2), (1311, .iconst 4, 1), (1312, .iadd, 1), (1313, .iaload, 1), (1314, .ifCond .eq 7, 3), (1317, .iconst 1, 1), (1318, .goto 4, 3), (1321, .iconst 0, 1), (1322, .invokevirtual 147, 3)]
def T_194_27 : List (Nat × Instr × Nat) := [(1325, .istore 6, 2), (1327, .aload_n 2, 1), (1328, .invokevirtual 87, 3), (1331, .iload 5, 2), (1333, .if_icmp .eq 5, 3), (1336, .iconst 0, 1), (1337, .ireturn, 1), (1338, .iload 5, 2), (1340, .ifCond .ne 15, 3), (1343, .aload_n 3, 1), (1344, .iconst 0, 1), (1345, .laload, 1), (1346, .iload 6, 2), (1348, .i2l, 1), (1349, .lcmp, 1), (1350, .ifCond .eq 5, 3), (1353, .iconst 0, 1), (1354, .ireturn, 1), (1355, .goto 229, 3), (1358, .aload_n 1, 1), (1359, .aload_n 0, 1), (1360, .iload 4, 2), (1362, .iconst 1, 1), (1363, .iadd, 1), (1364, .iaload, 1), (1365, .aload_n 0, 1), (1366, .iload 4, 2), (1368, .iconst 2, 1), (1369, .iadd, 1), (1370, .iaload, 1)]
def T_194_28 : List (Nat × Instr × Nat) := [(1371, .invokevirtual 148, 3), (1374, .aload_n 2, 1), (1375, .aload_n 0, 1), (1376, .iload 4, 2), (1378, .iconst 1, 1), (1379, .iadd, 1), (1380, .iaload, 1), (1381, .aload_n 0, 1), (1382, .iload 4, 2), (1384, .iconst 2, 1), (1385, .iadd, 1), (1386, .iaload, 1), (1387, .invokevirtual 151, 3), (1390, .if_icmp .eq 194, 3), (1393, .iconst 0, 1), (1394, .ireturn, 1), (1395, .aload_n 1, 1), (1396, .aload_n 0, 1), (1397, .iload 4, 2), (1399, .iconst 1, 1), (1400, .iadd, 1), (1401, .iaload, 1), (1402, .aload_n 0, 1), (1403, .iload 4, 2), (1405, .iconst 2, 1), (1406, .iadd, 1), (1407, .iaload, 1), (1408, .invokevirtual 152, 3), (1411, .aload_n 2, 1), (1412, .aload_n 0, 1)]
def T_194_29 : List (Nat × Instr × Nat) := [(1413, .iload 4, 2), (1415, .iconst 1, 1), (1416, .iadd, 1), (1417, .iaload, 1), (1418, .aload_n 0, 1), (1419, .iload 4, 2), (1421, .iconst 2, 1), (1422, .iadd, 1), (1423, .iaload, 1), (1424, .invokevirtual 155, 3), (1427, .if_icmp .eq 157, 3), (1430, .iconst 0, 1), (1431, .ireturn, 1), (1432, .aload_n 1, 1), (1433, .aload_n 0, 1), (1434, .iload 4, 2), (1436, .iconst 1, 1), (1437, .iadd, 1), (1438, .iaload, 1), (1439, .aload_n 0, 1), (1440, .iload 4, 2), (1442, .iconst 2, 1), (1443, .iadd, 1), (1444, .iaload, 1), (1445, .ifCond .eq 7, 3), (1448, .iconst 1, 1), (1449, .goto 4, 3), (1452, .iconst 0, 1), (1453, .aload_n 3, 1), (1454, .invokestatic 156, 3)]
def T_194_30 : List (Nat × Instr × Nat) := [(1457, .istore 5, 2), (1459, .aload_n 2, 1), (1460, .aload_n 0, 1), (1461, .iload 4, 2), (1463, .iconst 1, 1), (1464, .iadd, 1), (1465, .iaload, 1), (1466, .aload_n 0, 1), (1467, .iload 4, 2), (1469, .iconst 2, 1), (1470, .iadd, 1), (1471, .iaload, 1), (1472, .ifCond .eq 7, 3), (1475, .iconst 1, 1), (1476, .goto 4, 3), (1479, .iconst 0, 1), (1480, .invokevirtual 159, 3), (1483, .istore 6, 2), (1485, .aload_n 2, 1), (1486, .invokevirtual 87, 3), (1489, .iload 5, 2), (1491, .if_icmp .eq 5, 3), (1494, .iconst 0, 1), (1495, .ireturn, 1), (1496, .iload 5, 2), (1498, .ifCond .ne 15, 3), (1501, .aload_n 3, 1), (1502, .iconst 0, 1), (1503, .laload, 1), (1504, .iload 6, 2)]
def T_194_31 : List (Nat × Instr × Nat) := [(1506, .i2l, 1), (1507, .lcmp, 1), (1508, .ifCond .eq 5, 3), (1511, .iconst 0, 1), (1512, .ireturn, 1), (1513, .goto 71, 3), (1516, .aload_n 1, 1), (1517, .aload_n 0, 1), (1518, .iload 4, 2), (1520, .iconst 1, 1), (1521, .iadd, 1), (1522, .iaload, 1), (1523, .aload_n 0, 1), (1524, .iload 4, 2), (1526, .iconst 2, 1), (1527, .iadd, 1), (1528, .iaload, 1), (1529, .aload_n 3, 1), (1530, .invokestatic 160, 3), (1533, .istore 5, 2), (1535, .aload_n 2, 1), (1536, .aload_n 0, 1), (1537, .iload 4, 2), (1539, .iconst 1, 1), (1540, .iadd, 1), (1541, .iaload, 1), (1542, .aload_n 0, 1), (1543, .iload 4, 2), (1545, .iconst 2, 1), (1546, .iadd, 1)]
def T_194_32 : List (Nat × Instr × Nat) := [(1547, .iaload, 1), (1548, .invokevirtual 162, 3), (1551, .istore 6, 2), (1553, .aload_n 2, 1), (1554, .invokevirtual 87, 3), (1557, .iload 5, 2), (1559, .if_icmp .eq 5, 3), (1562, .iconst 0, 1), (1563, .ireturn, 1), (1564, .iload 5, 2), (1566, .ifCond .ne 15, 3), (1569, .aload_n 3, 1), (1570, .iconst 0, 1), (1571, .laload, 1), (1572, .iload 6, 2), (1574, .i2l, 1), (1575, .lcmp, 1), (1576, .ifCond .eq 5, 3), (1579, .iconst 0, 1), (1580, .ireturn, 1), (1581, .goto 3, 3), (1584, .iinc 4 5, 3), (1587, .goto (-1564), 3), (1590, .iconst 1, 1), (1591, .ireturn, 1)]
def xtbL (i p : Nat) : List (Nat × Instr × Nat) := bif Nat.ble i 96 then (bif Nat.ble i 47 then (bif Nat.ble i 23 then (bif Nat.ble i 11 then (bif Nat.ble i 5 then (bif Nat.ble i 2 then (bif Nat.ble i 0 then (bif Nat.beq i 0 then (T_0_0) else []) else (bif Nat.ble i 1 then (bif Nat.beq i 1 then (T_1_0) else []) else (bif Nat.beq i 2 then (T_2_0) else []))) else (bif Nat.ble i 3 then (bif Nat.beq i 3 then (T_3_0) else []) else (bif Nat.ble i 4 then (bif Nat.beq i 4 then (bif Nat.ble p 55 then (T_4_0) else (bif Nat.ble p 113 then (T_4_1) else (T_4_2))) else []) else (bif Nat.beq i 5 then (T_5_0) else [])))) else (bif Nat.ble i 8 then (bif Nat.ble i 6 then (bif Nat.beq i 6 then (T_6_0) else []) else (bif Nat.ble i 7 then (bif Nat.beq i 7 then (T_7_0) else []) else (bif Nat.beq i 8 then (bif Nat.ble p 55 then (T_8_0) else (T_8_1)) else []))) else (bif Nat.ble i 9 then (bif Nat.beq i 9 then (T_9_0) else []) else (bif Nat.ble i 10 then (bif Nat.beq i 10 then (T_10_0) else []) else (bif Nat.beq i 11 then (T_11_0) else []))))) else (bif Nat.ble i 17 then (bif Nat.ble i 14 then (bif Nat.ble i 12 then (bif Nat.beq i 12 then (T_12_0) else []) else (bif Nat.ble i 13 then (bif Nat.beq i 13 then (T_13_0) else []) else (bif Nat.beq i 14 then (T_14_0) else []))) else (bif Nat.ble i 15 then (bif Nat.beq i 15 then (T_15_0) else []) else (bif Nat.ble i 16 then (bif Nat.beq i 16 then (T_16_0) else []) else (bif Nat.beq i 17 then (T_17_0) else [])))) else (bif Nat.ble i 20 then (bif Nat.ble i 18 then (bif Nat.beq i 18 then (T_18_0) else []) else (bif Nat.ble i 19 then (bif Nat.beq i 19 then (T_19_0) else []) else (bif Nat.beq i 20 then (T_20_0) else []))) else (bif Nat.ble i 21 then (bif Nat.beq i 21 then (T_21_0) else []) else (bif Nat.ble i 22 then (bif Nat.beq i 22 then (T_22_0) else []) else (bif Nat.beq i 23 then (bif Nat.ble p 95 then (T_23_0) else (T_23_1)) else [])))))) else (bif Nat.ble i 35 then (bif Nat.ble i 29 then (bif Nat.ble i 26 then (bif Nat.ble i 24 then (bif Nat.beq i 24 then (T_24_0) else []) else (bif Nat.ble i 25 then (bif Nat.beq i 25 then (T_25_0) else []) else (bif Nat.beq i 26 then (T_26_0) else []))) else (bif Nat.ble i 27 then (bif Nat.beq i 27 then (T_27_0) else []) else (bif Nat.ble i 28 then (bif Nat.beq i 28 then (bif Nat.ble p 55 then (T_28_0) else (T_28_1)) else []) else (bif Nat.beq i 29 then (T_29_0) else [])))) else (bif Nat.ble i 32 then (bif Nat.ble i 30 then (bif Nat.beq i 30 then (T_30_0) else []) else (bif Nat.ble i 31 then (bif Nat.beq i 31 then (T_31_0) else []) else (bif Nat.beq i 32 then (bif Nat.ble p 57 then (T_32_0) else (T_32_1)) else []))) else (bif Nat.ble i 33 then (bif Nat.beq i 33 then (T_33_0) else []) else (bif Nat.ble i 34 then (bif Nat.beq i 34 then (T_34_0) else []) else (bif Nat.beq i 35 then (T_35_0) else []))))) else (bif Nat.ble i 41 then (bif Nat.ble i 38 then (bif Nat.ble i 36 then (bif Nat.beq i 36 then (T_36_0) else []) else (bif Nat.ble i 37 then (bif Nat.beq i 37 then (T_37_0) else []) else (bif Nat.beq i 38 then (T_38_0) else []))) else (bif Nat.ble i 39 then (bif Nat.beq i 39 then (T_39_0) else []) else (bif Nat.ble i 40 then (bif Nat.beq i 40 then (bif Nat.ble p 58 then (T_40_0) else (T_40_1)) else []) else (bif Nat.beq i 41 then (T_41_0) else [])))) else (bif Nat.ble i 44 then (bif Nat.ble i 42 then (bif Nat.beq i 42 then (T_42_0) else []) else (bif Nat.ble i 43 then (bif Nat.beq i 43 then (T_43_0) else []) else (bif Nat.beq i 44 then (T_44_0) else []))) else (bif Nat.ble i 45 then (bif Nat.beq i 45 then (bif Nat.ble p 53 then (T_45_0) else (T_45_1)) else []) else (bif Nat.ble i 46 then (bif Nat.beq i 46 then (T_46_0) else []) else (bif Nat.beq i 47 then (T_47_0) else []))))))) else (bif Nat.ble i 71 then (bif Nat.ble i 59 then (bif Nat.ble i 53 then (bif Nat.ble i 50 then (bif Nat.ble i 48 then (bif Nat.beq i 48 then (bif Nat.ble p 56 then (T_48_0) else (T_48_1)) else []) else (bif Nat.ble i 49 then (bif Nat.beq i 49 then (bif Nat.ble p 48 then (T_49_0) else (bif Nat.ble p 111 then (T_49_1) else (T_49_2))) else []) else (bif Nat.beq i 50 then (T_50_0) else []))) else (bif Nat.ble i 51 then (bif Nat.beq i 51 then (bif Nat.ble p 52 then (T_51_0) else (T_51_1)) else []) else (bif Nat.ble i 52 then (bif Nat.beq i 52 then (T_52_0) else []) else (bif Nat.beq i 53 then (T_53_0) else [])))) else (bif Nat.ble i 56 then (bif Nat.ble i 54 then (bif Nat.beq i 54 then (T_54_0) else []) else (bif Nat.ble i 55 then (bif Nat.beq i 55 then (bif Nat.ble p 51 then (T_55_0) else (T_55_1)) else []) else (bif Nat.beq i 56 then (T_56_0) else []))) else (bif Nat.ble i 57 then (bif Nat.beq i 57 then (T_57_0) else []) else (bif Nat.ble i 58 then (bif Nat.beq i 58 then (bif Nat.ble p 48 then (T_58_0) else (T_58_1)) else []) else (bif Nat.beq i 59 then (T_59_0) else []))))) else (bif Nat.ble i 65 then (bif Nat.ble i 62 then (bif Nat.ble i 60 then (bif Nat.beq i 60 then (T_60_0) else []) else (bif Nat.ble i 61 then (bif Nat.beq i 61 then (T_61_0) else []) else (bif Nat.beq i 62 then (T_62_0) else []))) else (bif Nat.ble i 63 then (bif Nat.beq i 63 then (T_63_0) else []) else (bif Nat.ble i 64 then (bif Nat.beq i 64 then (T_64_0) else []) else (bif Nat.beq i 65 then (T_65_0) else [])))) else (bif Nat.ble i 68 then (bif Nat.ble i 66 then (bif Nat.beq i 66 then (T_66_0) else []) else (bif Nat.ble i 67 then (bif Nat.beq i 67 then (T_67_0) else []) else (bif Nat.beq i 68 then (T_68_0) else []))) else (bif Nat.ble i 69 then (bif Nat.beq i 69 then (T_69_0) else []) else (bif Nat.ble i 70 then (bif Nat.beq i 70 then (T_70_0) else []) else (bif Nat.beq i 71 then (T_71_0) else [])))))) else (bif Nat.ble i 83 then (bif Nat.ble i 77 then (bif Nat.ble i 74 then (bif Nat.ble i 72 then (bif Nat.beq i 72 then (T_72_0) else []) else (bif Nat.ble i 73 then (bif Nat.beq i 73 then (T_73_0) else []) else (bif Nat.beq i 74 then (T_74_0) else []))) else (bif Nat.ble i 75 then (bif Nat.beq i 75 then (T_75_0) else []) else (bif Nat.ble i 76 then (bif Nat.beq i 76 then (T_76_0) else []) else (bif Nat.beq i 77 then (T_77_0) else [])))) else (bif Nat.ble i 80 then (bif Nat.ble i 78 then (bif Nat.beq i 78 then (bif Nat.ble p 97 then (T_78_0) else (T_78_1)) else []) else (bif Nat.ble i 79 then (bif Nat.beq i 79 then (T_79_0) else []) else (bif Nat.beq i 80 then (T_80_0) else []))) else (bif Nat.ble i 81 then (bif Nat.beq i 81 then (T_81_0) else []) else (bif Nat.ble i 82 then (bif Nat.beq i 82 then (T_82_0) else []) else (bif Nat.beq i 83 then (T_83_0) else []))))) else (bif Nat.ble i 89 then (bif Nat.ble i 86 then (bif Nat.ble i 84 then (bif Nat.beq i 84 then (bif Nat.ble p 54 then (T_84_0) else (T_84_1)) else []) else (bif Nat.ble i 85 then (bif Nat.beq i 85 then (T_85_0) else []) else (bif Nat.beq i 86 then (bif Nat.ble p 54 then (T_86_0) else (T_86_1)) else []))) else (bif Nat.ble i 87 then (bif Nat.beq i 87 then (T_87_0) else []) else (bif Nat.ble i 88 then (bif Nat.beq i 88 then (bif Nat.ble p 51 then (T_88_0) else (T_88_1)) else []) else (bif Nat.beq i 89 then (bif Nat.ble p 58 then (T_89_0) else (T_89_1)) else [])))) else (bif Nat.ble i 92 then (bif Nat.ble i 90 then (bif Nat.beq i 90 then (T_90_0) else []) else (bif Nat.ble i 91 then (bif Nat.beq i 91 then (T_91_0) else []) else (bif Nat.beq i 92 then (bif Nat.ble p 58 then (T_92_0) else (T_92_1)) else []))) else (bif Nat.ble i 94 then (bif Nat.ble i 93 then (bif Nat.beq i 93 then (T_93_0) else []) else (bif Nat.beq i 94 then (bif Nat.ble p 61 then (T_94_0) else (T_94_1)) else [])) else (bif Nat.ble i 95 then (bif Nat.beq i 95 then (bif Nat.ble p 63 then (T_95_0) else (bif Nat.ble p 131 then (T_95_1) else (T_95_2))) else []) else (bif Nat.beq i 96 then (T_96_0) else [])))))))) else (bif Nat.ble i 145 then (bif Nat.ble i 120 then (bif Nat.ble i 108 then (bif Nat.ble i 102 then (bif Nat.ble i 99 then (bif Nat.ble i 97 then (bif Nat.beq i 97 then (T_97_0) else []) else (bif Nat.ble i 98 then (bif Nat.beq i 98 then (bif Nat.ble p 59 then (T_98_0) else (T_98_1)) else []) else (bif Nat.beq i 99 then (T_99_0) else []))) else (bif Nat.ble i 100 then (bif Nat.beq i 100 then (T_100_0) else []) else (bif Nat.ble i 101 then (bif Nat.beq i 101 then (T_101_0) else []) else (bif Nat.beq i 102 then (bif Nat.ble p 103 then (T_102_0) else (T_102_1)) else [])))) else (bif Nat.ble i 105 then (bif Nat.ble i 103 then (bif Nat.beq i 103 then (T_103_0) else []) else (bif Nat.ble i 104 then (bif Nat.beq i 104 then (bif Nat.ble p 55 then (T_104_0) else (T_104_1)) else []) else (bif Nat.beq i 105 then (T_105_0) else []))) else (bif Nat.ble i 106 then (bif Nat.beq i 106 then (bif Nat.ble p 54 then (T_106_0) else (T_106_1)) else []) else (bif Nat.ble i 107 then (bif Nat.beq i 107 then (T_107_0) else []) else (bif Nat.beq i 108 then (bif Nat.ble p 54 then (T_108_0) else (T_108_1)) else []))))) else (bif Nat.ble i 114 then (bif Nat.ble i 111 then (bif Nat.ble i 109 then (bif Nat.beq i 109 then (bif Nat.ble p 54 then (T_109_0) else (T_109_1)) else []) else (bif Nat.ble i 110 then (bif Nat.beq i 110 then (T_110_0) else []) else (bif Nat.beq i 111 then (T_111_0) else []))) else (bif Nat.ble i 112 then (bif Nat.beq i 112 then (T_112_0) else []) else (bif Nat.ble i 113 then (bif Nat.beq i 113 then (T_113_0) else []) else (bif Nat.beq i 114 then (T_114_0) else [])))) else (bif Nat.ble i 117 then (bif Nat.ble i 115 then (bif Nat.beq i 115 then (bif Nat.ble p 61 then (T_115_0) else (T_115_1)) else []) else (bif Nat.ble i 116 then (bif Nat.beq i 116 then (T_116_0) else []) else (bif Nat.beq i 117 then (T_117_0) else []))) else (bif Nat.ble i 118 then (bif Nat.beq i 118 then (T_118_0) else []) else (bif Nat.ble i 119 then (bif Nat.beq i 119 then (T_119_0) else []) else (bif Nat.beq i 120 then (bif Nat.ble p 188 then (bif Nat.ble p 64 then (T_120_0) else (bif Nat.ble p 128 then (T_120_1) else (T_120_2))) else (bif Nat.ble p 248 then (T_120_3) else (bif Nat.ble p 296 then (T_120_4) else (T_120_5)))) else [])))))) else (bif Nat.ble i 132 then (bif Nat.ble i 126 then (bif Nat.ble i 123 then (bif Nat.ble i 121 then (bif Nat.beq i 121 then (T_121_0) else []) else (bif Nat.ble i 122 then (bif Nat.beq i 122 then (T_122_0) else []) else (bif Nat.beq i 123 then (T_123_0) else []))) else (bif Nat.ble i 124 then (bif Nat.beq i 124 then (T_124_0) else []) else (bif Nat.ble i 125 then (bif Nat.beq i 125 then (T_125_0) else []) else (bif Nat.beq i 126 then (T_126_0) else [])))) else (bif Nat.ble i 129 then (bif Nat.ble i 127 then (bif Nat.beq i 127 then (T_127_0) else []) else (bif Nat.ble i 128 then (bif Nat.beq i 128 then (T_128_0) else []) else (bif Nat.beq i 129 then (bif Nat.ble p 47 then (T_129_0) else (T_129_1)) else []))) else (bif Nat.ble i 130 then (bif Nat.beq i 130 then (T_130_0) else []) else (bif Nat.ble i 131 then (bif Nat.beq i 131 then (T_131_0) else []) else (bif Nat.beq i 132 then (T_132_0) else []))))) else (bif Nat.ble i 138 then (bif Nat.ble i 135 then (bif Nat.ble i 133 then (bif Nat.beq i 133 then (bif Nat.ble p 170 then (bif Nat.ble p 52 then (T_133_0) else (bif Nat.ble p 114 then (T_133_1) else (T_133_2))) else (bif Nat.ble p 277 then (bif Nat.ble p 223 then (T_133_3) else (T_133_4)) else (bif Nat.ble p 329 then (T_133_5) else (T_133_6)))) else []) else (bif Nat.ble i 134 then (bif Nat.beq i 134 then (T_134_0) else []) else (bif Nat.beq i 135 then (bif Nat.ble p 45 then (T_135_0) else (T_135_1)) else []))) else (bif Nat.ble i 136 then (bif Nat.beq i 136 then (bif Nat.ble p 103 then (bif Nat.ble p 47 then (T_136_0) else (T_136_1)) else (bif Nat.ble p 157 then (T_136_2) else (T_136_3))) else []) else (bif Nat.ble i 137 then (bif Nat.beq i 137 then (T_137_0) else []) else (bif Nat.beq i 138 then (bif Nat.ble p 48 then (T_138_0) else (bif Nat.ble p 99 then (T_138_1) else (T_138_2))) else [])))) else (bif Nat.ble i 141 then (bif Nat.ble i 139 then (bif Nat.beq i 139 then (bif Nat.ble p 49 then (T_139_0) else (T_139_1)) else []) else (bif Nat.ble i 140 then (bif Nat.beq i 140 then (bif Nat.ble p 52 then (T_140_0) else (T_140_1)) else []) else (bif Nat.beq i 141 then (bif Nat.ble p 51 then (T_141_0) else (T_141_1)) else []))) else (bif Nat.ble i 143 then (bif Nat.ble i 142 then (bif Nat.beq i 142 then (bif Nat.ble p 91 then (T_142_0) else (bif Nat.ble p 133 then (T_142_1) else (T_142_2))) else []) else (bif Nat.beq i 143 then (bif Nat.ble p 98 then (T_143_0) else (bif Nat.ble p 147 then (T_143_1) else (T_143_2))) else [])) else (bif Nat.ble i 144 then (bif Nat.beq i 144 then (bif Nat.ble p 45 then (T_144_0) else (T_144_1)) else []) else (bif Nat.beq i 145 then (bif Nat.ble p 49 then (T_145_0) else (T_145_1)) else []))))))) else (bif Nat.ble i 169 then (bif Nat.ble i 157 then (bif Nat.ble i 151 then (bif Nat.ble i 148 then (bif Nat.ble i 146 then (bif Nat.beq i 146 then (bif Nat.ble p 47 then (T_146_0) else (T_146_1)) else []) else (bif Nat.ble i 147 then (bif Nat.beq i 147 then (bif Nat.ble p 48 then (T_147_0) else (T_147_1)) else []) else (bif Nat.beq i 148 then (bif Nat.ble p 111 then (bif Nat.ble p 53 then (T_148_0) else (T_148_1)) else (bif Nat.ble p 164 then (T_148_2) else (bif Nat.ble p 215 then (T_148_3) else (T_148_4)))) else []))) else (bif Nat.ble i 149 then (bif Nat.beq i 149 then (bif Nat.ble p 95 then (T_149_0) else (bif Nat.ble p 139 then (T_149_1) else (T_149_2))) else []) else (bif Nat.ble i 150 then (bif Nat.beq i 150 then (T_150_0) else []) else (bif Nat.beq i 151 then (bif Nat.ble p 50 then (T_151_0) else (bif Nat.ble p 109 then (T_151_1) else (T_151_2))) else [])))) else (bif Nat.ble i 154 then (bif Nat.ble i 152 then (bif Nat.beq i 152 then (bif Nat.ble p 50 then (T_152_0) else (T_152_1)) else []) else (bif Nat.ble i 153 then (bif Nat.beq i 153 then (bif Nat.ble p 49 then (T_153_0) else (bif Nat.ble p 104 then (T_153_1) else (T_153_2))) else []) else (bif Nat.beq i 154 then (bif Nat.ble p 51 then (T_154_0) else (T_154_1)) else []))) else (bif Nat.ble i 155 then (bif Nat.beq i 155 then (bif Nat.ble p 50 then (T_155_0) else (T_155_1)) else []) else (bif Nat.ble i 156 then (bif Nat.beq i 156 then (bif Nat.ble p 51 then (T_156_0) else (T_156_1)) else []) else (bif Nat.beq i 157 then (bif Nat.ble p 47 then (T_157_0) else (bif Nat.ble p 103 then (T_157_1) else (T_157_2))) else []))))) else (bif Nat.ble i 163 then (bif Nat.ble i 160 then (bif Nat.ble i 158 then (bif Nat.beq i 158 then (T_158_0) else []) else (bif Nat.ble i 159 then (bif Nat.beq i 159 then (T_159_0) else []) else (bif Nat.beq i 160 then (bif Nat.ble p 45 then (T_160_0) else (bif Nat.ble p 95 then (T_160_1) else (T_160_2))) else []))) else (bif Nat.ble i 161 then (bif Nat.beq i 161 then (bif Nat.ble p 118 then (bif Nat.ble p 58 then (T_161_0) else (T_161_1)) else (bif Nat.ble p 177 then (T_161_2) else (T_161_3))) else []) else (bif Nat.ble i 162 then (bif Nat.beq i 162 then (bif Nat.ble p 45 then (T_162_0) else (T_162_1)) else []) else (bif Nat.beq i 163 then (bif Nat.ble p 164 then (bif Nat.ble p 47 then (T_163_0) else (bif Nat.ble p 104 then (T_163_1) else (T_163_2))) else (bif Nat.ble p 270 then (bif Nat.ble p 221 then (T_163_3) else (T_163_4)) else (bif Nat.ble p 319 then (T_163_5) else (T_163_6)))) else [])))) else (bif Nat.ble i 166 then (bif Nat.ble i 164 then (bif Nat.beq i 164 then (T_164_0) else []) else (bif Nat.ble i 165 then (bif Nat.beq i 165 then (T_165_0) else []) else (bif Nat.beq i 166 then (T_166_0) else []))) else (bif Nat.ble i 167 then (bif Nat.beq i 167 then (T_167_0) else []) else (bif Nat.ble i 168 then (bif Nat.beq i 168 then (bif Nat.ble p 51 then (T_168_0) else (T_168_1)) else []) else (bif Nat.beq i 169 then (bif Nat.ble p 107 then (bif Nat.ble p 52 then (T_169_0) else (T_169_1)) else (bif Nat.ble p 165 then (T_169_2) else (T_169_3))) else [])))))) else (bif Nat.ble i 181 then (bif Nat.ble i 175 then (bif Nat.ble i 172 then (bif Nat.ble i 170 then (bif Nat.beq i 170 then (T_170_0) else []) else (bif Nat.ble i 171 then (bif Nat.beq i 171 then (T_171_0) else []) else (bif Nat.beq i 172 then (bif Nat.ble p 46 then (T_172_0) else (bif Nat.ble p 99 then (T_172_1) else (T_172_2))) else []))) else (bif Nat.ble i 173 then (bif Nat.beq i 173 then (bif Nat.ble p 110 then (bif Nat.ble p 53 then (T_173_0) else (T_173_1)) else (bif Nat.ble p 169 then (T_173_2) else (bif Nat.ble p 228 then (T_173_3) else (T_173_4)))) else []) else (bif Nat.ble i 174 then (bif Nat.beq i 174 then (T_174_0) else []) else (bif Nat.beq i 175 then (T_175_0) else [])))) else (bif Nat.ble i 178 then (bif Nat.ble i 176 then (bif Nat.beq i 176 then (bif Nat.ble p 106 then (bif Nat.ble p 52 then (T_176_0) else (T_176_1)) else (bif Nat.ble p 164 then (T_176_2) else (T_176_3))) else []) else (bif Nat.ble i 177 then (bif Nat.beq i 177 then (T_177_0) else []) else (bif Nat.beq i 178 then (bif Nat.ble p 47 then (T_178_0) else (T_178_1)) else []))) else (bif Nat.ble i 179 then (bif Nat.beq i 179 then (bif Nat.ble p 53 then (T_179_0) else (T_179_1)) else []) else (bif Nat.ble i 180 then (bif Nat.beq i 180 then (T_180_0) else []) else (bif Nat.beq i 181 then (T_181_0) else []))))) else (bif Nat.ble i 187 then (bif Nat.ble i 184 then (bif Nat.ble i 182 then (bif Nat.beq i 182 then (T_182_0) else []) else (bif Nat.ble i 183 then (bif Nat.beq i 183 then (T_183_0) else []) else (bif Nat.beq i 184 then (T_184_0) else []))) else (bif Nat.ble i 185 then (bif Nat.beq i 185 then (T_185_0) else []) else (bif Nat.ble i 186 then (bif Nat.beq i 186 then (T_186_0) else []) else (bif Nat.beq i 187 then (T_187_0) else [])))) else (bif Nat.ble i 190 then (bif Nat.ble i 188 then (bif Nat.beq i 188 then (T_188_0) else []) else (bif Nat.ble i 189 then (bif Nat.beq i 189 then (T_189_0) else []) else (bif Nat.beq i 190 then (T_190_0) else []))) else (bif Nat.ble i 192 then (bif Nat.ble i 191 then (bif Nat.beq i 191 then (T_191_0) else []) else (bif Nat.beq i 192 then (T_192_0) else [])) else (bif Nat.ble i 193 then (bif Nat.beq i 193 then (T_193_0) else []) else (bif Nat.beq i 194 then (bif Nat.ble p 831 then (bif Nat.ble p 468 then (bif Nat.ble p 291 then (bif Nat.ble p 201 then (bif Nat.ble p 157 then (T_194_0) else (T_194_1)) else (bif Nat.ble p 248 then (T_194_2) else (T_194_3))) else (bif Nat.ble p 379 then (bif Nat.ble p 332 then (T_194_4) else (T_194_5)) else (bif Nat.ble p 420 then (T_194_6) else (T_194_7)))) else (bif Nat.ble p 647 then (bif Nat.ble p 565 then (bif Nat.ble p 515 then (T_194_8) else (T_194_9)) else (bif Nat.ble p 609 then (T_194_10) else (T_194_11))) else (bif Nat.ble p 741 then (bif Nat.ble p 695 then (T_194_12) else (T_194_13)) else (bif Nat.ble p 783 then (T_194_14) else (T_194_15))))) else (bif Nat.ble p 1195 then (bif Nat.ble p 1007 then (bif Nat.ble p 919 then (bif Nat.ble p 877 then (T_194_16) else (T_194_17)) else (bif Nat.ble p 967 then (T_194_18) else (T_194_19))) else (bif Nat.ble p 1104 then (bif Nat.ble p 1054 then (T_194_20) else (T_194_21)) else (bif Nat.ble p 1148 then (T_194_22) else (T_194_23)))) else (bif Nat.ble p 1370 then (bif Nat.ble p 1279 then (bif Nat.ble p 1239 then (T_194_24) else (T_194_25)) else (bif Nat.ble p 1322 then (T_194_26) else (T_194_27))) else (bif Nat.ble p 1454 then (bif Nat.ble p 1412 then (T_194_28) else (T_194_29)) else (bif Nat.ble p 1504 then (T_194_30) else (bif Nat.ble p 1546 then (T_194_31) else (T_194_32))))))) else []))))))))
def xtb (i p : Nat) : Option (Instr × Nat) := xlk (xtbL i p) p
end
section
/-- the receiver is an object of kind c -/
def xgd (σ : XH) (x : Option Nat) (c : Nat) (K : XR) : XR := match x with
  | none => none
  | some a => match σ.1 a with
    | none => none
    | some o => if o.1 = c then K else none
/-- behind a call -/
def xret (mi pc : Nat) (ls : XL) (r : XR) (q : Nat) (rest : List XE) (k : Nat → XL → List XE → XH → XR) : XR := bif Nat.ble (xwd rest) 8 then (match q with
  | 0 => xcv r fun σ' => k (pc + 3) ls rest σ'
  | 1 => bif xhs mi then xcx r (fun E _ σ' => xhd mi E fun h j => k h (xst0 ls j) [] σ') fun v σ' => k (pc + 3) ls (.inl v :: rest) σ' else xci r fun v σ' => k (pc + 3) ls (.inl v :: rest) σ'
  | 2 => xcl r fun v σ' => k (pc + 3) ls (.inr (.inl v) :: rest) σ'
  | _ => xcr r fun v σ' => k (pc + 3) ls (.inr (.inr v) :: rest) σ') else none
/-- a call: y says the method, its arguments' number, its answer's kind, its receiver's kind (90 static, 91 a constructor, 92 Object's, 93 Math.min, 94 Math.max, 95 a constructor that is a nest mate's own, 96 static with handlers) -/
def xinv (mi : Nat) (cal : Nat → List XE → XH → XR) (pc : Nat) (ls : XL) (y : Option (Nat × Nat × Nat × Nat)) (st : List XE) (σ : XH) (k : Nat → XL → List XE → XH → XR) : XR := match y with
  | none => none
  | some (mj, n, q, c) => match c with
    | 90 => bif Nat.ble n st.length then xret mi pc ls (cal mj (st.take n).reverse σ) q (st.drop n) k else none
    | 91 => (match st.drop n with
      | .inr (.inr (some a)) :: r => xret mi pc ls (cal mj (.inr (.inr (some a)) :: (st.take n).reverse) σ) q r k
      | _ => none)
    | 95 => (match st.drop n with
      | .inr (.inr (some a)) :: r => xret mi pc ls (cal mj (.inr (.inr (some a)) :: (st.take n).reverse) σ) q r k
      | _ => none)
    | 96 => bif Nat.ble n st.length then xret mi pc ls (cal mj (st.take n).reverse σ) q (st.drop n) k else none
    | 92 => (match st with
      | .inr (.inr x) :: r => if x = none then none else bif Nat.ble (xwd r) 8 then k (pc + 3) ls r σ else none
      | _ => none)
    | 93 => (match st with
      | .inl y :: .inl x :: r => bif Nat.ble (xwd r) 8 then k (pc + 3) ls (.inl (xmin x y) :: r) σ else none
      | _ => none)
    | 94 => (match st with
      | .inr (.inl y) :: .inr (.inl x) :: r => bif Nat.ble (xwd r) 8 then k (pc + 3) ls (.inr (.inl (xmax x y)) :: r) σ else none
      | _ => none)
    | c => (match st.drop n with
      | .inr (.inr x) :: r => xgd σ x c (xret mi pc ls (cal mj (.inr (.inr x) :: (st.take n).reverse) σ) q r k)
      | _ => none)
/-- one instruction; k goes on at a place -/
def xop (mi : Nat) (cal : Nat → List XE → XH → XR) (i : Instr) (len pc : Nat) (ls : XL) (st : List XE) (σ : XH) (k : Nat → XL → List XE → XH → XR) : XR :=
  match i with
  | .iconst n => k (pc + len) ls (.inl (xk n) :: st) σ
  | .bipush n => k (pc + len) ls (.inl (xk n) :: st) σ
  | .sipush n => k (pc + len) ls (.inl (xk n) :: st) σ
  | .lconst n => k (pc + len) ls (.inr (.inl (lN n)) :: st) σ
  | .aconst_null => k (pc + len) ls (.inr (.inr none) :: st) σ
  | .ldc x => (match xqi (xow mi) x with
    | some v => k (pc + len) ls (.inl v :: st) σ
    | none => none)
  | .ldc_w x => (match xqi (xow mi) x with
    | some v => k (pc + len) ls (.inl v :: st) σ
    | none => none)
  | .ldc2_w x => (match xql (xow mi) x with
    | some v => k (pc + len) ls (.inr (.inl v) :: st) σ
    | none => none)
  | .iload j => (match xlg ls j with
    | some (.inl v) => k (pc + len) ls (.inl v :: st) σ
    | _ => none)
  | .iload_n j => (match xlg ls j with
    | some (.inl v) => k (pc + len) ls (.inl v :: st) σ
    | _ => none)
  | .lload j => (match xlg ls j with
    | some (.inr (.inl v)) => k (pc + len) ls (.inr (.inl v) :: st) σ
    | _ => none)
  | .lload_n j => (match xlg ls j with
    | some (.inr (.inl v)) => k (pc + len) ls (.inr (.inl v) :: st) σ
    | _ => none)
  | .aload j => (match xlg ls j with
    | some (.inr (.inr v)) => k (pc + len) ls (.inr (.inr v) :: st) σ
    | _ => none)
  | .aload_n j => (match xlg ls j with
    | some (.inr (.inr v)) => k (pc + len) ls (.inr (.inr v) :: st) σ
    | _ => none)
  | .istore j => (match st with
    | .inl v :: r => k (pc + len) (xst1 ls j (.inl v)) r σ
    | _ => none)
  | .istore_n j => (match st with
    | .inl v :: r => k (pc + len) (xst1 ls j (.inl v)) r σ
    | _ => none)
  | .lstore j => (match st with
    | .inr (.inl v) :: r => k (pc + len) (xst2 ls j v) r σ
    | _ => none)
  | .lstore_n j => (match st with
    | .inr (.inl v) :: r => k (pc + len) (xst2 ls j v) r σ
    | _ => none)
  | .astore j => (match st with
    | .inr (.inr v) :: r => k (pc + len) (xst1 ls j (.inr (.inr v))) r σ
    | _ => none)
  | .astore_n j => (match st with
    | .inr (.inr v) :: r => k (pc + len) (xst1 ls j (.inr (.inr v))) r σ
    | _ => none)
  | .iinc j n => (match xlg ls j with
    | some (.inl v) => k (pc + len) (xst1 ls j (.inl (v + xk n))) st σ
    | _ => none)
  | .iadd => (match st with
    | .inl y :: .inl x :: r => k (pc + len) ls (.inl (x + y) :: r) σ
    | _ => none)
  | .isub => (match st with
    | .inl y :: .inl x :: r => k (pc + len) ls (.inl (x - y) :: r) σ
    | _ => none)
  | .imul => (match st with
    | .inl y :: .inl x :: r => k (pc + len) ls (.inl (x * y) :: r) σ
    | _ => none)
  | .iand => (match st with
    | .inl y :: .inl x :: r => k (pc + len) ls (.inl (x &&& y) :: r) σ
    | _ => none)
  | .ior => (match st with
    | .inl y :: .inl x :: r => k (pc + len) ls (.inl (x ||| y) :: r) σ
    | _ => none)
  | .ishr => (match st with
    | .inl y :: .inl x :: r => k (pc + len) ls (.inl (x >>> (y &&& 31)) :: r) σ
    | _ => none)
  | .idiv => (match st with
    | .inl y :: .inl x :: r => if y = 0 then none else k (pc + len) ls (.inl (x / y) :: r) σ
    | _ => none)
  | .irem => (match st with
    | .inl y :: .inl x :: r => if y = 0 then none else k (pc + len) ls (.inl (x - x / y * y) :: r) σ
    | _ => none)
  | .ineg => (match st with
    | .inl x :: r => k (pc + len) ls (.inl (-x) :: r) σ
    | _ => none)
  | .ladd => (match st with
    | .inr (.inl y) :: .inr (.inl x) :: r => k (pc + len) ls (.inr (.inl (x + y)) :: r) σ
    | _ => none)
  | .lcmp => (match st with
    | .inr (.inl y) :: .inr (.inl x) :: r => k (pc + len) ls (.inl (lg_cmp x y) :: r) σ
    | _ => none)
  | .i2l => (match st with
    | .inl x :: r => k (pc + len) ls (.inr (.inl x.toInt64) :: r) σ
    | _ => none)
  | .pop => (match st with
    | .inl _ :: r => k (pc + len) ls r σ
    | .inr (.inr _) :: r => k (pc + len) ls r σ
    | _ => none)
  | .dup => (match st with
    | .inl x :: r => k (pc + len) ls (.inl x :: .inl x :: r) σ
    | .inr (.inr x) :: r => k (pc + len) ls (.inr (.inr x) :: .inr (.inr x) :: r) σ
    | _ => none)
  | .dup_x1 => (match st with
    | .inl x :: .inr (.inr y) :: r => k (pc + len) ls (.inl x :: .inr (.inr y) :: .inl x :: r) σ
    | _ => none)
  | .dup2 => (match st with
    | .inl x :: .inr (.inr y) :: r => k (pc + len) ls (.inl x :: .inr (.inr y) :: .inl x :: .inr (.inr y) :: r) σ
    | _ => none)
  | .goto off => xj pc off fun t => k t ls st σ
  | .ifCond c off => (match st with
    | .inl x :: r => (match c with
      | .eq => if x = 0 then xj pc off fun t => k t ls r σ else k (pc + len) ls r σ
      | .ne => if x = 0 then k (pc + len) ls r σ else xj pc off fun t => k t ls r σ
      | .lt => if x < 0 then xj pc off fun t => k t ls r σ else k (pc + len) ls r σ
      | .ge => if x < 0 then k (pc + len) ls r σ else xj pc off fun t => k t ls r σ
      | .gt => if 0 < x then xj pc off fun t => k t ls r σ else k (pc + len) ls r σ
      | .le => if 0 < x then k (pc + len) ls r σ else xj pc off fun t => k t ls r σ)
    | _ => none)
  | .if_icmp c off => (match st with
    | .inl y :: .inl x :: r => (match c with
      | .eq => if x = y then xj pc off fun t => k t ls r σ else k (pc + len) ls r σ
      | .ne => if x = y then k (pc + len) ls r σ else xj pc off fun t => k t ls r σ
      | .lt => if x < y then xj pc off fun t => k t ls r σ else k (pc + len) ls r σ
      | .ge => if x < y then k (pc + len) ls r σ else xj pc off fun t => k t ls r σ
      | .gt => if y < x then xj pc off fun t => k t ls r σ else k (pc + len) ls r σ
      | .le => if y < x then k (pc + len) ls r σ else xj pc off fun t => k t ls r σ)
    | _ => none)
  | .if_acmp c off => (match st with
    | .inr (.inr y) :: .inr (.inr x) :: r => (match c with
      | .eq => if x = y then xj pc off fun t => k t ls r σ else k (pc + len) ls r σ
      | .ne => if x = y then k (pc + len) ls r σ else xj pc off fun t => k t ls r σ)
    | _ => none)
  | .ifnull off => (match st with
    | .inr (.inr x) :: r => if x = none then xj pc off fun t => k t ls r σ else k (pc + len) ls r σ
    | _ => none)
  | .ifnonnull off => (match st with
    | .inr (.inr x) :: r => if x = none then k (pc + len) ls r σ else xj pc off fun t => k t ls r σ
    | _ => none)
  | .tableswitch d lo _ offs => (match st with
    | .inl x :: r => (match lo with
      | .ofNat n => xsw x (fun off => xj pc off fun t => k t ls r σ) d n offs.toList
      | .negSucc _ => none)
    | _ => none)
  | .getfield x => (match xfd (xow mi) x, st with
    | some (t, f, q), .inr (.inr a) :: r => (match q with
      | 1 => (xgl σ a t f).bind fun v => k (pc + len) ls (.inr (.inl v) :: r) σ
      | 2 => (xgr σ a t f).bind fun v => k (pc + len) ls (.inr (.inr v) :: r) σ
      | _ => (xgi σ a t f).bind fun v => k (pc + len) ls (.inl v :: r) σ)
    | _, _ => none)
  | .putfield x => (match xfd (xow mi) x, st with
    | some (t, f, q), e :: .inr (.inr a) :: r => (match q, e with
      | 0, .inl v => (xpt σ a t f (.inl v)).bind fun σ' => k (pc + len) ls r σ'
      | 1, .inr (.inl v) => (xpt σ a t f (.inr (.inl v))).bind fun σ' => k (pc + len) ls r σ'
      | 2, .inr (.inr v) => (xpt σ a t f (.inr (.inr v))).bind fun σ' => k (pc + len) ls r σ'
      | 3, .inl v => (xpz σ a t f v).bind fun σ' => k (pc + len) ls r σ'
      | _, _ => none)
    | _, _ => none)
  | .getstatic x => (match xsd (xow mi) x with
    | some j => k (pc + len) ls (.inr (.inr (some (xgs σ j))) :: st) σ
    | none => none)
  | .arraylength => (match st with
    | .inr (.inr a) :: r => (xln σ a).bind fun v => k (pc + len) ls (.inl v :: r) σ
    | _ => none)
  | .iaload => (match st with
    | .inl j :: .inr (.inr a) :: r => (xai σ a j).bind fun v => k (pc + len) ls (.inl v :: r) σ
    | _ => none)
  | .laload => (match st with
    | .inl j :: .inr (.inr a) :: r => (xal σ a j).bind fun v => k (pc + len) ls (.inr (.inl v) :: r) σ
    | _ => none)
  | .baload => (match st with
    | .inl j :: .inr (.inr a) :: r => (xaz σ a j).bind fun v => k (pc + len) ls (.inl v :: r) σ
    | _ => none)
  | .aaload => (match st with
    | .inl j :: .inr (.inr a) :: r => (xar σ a j).bind fun v => k (pc + len) ls (.inr (.inr v) :: r) σ
    | _ => none)
  | .iastore => (match st with
    | .inl v :: .inl j :: .inr (.inr a) :: r => (xsi σ a j v).bind fun σ' => k (pc + len) ls r σ'
    | _ => none)
  | .lastore => (match st with
    | .inr (.inl v) :: .inl j :: .inr (.inr a) :: r => (xsl σ a j v).bind fun σ' => k (pc + len) ls r σ'
    | _ => none)
  | .bastore => (match st with
    | .inl v :: .inl j :: .inr (.inr a) :: r => (xsz σ a j v).bind fun σ' => k (pc + len) ls r σ'
    | _ => none)
  | .aastore => (match st with
    | .inr (.inr v) :: .inl j :: .inr (.inr a) :: r => (xsr σ a j v).bind fun σ' => k (pc + len) ls r σ'
    | _ => none)
  | .new x => (match xcd (xow mi) x with
    | some c => (match c with
      | 50 => xth σ st 50
      | 51 => xth σ st 51
      | c => xnw σ (c, xdf c) fun a σ' => k (pc + len) ls (.inr (.inr (some a)) :: st) σ')
    | none => none)
  | .newarray t => (match st with
    | .inl n :: r => (match t with
      | .int => xnwa σ 100 (.inl 0) n fun a σ' => k (pc + len) ls (.inr (.inr (some a)) :: r) σ'
      | .long => xnwa σ 101 (.inr (.inl 0)) n fun a σ' => k (pc + len) ls (.inr (.inr (some a)) :: r) σ'
      | .boolean => xnwa σ 102 (.inl 0) n fun a σ' => k (pc + len) ls (.inr (.inr (some a)) :: r) σ'
      | _ => none)
    | _ => none)
  | .anewarray x => (match xcd (xow mi) x, st with
    | some c, .inl n :: r => xnwa σ (xoa c) (.inr (.inr none)) n fun a σ' => k (pc + len) ls (.inr (.inr (some a)) :: r) σ'
    | _, _ => none)
  | .invokevirtual x => xinv mi cal pc ls (xmd (xow mi) x) st σ k
  | .invokestatic x => xinv mi cal pc ls (xmd (xow mi) x) st σ k
  | .invokespecial x => xinv mi cal pc ls (xmd (xow mi) x) st σ k
  | .ireturn => (match st with
    | [.inl v] => (match xrk mi with
      | 1 => some (.inl (some (.inl v)), σ)
      | 4 => if v = 0 ∨ v = 1 then some (.inl (some (.inl v)), σ) else none
      | _ => none)
    | _ => none)
  | .lreturn => (match st with
    | [.inr (.inl v)] => (match xrk mi with
      | 2 => some (.inl (some (.inr (.inl v))), σ)
      | _ => none)
    | _ => none)
  | .areturn => (match st with
    | [.inr (.inr v)] => (match xrk mi with
      | 3 => some (.inl (some (.inr (.inr v))), σ)
      | _ => none)
    | _ => none)
  | .return_ => (match st with
    | [] => (match xrk mi with
      | 0 => some (.inl none, σ)
      | _ => none)
    | _ => none)
  | _ => none
/-- up to n instructions, as far as a cut -/
def xin (rec : Nat → XL → List XE → XH → XR) (cal : Nat → List XE → XH → XR) (mi : Nat) : Nat → Nat → XL → List XE → XH → XR
  | 0, _, _, _, _ => none
  | n + 1, pc, ls, st, σ => match xtb mi pc with
    | none => none
    | some (i, len) => xop mi cal i len pc ls st σ fun pc' ls' st' σ' => match xct mi pc' with
      | some bs => rec pc' (xmsk bs ls') st' σ'
      | none => xin rec cal mi n pc' ls' st' σ'
/-- a method from a place on; F counts cuts and calls -/
def xrun : Nat → Nat → Nat → XL → List XE → XH → XR
  | 0, _, _, _, _, _ => none
  | F + 1, mi, pc, ls, st, σ => xin (fun pc' ls' st' σ' => xrun F mi pc' ls' st' σ') (fun mj as σ' => bif Nat.ble (xent as).length (xmx mj) then xrun F mj 0 (xpad (xmx mj) (xent as)) [] σ' else none) mi 3000 pc ls st σ
end
section
def J0_init (F : Nat) (l0 : Option Nat) (l1 : Option Nat) (l2 : Option Nat) (s0 : XH) : XR := xrun F 0 0 [some (.inr (.inr (l0))), some (.inr (.inr (l1))), some (.inr (.inr (l2)))] [] s0
def J0_offerTask (F : Nat) (l0 : Option Nat) (l1 : Option Nat) (s0 : XH) : XR := xrun F 5 0 [some (.inr (.inr (l0))), some (.inr (.inr (l1))), none] [] s0
def J0_offerGroup (F : Nat) (l0 : Option Nat) (l1 : Option Nat) (s0 : XH) : XR := xrun F 6 0 [some (.inr (.inr (l0))), some (.inr (.inr (l1))), none] [] s0
def J1_isReady (F : Nat) (l0 : Option Nat) (s0 : XH) : XR := xrun F 20 0 [some (.inr (.inr (l0))), none] [] s0
def J1_isReady_14 (F : Nat) (l0 : Option Nat) (s0 : XH) : XR := xrun F 20 14 [some (.inr (.inr (l0))), none] [] s0
def J8_isReady (F : Nat) (l0 : Option Nat) (s0 : XH) : XR := xrun F 70 0 [some (.inr (.inr (l0)))] [] s0
def J0_look (F : Nat) (l0 : Option Nat) (l1 : Option Nat) (s0 : XH) : XR := xrun F 4 0 [some (.inr (.inr (l0))), some (.inr (.inr (l1))), none, none] [] s0
def J0_look_2 (F : Nat) (l0 : Option Nat) (l1 : Option Nat) (l2 : Int32) (s0 : XH) : XR := xrun F 4 2 [some (.inr (.inr (l0))), some (.inr (.inr (l1))), some (.inl (l2)), none] [] s0
def J0_look_47 (F : Nat) (l0 : Option Nat) (l1 : Option Nat) (l2 : Int32) (s0 : XH) : XR := xrun F 4 47 [some (.inr (.inr (l0))), some (.inr (.inr (l1))), some (.inl (l2)), none] [] s0
def J0_look_101 (F : Nat) (l0 : Option Nat) (l2 : Int32) (s0 : XH) : XR := xrun F 4 101 [some (.inr (.inr (l0))), none, some (.inl (l2)), none] [] s0
def J1_leadsToGroup (F : Nat) (l0 : Option Nat) (s0 : XH) : XR := xrun F 21 0 [some (.inr (.inr (l0)))] [] s0
def J2_madeAt (F : Nat) (l0 : Option Nat) (l1 : Int32) (s0 : XH) : XR := xrun F 25 0 [some (.inr (.inr (l0))), some (.inl (l1))] [] s0
def J0_choose (F : Nat) (l0 : Option Nat) (s0 : XH) : XR := xrun F 7 0 [some (.inr (.inr (l0))), none, none] [] s0
def J0_choose_11 (F : Nat) (l1 : Option Nat) (l2 : Option Nat) (s0 : XH) : XR := xrun F 7 11 [none, some (.inr (.inr (l1))), some (.inr (.inr (l2)))] [] s0
def J0_run (F : Nat) (l0 : Option Nat) (l1 : Option Nat) (s0 : XH) : XR := xrun F 8 0 [some (.inr (.inr (l0))), some (.inr (.inr (l1))), none] [] s0
def J0_run_27 (F : Nat) (l2 : Option Nat) (s0 : XH) : XR := xrun F 8 27 [none, none, some (.inr (.inr (l2)))] [] s0
def J0_beginPeriod (F : Nat) (l0 : Option Nat) (s0 : XH) : XR := xrun F 9 0 [some (.inr (.inr (l0))), none] [] s0
def J0_beginPeriod_2 (F : Nat) (l0 : Option Nat) (l1 : Int32) (s0 : XH) : XR := xrun F 9 2 [some (.inr (.inr (l0))), some (.inl (l1))] [] s0
def J0_tick (F : Nat) (l0 : Option Nat) (s0 : XH) : XR := xrun F 1 0 [some (.inr (.inr (l0))), none] [] s0
def J0_tick_19 (F : Nat) (l0 : Option Nat) (l1 : Option Nat) (s0 : XH) : XR := xrun F 1 19 [some (.inr (.inr (l0))), some (.inr (.inr (l1)))] [] s0
def J1_leastTime (F : Nat) (l0 : Option Nat) (s0 : XH) : XR := xrun F 22 0 [some (.inr (.inr (l0)))] [] s0
def J0_admit (F : Nat) (l0 : Option Nat) (l1 : Option Nat) (l2 : Int32) (s0 : XH) : XR := xrun F 2 0 [some (.inr (.inr (l0))), some (.inr (.inr (l1))), some (.inl (l2)), none, none] [] s0
def J0_admitGroup (F : Nat) (l0 : Option Nat) (l1 : Option Nat) (s0 : XH) : XR := xrun F 3 0 [some (.inr (.inr (l0))), some (.inr (.inr (l1)))] [] s0
def J1_init (F : Nat) (l0 : Option Nat) (l1 : Int32) (l2 : Option Nat) (s0 : XH) : XR := xrun F 10 0 [some (.inr (.inr (l0))), some (.inl (l1)), some (.inr (.inr (l2)))] [] s0
def J1_liesIn (F : Nat) (l0 : Option Nat) (l1 : Option Nat) (s0 : XH) : XR := xrun F 11 0 [some (.inr (.inr (l0))), some (.inr (.inr (l1))), none] [] s0
def J1_liesIn_2 (F : Nat) (l1 : Option Nat) (l2 : Option Nat) (s0 : XH) : XR := xrun F 11 2 [none, some (.inr (.inr (l1))), some (.inr (.inr (l2)))] [] s0
def J1_addUse (F : Nat) (l0 : Option Nat) (l1 : Int32) (s0 : XH) : XR := xrun F 12 0 [some (.inr (.inr (l0))), some (.inl (l1)), none] [] s0
def J1_addUse_2 (F : Nat) (l1 : Int32) (l2 : Option Nat) (s0 : XH) : XR := xrun F 12 2 [none, some (.inl (l1)), some (.inr (.inr (l2)))] [] s0
def J1_addLive (F : Nat) (l0 : Option Nat) (l1 : Int32) (s0 : XH) : XR := xrun F 13 0 [some (.inr (.inr (l0))), some (.inl (l1)), none] [] s0
def J1_addLive_2 (F : Nat) (l1 : Int32) (l2 : Option Nat) (s0 : XH) : XR := xrun F 13 2 [none, some (.inl (l1)), some (.inr (.inr (l2)))] [] s0
def J1_keepCached (F : Nat) (l0 : Option Nat) (l1 : Int32) (s0 : XH) : XR := xrun F 14 0 [some (.inr (.inr (l0))), some (.inl (l1))] [] s0
def J1_lacking (F : Nat) (l0 : Option Nat) (l1 : Int32) (s0 : XH) : XR := xrun F 15 0 [some (.inr (.inr (l0))), some (.inl (l1))] [] s0
def J1_takesTask (F : Nat) (l0 : Option Nat) (s0 : XH) : XR := xrun F 16 0 [some (.inr (.inr (l0))), none] [] s0
def J1_takesTask_2 (F : Nat) (l1 : Option Nat) (s0 : XH) : XR := xrun F 16 2 [none, some (.inr (.inr (l1)))] [] s0
def J1_takesFrom (F : Nat) (l0 : Option Nat) (l1 : Option Nat) (s0 : XH) : XR := xrun F 17 0 [some (.inr (.inr (l0))), some (.inr (.inr (l1))), none] [] s0
def J1_takesFrom_2 (F : Nat) (l1 : Option Nat) (l2 : Option Nat) (s0 : XH) : XR := xrun F 17 2 [none, some (.inr (.inr (l1))), some (.inr (.inr (l2)))] [] s0
def J1_holdsMoreThan (F : Nat) (l0 : Option Nat) (l1 : Int32) (l2 : Int32) (s0 : XH) : XR := xrun F 18 0 [some (.inr (.inr (l0))), some (.inl (l1)), some (.inl (l2))] [] s0
def J1_tell (F : Nat) (l0 : Option Nat) (l1 : Int32) (s0 : XH) : XR := xrun F 23 0 [some (.inr (.inr (l0))), some (.inl (l1))] [] s0
def J1_change (F : Nat) (l0 : Option Nat) (l1 : Int32) (l2 : Int32) (s0 : XH) : XR := xrun F 19 0 [some (.inr (.inr (l0))), some (.inl (l1)), some (.inl (l2)), none] [] s0
def J2_init (F : Nat) (l0 : Option Nat) (s0 : XH) : XR := xrun F 24 0 [some (.inr (.inr (l0)))] [] s0
def J2_hasRoom (F : Nat) (l0 : Option Nat) (l1 : Option Nat) (s0 : XH) : XR := xrun F 26 0 [some (.inr (.inr (l0))), some (.inr (.inr (l1)))] [] s0
def J2_open (F : Nat) (l0 : Option Nat) (l1 : Option Nat) (s0 : XH) : XR := xrun F 27 0 [some (.inr (.inr (l0))), some (.inr (.inr (l1))), none] [] s0
def J2_richestIn (F : Nat) (l0 : Option Nat) (l1 : Option Nat) (s0 : XH) : XR := xrun F 28 0 [some (.inr (.inr (l0))), some (.inr (.inr (l1))), none, none, none] [] s0
def J2_richestIn_4 (F : Nat) (l0 : Option Nat) (l1 : Option Nat) (l2 : Option Nat) (l3 : Int32) (s0 : XH) : XR := xrun F 28 4 [some (.inr (.inr (l0))), some (.inr (.inr (l1))), some (.inr (.inr (l2))), some (.inl (l3)), none] [] s0
def J3_init (F : Nat) (l0 : Option Nat) (l1 : Option Nat) (l2 : Option Nat) (s0 : XH) : XR := xrun F 29 0 [some (.inr (.inr (l0))), some (.inr (.inr (l1))), some (.inr (.inr (l2)))] [] s0
def J3_takeCaches (F : Nat) (l0 : Option Nat) (l1 : Option Nat) (l2 : Int32) (s0 : XH) : XR := xrun F 31 0 [some (.inr (.inr (l0))), some (.inr (.inr (l1))), some (.inl (l2)), none, none] [] s0
def J3_takeCaches_2 (F : Nat) (l0 : Option Nat) (l1 : Option Nat) (l2 : Int32) (l3 : Int32) (s0 : XH) : XR := xrun F 31 2 [some (.inr (.inr (l0))), some (.inr (.inr (l1))), some (.inl (l2)), some (.inl (l3)), none] [] s0
def J8_heir (F : Nat) (l0 : Option Nat) (s0 : XH) : XR := xrun F 74 0 [some (.inr (.inr (l0)))] [] s0
def J9_retire (F : Nat) (l0 : Option Nat) (l1 : Option Nat) (s0 : XH) : XR := xrun F 88 0 [some (.inr (.inr (l0))), some (.inr (.inr (l1))), none, none] [] s0
def J9_retire_37 (F : Nat) (l0 : Option Nat) (l1 : Option Nat) (l2 : Option Nat) (l3 : Int32) (s0 : XH) : XR := xrun F 88 37 [some (.inr (.inr (l0))), some (.inr (.inr (l1))), some (.inr (.inr (l2))), some (.inl (l3))] [] s0
def J7_liesIn (F : Nat) (l0 : Option Nat) (l1 : Option Nat) (s0 : XH) : XR := xrun F 63 0 [some (.inr (.inr (l0))), some (.inr (.inr (l1))), none] [] s0
def J7_liesIn_2 (F : Nat) (l1 : Option Nat) (l2 : Option Nat) (s0 : XH) : XR := xrun F 63 2 [none, some (.inr (.inr (l1))), some (.inr (.inr (l2)))] [] s0
def J7_drop (F : Nat) (l0 : Option Nat) (l1 : Option Nat) (s0 : XH) : XR := xrun F 66 0 [some (.inr (.inr (l0))), some (.inr (.inr (l1))), none] [] s0
def J7_drop_2 (F : Nat) (l0 : Option Nat) (l1 : Option Nat) (l2 : Int32) (s0 : XH) : XR := xrun F 66 2 [some (.inr (.inr (l0))), some (.inr (.inr (l1))), some (.inl (l2))] [] s0
def J8_vanish (F : Nat) (l0 : Option Nat) (s0 : XH) : XR := xrun F 77 0 [some (.inr (.inr (l0))), none] [] s0
def J8_vanish_15 (F : Nat) (l0 : Option Nat) (l1 : Option Nat) (s0 : XH) : XR := xrun F 77 15 [some (.inr (.inr (l0))), some (.inr (.inr (l1)))] [] s0
def J9_emptySpace (F : Nat) (l0 : Option Nat) (l1 : Option Nat) (s0 : XH) : XR := xrun F 89 0 [some (.inr (.inr (l0))), some (.inr (.inr (l1))), none, none, none] [] s0
def J9_emptySpace_4 (F : Nat) (l0 : Option Nat) (l1 : Option Nat) (l2 : Int32) (l3 : Int32) (s0 : XH) : XR := xrun F 89 4 [some (.inr (.inr (l0))), some (.inr (.inr (l1))), some (.inl (l2)), some (.inl (l3)), none] [] s0
def J8_isLostZombie (F : Nat) (l0 : Option Nat) (s0 : XH) : XR := xrun F 73 0 [some (.inr (.inr (l0)))] [] s0
def J9_dropLostZombies (F : Nat) (l0 : Option Nat) (s0 : XH) : XR := xrun F 90 0 [some (.inr (.inr (l0))), none] [] s0
def J9_dropLostZombies_2 (F : Nat) (l0 : Option Nat) (l1 : Int32) (s0 : XH) : XR := xrun F 90 2 [some (.inr (.inr (l0))), some (.inl (l1))] [] s0
def J9_end (F : Nat) (l0 : Option Nat) (l1 : Option Nat) (s0 : XH) : XR := xrun F 87 0 [some (.inr (.inr (l0))), some (.inr (.inr (l1))), none] [] s0
def J8_mayBeKilled (F : Nat) (l0 : Option Nat) (s0 : XH) : XR := xrun F 71 0 [some (.inr (.inr (l0)))] [] s0
def J8_score (F : Nat) (l0 : Option Nat) (s0 : XH) : XR := xrun F 72 0 [some (.inr (.inr (l0)))] [] s0
def J9_victimIn (F : Nat) (l0 : Option Nat) (l1 : Option Nat) (s0 : XH) : XR := xrun F 92 0 [some (.inr (.inr (l0))), some (.inr (.inr (l1))), none, none, none] [] s0
def J9_victimIn_4 (F : Nat) (l0 : Option Nat) (l1 : Option Nat) (l2 : Option Nat) (l3 : Int32) (s0 : XH) : XR := xrun F 92 4 [some (.inr (.inr (l0))), some (.inr (.inr (l1))), some (.inr (.inr (l2))), some (.inl (l3)), none] [] s0
def J3_killVictims (F : Nat) (l0 : Option Nat) (l1 : Option Nat) (l2 : Option Nat) (l3 : Int32) (s0 : XH) : XR := xrun F 32 0 [some (.inr (.inr (l0))), some (.inr (.inr (l1))), some (.inr (.inr (l2))), some (.inl (l3)), none, none] [] s0
def J3_killVictims_3 (F : Nat) (l0 : Option Nat) (l1 : Option Nat) (l2 : Option Nat) (l3 : Int32) (l4 : Int32) (s0 : XH) : XR := xrun F 32 3 [some (.inr (.inr (l0))), some (.inr (.inr (l1))), some (.inr (.inr (l2))), some (.inl (l3)), some (.inl (l4)), none] [] s0
def J3_makeRoom (F : Nat) (l0 : Option Nat) (l1 : Option Nat) (l2 : Int32) (s0 : XH) : XR := xrun F 30 0 [some (.inr (.inr (l0))), some (.inr (.inr (l1))), some (.inl (l2)), none, none] [] s0
def J3_makeRoom_5 (F : Nat) (l0 : Option Nat) (l1 : Option Nat) (l2 : Int32) (l3 : Option Nat) (s0 : XH) : XR := xrun F 30 5 [some (.inr (.inr (l0))), some (.inr (.inr (l1))), some (.inl (l2)), some (.inr (.inr (l3))), none] [] s0
def J4_init (F : Nat) (l0 : Option Nat) (l1 : Int32) (s0 : XH) : XR := xrun F 33 0 [some (.inr (.inr (l0))), some (.inl (l1))] [] s0
def J4_begin (F : Nat) (l0 : Option Nat) (l1 : Option Nat) (l2 : Int32) (l3 : Int32) (s0 : XH) : XR := xrun F 34 0 [some (.inr (.inr (l0))), some (.inr (.inr (l1))), some (.inl (l2)), some (.inl (l3))] [] s0
def J4_over (F : Nat) (l0 : Option Nat) (l1 : Int32) (s0 : XH) : XR := xrun F 35 0 [some (.inr (.inr (l0))), some (.inl (l1))] [] s0
def J4_cover (F : Nat) (l0 : Option Nat) (l1 : Int32) (l2 : Option Nat) (s0 : XH) : XR := xrun F 36 0 [some (.inr (.inr (l0))), some (.inl (l1)), some (.inr (.inr (l2)))] [] s0
def J4_putOn (F : Nat) (l0 : Option Nat) (l1 : Option Nat) (l2 : Int32) (s0 : XH) : XR := xrun F 37 0 [some (.inr (.inr (l0))), some (.inr (.inr (l1))), some (.inl (l2))] [] s0
def J4_takeOff (F : Nat) (l0 : Option Nat) (s0 : XH) : XR := xrun F 38 0 [some (.inr (.inr (l0)))] [] s0
def J4_tell (F : Nat) (l0 : Option Nat) (l1 : Int32) (s0 : XH) : XR := xrun F 39 0 [some (.inr (.inr (l0))), some (.inl (l1))] [] s0
def J6_init (F : Nat) (l0 : Option Nat) (s0 : XH) : XR := xrun F 57 0 [some (.inr (.inr (l0)))] [] s0
def J5_init (F : Nat) (l0 : Option Nat) (s0 : XH) : XR := xrun F 40 0 [some (.inr (.inr (l0))), none] [] s0
def J5_init_35 (F : Nat) (l0 : Option Nat) (l1 : Int32) (s0 : XH) : XR := xrun F 40 35 [some (.inr (.inr (l0))), some (.inl (l1))] [] s0
def J5_viewAt (F : Nat) (l0 : Option Nat) (l1 : Int32) (s0 : XH) : XR := xrun F 41 0 [some (.inr (.inr (l0))), some (.inl (l1))] [] s0
def J5_mountAt (F : Nat) (l0 : Option Nat) (l1 : Int32) (s0 : XH) : XR := xrun F 42 0 [some (.inr (.inr (l0))), some (.inl (l1))] [] s0
def J10_init (F : Nat) (l0 : Option Nat) (l1 : Int32) (s0 : XH) : XR := xrun F 93 0 [some (.inr (.inr (l0))), some (.inl (l1))] [] s0
def J5_addView (F : Nat) (l0 : Option Nat) (s0 : XH) : XR := xrun F 44 0 [some (.inr (.inr (l0))), none] [] s0
def J5_occupy (F : Nat) (l0 : Option Nat) (l1 : Option Nat) (l2 : Int32) (l3 : Int32) (s0 : XH) : XR := xrun F 45 0 [some (.inr (.inr (l0))), some (.inr (.inr (l1))), some (.inl (l2)), some (.inl (l3)), none] [] s0
def J5_occupy_3 (F : Nat) (l0 : Option Nat) (l1 : Option Nat) (l2 : Int32) (l3 : Int32) (l4 : Int32) (s0 : XH) : XR := xrun F 45 3 [some (.inr (.inr (l0))), some (.inr (.inr (l1))), some (.inl (l2)), some (.inl (l3)), some (.inl (l4))] [] s0
def J5_openView (F : Nat) (l0 : Option Nat) (s0 : XH) : XR := xrun F 43 0 [some (.inr (.inr (l0))), none] [] s0
def J5_newPeer (F : Nat) (l0 : Option Nat) (l1 : Int32) (s0 : XH) : XR := xrun F 46 0 [some (.inr (.inr (l0))), some (.inl (l1))] [] s0
def J5_changePeer (F : Nat) (l0 : Option Nat) (l1 : Option Nat) (l2 : Int32) (s0 : XH) : XR := xrun F 47 0 [some (.inr (.inr (l0))), some (.inr (.inr (l1))), some (.inl (l2)), none] [] s0
def J5_canCopy (F : Nat) (l0 : Option Nat) (l1 : Option Nat) (s0 : XH) : XR := xrun F 48 0 [some (.inr (.inr (l0))), some (.inr (.inr (l1))), none, none] [] s0
def J5_canCopy_4 (F : Nat) (l0 : Option Nat) (l1 : Option Nat) (l2 : Int32) (l3 : Int32) (s0 : XH) : XR := xrun F 48 4 [some (.inr (.inr (l0))), some (.inr (.inr (l1))), some (.inl (l2)), some (.inl (l3))] [] s0
def J5_placeTwin (F : Nat) (l0 : Option Nat) (s0 : XH) : XR := xrun F 50 0 [some (.inr (.inr (l0)))] [] s0
def J5_copyView (F : Nat) (l0 : Option Nat) (l1 : Option Nat) (s0 : XH) : XR := xrun F 49 0 [some (.inr (.inr (l0))), some (.inr (.inr (l1))), none, none] [] s0
def J5_copyView_7 (F : Nat) (l0 : Option Nat) (l1 : Option Nat) (l2 : Option Nat) (l3 : Int32) (s0 : XH) : XR := xrun F 49 7 [some (.inr (.inr (l0))), some (.inr (.inr (l1))), some (.inr (.inr (l2))), some (.inl (l3))] [] s0
def J5_copyView_66 (F : Nat) (l0 : Option Nat) (l1 : Option Nat) (l2 : Option Nat) (l3 : Int32) (s0 : XH) : XR := xrun F 49 66 [some (.inr (.inr (l0))), some (.inr (.inr (l1))), some (.inr (.inr (l2))), some (.inl (l3))] [] s0
def J5_addOne (F : Nat) (l0 : Option Nat) (l1 : Option Nat) (l2 : Int32) (l3 : Int32) (l4 : Int32) (s0 : XH) : XR := xrun F 52 0 [some (.inr (.inr (l0))), some (.inr (.inr (l1))), some (.inl (l2)), some (.inl (l3)), some (.inl (l4)), none] [] s0
def J5_isPeer (F : Nat) (l0 : Option Nat) (l1 : Option Nat) (s0 : XH) : XR := xrun F 54 0 [some (.inr (.inr (l0))), some (.inr (.inr (l1)))] [] s0
def J5_placesFor (F : Nat) (l0 : Option Nat) (l1 : Option Nat) (l2 : Int32) (s0 : XH) : XR := xrun F 53 0 [some (.inr (.inr (l0))), some (.inr (.inr (l1))), some (.inl (l2)), none, none] [] s0
def J5_placesFor_5 (F : Nat) (l0 : Option Nat) (l1 : Option Nat) (l2 : Int32) (l3 : Int32) (l4 : Int32) (s0 : XH) : XR := xrun F 53 5 [some (.inr (.inr (l0))), some (.inr (.inr (l1))), some (.inl (l2)), some (.inl (l3)), some (.inl (l4))] [] s0
def J5_add (F : Nat) (l0 : Option Nat) (l1 : Option Nat) (l2 : Int32) (l3 : Int32) (l4 : Int32) (s0 : XH) : XR := xrun F 51 0 [some (.inr (.inr (l0))), some (.inr (.inr (l1))), some (.inl (l2)), some (.inl (l3)), some (.inl (l4)), none, none, none] [] s0
def J5_add_41 (F : Nat) (l0 : Option Nat) (l1 : Option Nat) (l2 : Int32) (l3 : Int32) (l5 : Int32) (l6 : Int32) (l7 : Int32) (s0 : XH) : XR := xrun F 51 41 [some (.inr (.inr (l0))), some (.inr (.inr (l1))), some (.inl (l2)), some (.inl (l3)), none, some (.inl (l5)), some (.inl (l6)), some (.inl (l7))] [] s0
def J5_removeOne (F : Nat) (l0 : Option Nat) (l1 : Option Nat) (s0 : XH) : XR := xrun F 56 0 [some (.inr (.inr (l0))), some (.inr (.inr (l1)))] [] s0
def J5_remove (F : Nat) (l0 : Option Nat) (l1 : Option Nat) (s0 : XH) : XR := xrun F 55 0 [some (.inr (.inr (l0))), some (.inr (.inr (l1))), none, none, none, none, none] [] s0
def J5_remove_37 (F : Nat) (l0 : Option Nat) (l1 : Option Nat) (l2 : Option Nat) (l3 : Int32) (l4 : Int32) (l5 : Int32) (s0 : XH) : XR := xrun F 55 37 [some (.inr (.inr (l0))), some (.inr (.inr (l1))), some (.inr (.inr (l2))), some (.inl (l3)), some (.inl (l4)), some (.inl (l5)), none] [] s0
def J6_highestBit (F : Nat) (l0 : Int32) (s0 : XH) : XR := xrun F 59 0 [some (.inl (l0)), none] [] s0
def J6_highestBit_3 (F : Nat) (l0 : Int32) (l1 : Int32) (s0 : XH) : XR := xrun F 59 3 [some (.inl (l0)), some (.inl (l1))] [] s0
def J6_enter (F : Nat) (l0 : Option Nat) (l1 : Option Nat) (l2 : Int32) (s0 : XH) : XR := xrun F 60 0 [some (.inr (.inr (l0))), some (.inr (.inr (l1))), some (.inl (l2)), none] [] s0
def J6_enter_16 (F : Nat) (l0 : Option Nat) (l3 : Option Nat) (s0 : XH) : XR := xrun F 60 16 [some (.inr (.inr (l0))), none, none, some (.inr (.inr (l3)))] [] s0
def J6_reach (F : Nat) (l0 : Option Nat) (l1 : Option Nat) (l2 : Int32) (s0 : XH) : XR := xrun F 58 0 [some (.inr (.inr (l0))), some (.inr (.inr (l1))), some (.inl (l2)), none] [] s0
def J6_reach_23 (F : Nat) (l0 : Option Nat) (l2 : Int32) (l3 : Int32) (s0 : XH) : XR := xrun F 58 23 [some (.inr (.inr (l0))), none, some (.inl (l2)), some (.inl (l3))] [] s0
def J6_code (F : Nat) (l0 : Option Nat) (s0 : XH) : XR := xrun F 61 0 [some (.inr (.inr (l0)))] [] s0
def J7_init (F : Nat) (l0 : Option Nat) (l1 : Int32) (l2 : Option Nat) (s0 : XH) : XR := xrun F 62 0 [some (.inr (.inr (l0))), some (.inl (l1)), some (.inr (.inr (l2)))] [] s0
def J7_nextNumber (F : Nat) (l0 : Option Nat) (s0 : XH) : XR := xrun F 64 0 [some (.inr (.inr (l0))), none, none] [] s0
def J7_nextNumber_7 (F : Nat) (l0 : Option Nat) (l1 : Int32) (l2 : Int32) (s0 : XH) : XR := xrun F 64 7 [some (.inr (.inr (l0))), some (.inl (l1)), some (.inl (l2))] [] s0
def J7_take (F : Nat) (l0 : Option Nat) (l1 : Option Nat) (s0 : XH) : XR := xrun F 65 0 [some (.inr (.inr (l0))), some (.inr (.inr (l1))), none] [] s0
def J7_holder (F : Nat) (l0 : Option Nat) (l1 : Int32) (s0 : XH) : XR := xrun F 67 0 [some (.inr (.inr (l0))), some (.inl (l1))] [] s0
def J7_numberOf (F : Nat) (l0 : Option Nat) (l1 : Option Nat) (s0 : XH) : XR := xrun F 68 0 [some (.inr (.inr (l0))), some (.inr (.inr (l1))), none] [] s0
def J7_numberOf_2 (F : Nat) (l0 : Option Nat) (l1 : Option Nat) (l2 : Int32) (s0 : XH) : XR := xrun F 68 2 [some (.inr (.inr (l0))), some (.inr (.inr (l1))), some (.inl (l2))] [] s0
def J8_init (F : Nat) (l0 : Option Nat) (l1 : Int32) (l2 : Option Nat) (l3 : Option Nat) (l4 : Option Nat) (l5 : Option Nat) (s0 : XH) : XR := xrun F 69 0 [some (.inr (.inr (l0))), some (.inl (l1)), some (.inr (.inr (l2))), some (.inr (.inr (l3))), some (.inr (.inr (l4))), some (.inr (.inr (l5)))] [] s0
def J8_hold (F : Nat) (l0 : Option Nat) (l1 : Int32) (s0 : XH) : XR := xrun F 75 0 [some (.inr (.inr (l0))), some (.inl (l1))] [] s0
def J8_changeGroup (F : Nat) (l0 : Option Nat) (l1 : Option Nat) (s0 : XH) : XR := xrun F 76 0 [some (.inr (.inr (l0))), some (.inr (.inr (l1)))] [] s0
def J8_tell (F : Nat) (l0 : Option Nat) (l1 : Int32) (s0 : XH) : XR := xrun F 78 0 [some (.inr (.inr (l0))), some (.inl (l1))] [] s0
def J9_init (F : Nat) (l0 : Option Nat) (s0 : XH) : XR := xrun F 79 0 [some (.inr (.inr (l0)))] [] s0
def J9_everMade (F : Nat) (l0 : Option Nat) (l1 : Int32) (s0 : XH) : XR := xrun F 80 0 [some (.inr (.inr (l0))), some (.inl (l1))] [] s0
def J9_living (F : Nat) (l0 : Option Nat) (l1 : Int32) (s0 : XH) : XR := xrun F 81 0 [some (.inr (.inr (l0))), some (.inl (l1)), none] [] s0
def J9_spaceAt (F : Nat) (l0 : Option Nat) (l1 : Int32) (s0 : XH) : XR := xrun F 82 0 [some (.inr (.inr (l0))), some (.inl (l1))] [] s0
def J9_inState (F : Nat) (l0 : Option Nat) (l1 : Int32) (s0 : XH) : XR := xrun F 83 0 [some (.inr (.inr (l0))), some (.inl (l1)), none, none] [] s0
def J9_inState_4 (F : Nat) (l0 : Option Nat) (l1 : Int32) (l2 : Int32) (l3 : Int32) (s0 : XH) : XR := xrun F 83 4 [some (.inr (.inr (l0))), some (.inl (l1)), some (.inl (l2)), some (.inl (l3))] [] s0
def J9_hasRoom (F : Nat) (l0 : Option Nat) (l1 : Option Nat) (l2 : Int32) (s0 : XH) : XR := xrun F 84 0 [some (.inr (.inr (l0))), some (.inr (.inr (l1))), some (.inl (l2)), none] [] s0
def J9_hasRoom_37 (F : Nat) (l3 : Option Nat) (s0 : XH) : XR := xrun F 84 37 [none, none, none, some (.inr (.inr (l3)))] [] s0
def J9_openSpace (F : Nat) (l0 : Option Nat) (l1 : Option Nat) (s0 : XH) : XR := xrun F 85 0 [some (.inr (.inr (l0))), some (.inr (.inr (l1))), none] [] s0
def J9_bear (F : Nat) (l0 : Option Nat) (l1 : Option Nat) (l2 : Option Nat) (l3 : Option Nat) (l4 : Option Nat) (s0 : XH) : XR := xrun F 86 0 [some (.inr (.inr (l0))), some (.inr (.inr (l1))), some (.inr (.inr (l2))), some (.inr (.inr (l3))), some (.inr (.inr (l4))), none, none] [] s0
def J9_bear_52 (F : Nat) (l3 : Option Nat) (l5 : Option Nat) (l6 : Option Nat) (s0 : XH) : XR := xrun F 86 52 [none, none, none, some (.inr (.inr (l3))), none, some (.inr (.inr (l5))), some (.inr (.inr (l6)))] [] s0
def J9_bury (F : Nat) (l0 : Option Nat) (l1 : Option Nat) (s0 : XH) : XR := xrun F 91 0 [some (.inr (.inr (l0))), some (.inr (.inr (l1))), none, none] [] s0
def J9_bury_2 (F : Nat) (l1 : Option Nat) (l2 : Int32) (s0 : XH) : XR := xrun F 91 2 [none, some (.inr (.inr (l1))), some (.inl (l2)), none] [] s0
def J11_init (F : Nat) (l0 : Option Nat) (s0 : XH) : XR := xrun F 94 0 [some (.inr (.inr (l0)))] [] s0
def J11_fork (F : Nat) (l0 : Option Nat) (l1 : Int32) (l2 : Int32) (l3 : Int32) (s0 : XH) : XR := xrun F 95 0 [some (.inr (.inr (l0))), some (.inl (l1)), some (.inl (l2)), some (.inl (l3)), none, none, none, none] [] s0
def J11_fork_69 (F : Nat) (l0 : Option Nat) (l2 : Int32) (l3 : Int32) (l4 : Option Nat) (s0 : XH) : XR := xrun F 95 69 [some (.inr (.inr (l0))), none, some (.inl (l2)), some (.inl (l3)), some (.inr (.inr (l4))), none, none, none] [] s0
def J11_exit (F : Nat) (l0 : Option Nat) (l1 : Int32) (s0 : XH) : XR := xrun F 96 0 [some (.inr (.inr (l0))), some (.inl (l1)), none] [] s0
def J11_reap (F : Nat) (l0 : Option Nat) (l1 : Int32) (s0 : XH) : XR := xrun F 97 0 [some (.inr (.inr (l0))), some (.inl (l1)), none] [] s0
def J11_kill (F : Nat) (l0 : Option Nat) (l1 : Int32) (l2 : Int32) (s0 : XH) : XR := xrun F 98 0 [some (.inr (.inr (l0))), some (.inl (l1)), some (.inl (l2)), none, none, none] [] s0
def J11_kill_54 (F : Nat) (l0 : Option Nat) (l4 : Option Nat) (s0 : XH) : XR := xrun F 98 54 [some (.inr (.inr (l0))), none, none, none, some (.inr (.inr (l4))), none] [] s0
def J11_number (F : Nat) (l0 : Option Nat) (l1 : Int32) (l2 : Int32) (s0 : XH) : XR := xrun F 99 0 [some (.inr (.inr (l0))), some (.inl (l1)), some (.inl (l2)), none, none] [] s0
def J11_find (F : Nat) (l0 : Option Nat) (l1 : Int32) (l2 : Int32) (s0 : XH) : XR := xrun F 100 0 [some (.inr (.inr (l0))), some (.inl (l1)), some (.inl (l2)), none, none] [] s0
def J11_task (F : Nat) (l0 : Option Nat) (l1 : Int32) (l2 : Int32) (s0 : XH) : XR := xrun F 101 0 [some (.inr (.inr (l0))), some (.inl (l1)), some (.inl (l2)), none] [] s0
def J11_count (F : Nat) (l0 : Option Nat) (l1 : Int32) (s0 : XH) : XR := xrun F 102 0 [some (.inr (.inr (l0))), some (.inl (l1))] [] s0
def J11_group (F : Nat) (l0 : Option Nat) (l1 : Int32) (s0 : XH) : XR := xrun F 103 0 [some (.inr (.inr (l0))), some (.inl (l1)), none, none] [] s0
def J11_set (F : Nat) (l0 : Option Nat) (l1 : Int32) (l2 : Int32) (l3 : Int32) (s0 : XH) : XR := xrun F 104 0 [some (.inr (.inr (l0))), some (.inl (l1)), some (.inl (l2)), some (.inl (l3)), none] [] s0
def J11_told (F : Nat) (l0 : Option Nat) (l1 : Int32) (l2 : Int32) (s0 : XH) : XR := xrun F 105 0 [some (.inr (.inr (l0))), some (.inl (l1)), some (.inl (l2)), none] [] s0
def J11_charge (F : Nat) (l0 : Option Nat) (l1 : Int32) (l2 : Int32) (s0 : XH) : XR := xrun F 106 0 [some (.inr (.inr (l0))), some (.inl (l1)), some (.inl (l2)), none, none] [] s0
def J11_release (F : Nat) (l0 : Option Nat) (l1 : Int32) (l2 : Int32) (s0 : XH) : XR := xrun F 107 0 [some (.inr (.inr (l0))), some (.inl (l1)), some (.inl (l2)), none] [] s0
def J11_cache (F : Nat) (l0 : Option Nat) (l1 : Int32) (l2 : Int32) (s0 : XH) : XR := xrun F 108 0 [some (.inr (.inr (l0))), some (.inl (l1)), some (.inl (l2)), none, none] [] s0
def J11_move (F : Nat) (l0 : Option Nat) (l1 : Int32) (l2 : Int32) (s0 : XH) : XR := xrun F 109 0 [some (.inr (.inr (l0))), some (.inl (l1)), some (.inl (l2)), none, none] [] s0
def J11_badness (F : Nat) (l0 : Option Nat) (l1 : Int32) (l2 : Int32) (s0 : XH) : XR := xrun F 110 0 [some (.inr (.inr (l0))), some (.inl (l1)), some (.inl (l2)), none] [] s0
def J11_ticks (F : Nat) (l0 : Option Nat) (l1 : Int32) (s0 : XH) : XR := xrun F 111 0 [some (.inr (.inr (l0))), some (.inl (l1)), none, none] [] s0
def J11_ticks_25 (F : Nat) (l0 : Option Nat) (l1 : Int32) (l2 : Option Nat) (l3 : Int32) (s0 : XH) : XR := xrun F 111 25 [some (.inr (.inr (l0))), some (.inl (l1)), some (.inr (.inr (l2))), some (.inl (l3))] [] s0
def J11_sleep (F : Nat) (l0 : Option Nat) (l1 : Int32) (l2 : Int32) (s0 : XH) : XR := xrun F 112 0 [some (.inr (.inr (l0))), some (.inl (l1)), some (.inl (l2)), none] [] s0
def J11_ran (F : Nat) (l0 : Option Nat) (l1 : Int32) (s0 : XH) : XR := xrun F 113 0 [some (.inr (.inr (l0))), some (.inl (l1)), none] [] s0
def J11_time (F : Nat) (l0 : Option Nat) (l1 : Int32) (l2 : Int32) (s0 : XH) : XR := xrun F 114 0 [some (.inr (.inr (l0))), some (.inl (l1)), some (.inl (l2)), none] [] s0
def J11_mount (F : Nat) (l0 : Option Nat) (l1 : Int32) (l2 : Int32) (l3 : Int32) (l4 : Int32) (s0 : XH) : XR := xrun F 115 0 [some (.inr (.inr (l0))), some (.inl (l1)), some (.inl (l2)), some (.inl (l3)), some (.inl (l4)), none, none] [] s0
def J11_unmount (F : Nat) (l0 : Option Nat) (l1 : Int32) (l2 : Int32) (s0 : XH) : XR := xrun F 116 0 [some (.inr (.inr (l0))), some (.inl (l1)), some (.inl (l2)), none, none] [] s0
def J11_at (F : Nat) (l0 : Option Nat) (l1 : Int32) (l2 : Int32) (s0 : XH) : XR := xrun F 117 0 [some (.inr (.inr (l0))), some (.inl (l1)), some (.inl (l2)), none, none] [] s0
def J11_share (F : Nat) (l0 : Option Nat) (l1 : Int32) (l2 : Int32) (s0 : XH) : XR := xrun F 118 0 [some (.inr (.inr (l0))), some (.inl (l1)), some (.inl (l2)), none] [] s0
def J11_mounted (F : Nat) (l0 : Option Nat) (l1 : Int32) (l2 : Int32) (s0 : XH) : XR := xrun F 119 0 [some (.inr (.inr (l0))), some (.inl (l1)), some (.inl (l2)), none] [] s0
def J12_newGroup (F : Nat) (l0 : Option Nat) (l1 : Int32) (s0 : XH) : XR := xrun F 144 0 [some (.inr (.inr (l0))), some (.inl (l1)), none] [] s0
def J12_make (F : Nat) (l0 : Option Nat) (l1 : Int32) (l2 : Int32) (l3 : Int32) (l4 : Int32) (l5 : Int32) (s0 : XH) : XR := xrun F 168 0 [some (.inr (.inr (l0))), some (.inl (l1)), some (.inl (l2)), some (.inl (l3)), some (.inl (l4)), some (.inl (l5)), none] [] s0
def J12_make_3 (F : Nat) (l0 : Option Nat) (l1 : Int32) (l2 : Int32) (l3 : Int32) (l4 : Int32) (l5 : Int32) (l6 : Int32) (s0 : XH) : XR := xrun F 168 3 [some (.inr (.inr (l0))), some (.inl (l1)), some (.inl (l2)), some (.inl (l3)), some (.inl (l4)), some (.inl (l5)), some (.inl (l6))] [] s0
def J12_init (F : Nat) (l0 : Option Nat) (s0 : XH) : XR := xrun F 120 0 [some (.inr (.inr (l0)))] [] s0
def J12_thrown (F : Nat) (l0 : Option Nat) (s0 : XH) : XR := xrun F 121 0 [some (.inr (.inr (l0)))] [] s0
def J12_in (F : Nat) (l0 : Int64) (l2 : Int64) (l4 : Int64) (s0 : XH) : XR := xrun F 122 0 [some (.inr (.inl (l0))), none, some (.inr (.inl (l2))), none, some (.inr (.inl (l4))), none] [] s0
def J12_isTask (F : Nat) (l0 : Option Nat) (l1 : Int32) (s0 : XH) : XR := xrun F 123 0 [some (.inr (.inr (l0))), some (.inl (l1))] [] s0
def J12_isLive (F : Nat) (l0 : Option Nat) (l1 : Int32) (s0 : XH) : XR := xrun F 124 0 [some (.inr (.inr (l0))), some (.inl (l1))] [] s0
def J12_isGroup (F : Nat) (l0 : Option Nat) (l1 : Int32) (s0 : XH) : XR := xrun F 125 0 [some (.inr (.inr (l0))), some (.inl (l1))] [] s0
def J12_liesIn (F : Nat) (l0 : Option Nat) (l1 : Int32) (l2 : Int32) (s0 : XH) : XR := xrun F 126 0 [some (.inr (.inr (l0))), some (.inl (l1)), some (.inl (l2)), none] [] s0
def J12_liesIn_2 (F : Nat) (l0 : Option Nat) (l2 : Int32) (l3 : Int32) (s0 : XH) : XR := xrun F 126 2 [some (.inr (.inr (l0))), none, some (.inl (l2)), some (.inl (l3))] [] s0
def J12_isWithin (F : Nat) (l0 : Option Nat) (l1 : Int32) (l2 : Int32) (s0 : XH) : XR := xrun F 127 0 [some (.inr (.inr (l0))), some (.inl (l1)), some (.inl (l2)), none] [] s0
def J12_isWithin_2 (F : Nat) (l0 : Option Nat) (l2 : Int32) (l3 : Int32) (s0 : XH) : XR := xrun F 127 2 [some (.inr (.inr (l0))), none, some (.inl (l2)), some (.inl (l3))] [] s0
def J12_holder (F : Nat) (l0 : Option Nat) (l1 : Int32) (l2 : Int32) (s0 : XH) : XR := xrun F 128 0 [some (.inr (.inr (l0))), some (.inl (l1)), some (.inl (l2)), none] [] s0
def J12_holder_2 (F : Nat) (l0 : Option Nat) (l1 : Int32) (l2 : Int32) (l3 : Int32) (s0 : XH) : XR := xrun F 128 2 [some (.inr (.inr (l0))), some (.inl (l1)), some (.inl (l2)), some (.inl (l3))] [] s0
def J12_nextNumber (F : Nat) (l0 : Option Nat) (l1 : Int32) (s0 : XH) : XR := xrun F 129 0 [some (.inr (.inr (l0))), some (.inl (l1)), none, none] [] s0
def J12_nextNumber_9 (F : Nat) (l0 : Option Nat) (l1 : Int32) (l2 : Int32) (l3 : Int32) (s0 : XH) : XR := xrun F 129 9 [some (.inr (.inr (l0))), some (.inl (l1)), some (.inl (l2)), some (.inl (l3))] [] s0
def J12_depth (F : Nat) (l0 : Option Nat) (l1 : Int32) (s0 : XH) : XR := xrun F 130 0 [some (.inr (.inr (l0))), some (.inl (l1)), none, none] [] s0
def J12_depth_9 (F : Nat) (l0 : Option Nat) (l2 : Int32) (l3 : Int32) (s0 : XH) : XR := xrun F 130 9 [some (.inr (.inr (l0))), none, some (.inl (l2)), some (.inl (l3))] [] s0
def J12_freeMounts (F : Nat) (l0 : Option Nat) (s0 : XH) : XR := xrun F 131 0 [some (.inr (.inr (l0))), none, none] [] s0
def J12_freeMounts_4 (F : Nat) (l0 : Option Nat) (l1 : Int32) (l2 : Int32) (s0 : XH) : XR := xrun F 131 4 [some (.inr (.inr (l0))), some (.inl (l1)), some (.inl (l2))] [] s0
def J12_mountsOf (F : Nat) (l0 : Option Nat) (l1 : Int32) (s0 : XH) : XR := xrun F 132 0 [some (.inr (.inr (l0))), some (.inl (l1)), none, none] [] s0
def J12_mountsOf_4 (F : Nat) (l0 : Option Nat) (l1 : Int32) (l2 : Int32) (l3 : Int32) (s0 : XH) : XR := xrun F 132 4 [some (.inr (.inr (l0))), some (.inl (l1)), some (.inl (l2)), some (.inl (l3))] [] s0
def J12_liveIn (F : Nat) (l0 : Option Nat) (l1 : Int32) (s0 : XH) : XR := xrun F 145 0 [some (.inr (.inr (l0))), some (.inl (l1)), none, none] [] s0
def J12_liveIn_4 (F : Nat) (l0 : Option Nat) (l1 : Int32) (l2 : Int32) (l3 : Int32) (s0 : XH) : XR := xrun F 145 4 [some (.inr (.inr (l0))), some (.inl (l1)), some (.inl (l2)), some (.inl (l3))] [] s0
def J12_isReady (F : Nat) (l0 : Option Nat) (l1 : Int32) (s0 : XH) : XR := xrun F 159 0 [some (.inr (.inr (l0))), some (.inl (l1))] [] s0
def J12_findReady (F : Nat) (l0 : Option Nat) (s0 : XH) : XR := xrun F 160 0 [some (.inr (.inr (l0))), none, none] [] s0
def J12_findReady_7 (F : Nat) (l0 : Option Nat) (l1 : Int32) (s0 : XH) : XR := xrun F 160 7 [some (.inr (.inr (l0))), some (.inl (l1)), none] [] s0
def J12_findReady_20 (F : Nat) (l0 : Option Nat) (l1 : Int32) (l2 : Int32) (s0 : XH) : XR := xrun F 160 20 [some (.inr (.inr (l0))), some (.inl (l1)), some (.inl (l2))] [] s0
def J12_findReady_80 (F : Nat) (l0 : Option Nat) (l1 : Int32) (l2 : Int32) (s0 : XH) : XR := xrun F 160 80 [some (.inr (.inr (l0))), some (.inl (l1)), some (.inl (l2))] [] s0
def J12_leastTime (F : Nat) (l0 : Option Nat) (l1 : Int32) (l2 : Int32) (l3 : Int32) (s0 : XH) : XR := xrun F 161 0 [some (.inr (.inr (l0))), some (.inl (l1)), some (.inl (l2)), some (.inl (l3)), none, none, none] [] s0
def J12_leastTime_12 (F : Nat) (l0 : Option Nat) (l1 : Int32) (l2 : Int32) (l3 : Int32) (l4 : Int64) (l6 : Int32) (s0 : XH) : XR := xrun F 161 12 [some (.inr (.inr (l0))), some (.inl (l1)), some (.inl (l2)), some (.inl (l3)), some (.inr (.inl (l4))), none, some (.inl (l6))] [] s0
def J12_leastTime_103 (F : Nat) (l0 : Option Nat) (l1 : Int32) (l2 : Int32) (l3 : Int32) (l4 : Int64) (l6 : Int32) (s0 : XH) : XR := xrun F 161 103 [some (.inr (.inr (l0))), some (.inl (l1)), some (.inl (l2)), some (.inl (l3)), some (.inr (.inl (l4))), none, some (.inl (l6))] [] s0
def J12_leastTime_133 (F : Nat) (l0 : Option Nat) (l1 : Int32) (l2 : Int32) (l3 : Int32) (l4 : Int64) (l6 : Int32) (s0 : XH) : XR := xrun F 161 133 [some (.inr (.inr (l0))), some (.inl (l1)), some (.inl (l2)), some (.inl (l3)), some (.inr (.inl (l4))), none, some (.inl (l6))] [] s0
def J12_leastTime_65 (F : Nat) (l0 : Option Nat) (l1 : Int32) (l2 : Int32) (l3 : Int32) (l4 : Int64) (l6 : Int32) (s0 : XH) : XR := xrun F 161 65 [some (.inr (.inr (l0))), some (.inl (l1)), some (.inl (l2)), some (.inl (l3)), some (.inr (.inl (l4))), none, some (.inl (l6))] [] s0
def J12_come (F : Nat) (l0 : Option Nat) (l1 : Int32) (l2 : Int32) (s0 : XH) : XR := xrun F 162 0 [some (.inr (.inr (l0))), some (.inl (l1)), some (.inl (l2)), none, none] [] s0
def J12_copyView (F : Nat) (l0 : Option Nat) (l1 : Int32) (s0 : XH) : XR := xrun F 169 0 [some (.inr (.inr (l0))), some (.inl (l1)), none, none, none] [] s0
def J12_copyView_18 (F : Nat) (l0 : Option Nat) (l1 : Int32) (l2 : Int32) (l3 : Int32) (l4 : Int32) (s0 : XH) : XR := xrun F 169 18 [some (.inr (.inr (l0))), some (.inl (l1)), some (.inl (l2)), some (.inl (l3)), some (.inl (l4))] [] s0
def J12_copyView_42 (F : Nat) (l0 : Option Nat) (l1 : Int32) (l2 : Int32) (l3 : Int32) (l4 : Int32) (s0 : XH) : XR := xrun F 169 42 [some (.inr (.inr (l0))), some (.inl (l1)), some (.inl (l2)), some (.inl (l3)), some (.inl (l4))] [] s0
def J12_copyView_121 (F : Nat) (l0 : Option Nat) (l2 : Int32) (l4 : Int32) (s0 : XH) : XR := xrun F 169 121 [some (.inr (.inr (l0))), none, some (.inl (l2)), none, some (.inl (l4))] [] s0
def J12_fork (F : Nat) (l0 : Option Nat) (l1 : Int32) (l2 : Int32) (l3 : Int32) (s0 : XH) : XR := xrun F 133 0 [some (.inr (.inr (l0))), some (.inl (l1)), some (.inl (l2)), some (.inl (l3)), none, none, none, none] [] s0
def J12_fork_23 (F : Nat) (l0 : Option Nat) (l1 : Int32) (l2 : Int32) (l3 : Int32) (l4 : Int32) (s0 : XH) : XR := xrun F 133 23 [some (.inr (.inr (l0))), some (.inl (l1)), some (.inl (l2)), some (.inl (l3)), some (.inl (l4)), none, none, none] [] s0
def J12_fork_101 (F : Nat) (l0 : Option Nat) (l1 : Int32) (l2 : Int32) (l3 : Int32) (l4 : Int32) (s0 : XH) : XR := xrun F 133 101 [some (.inr (.inr (l0))), some (.inl (l1)), some (.inl (l2)), some (.inl (l3)), some (.inl (l4)), none, none, none] [] s0
def J12_fork_138 (F : Nat) (l0 : Option Nat) (l1 : Int32) (l2 : Int32) (l3 : Int32) (l4 : Int32) (l5 : Int32) (s0 : XH) : XR := xrun F 133 138 [some (.inr (.inr (l0))), some (.inl (l1)), some (.inl (l2)), some (.inl (l3)), some (.inl (l4)), some (.inl (l5)), none, none] [] s0
def J12_fork_242 (F : Nat) (l0 : Option Nat) (l1 : Int32) (l3 : Int32) (l4 : Int32) (l5 : Int32) (l6 : Int32) (s0 : XH) : XR := xrun F 133 242 [some (.inr (.inr (l0))), some (.inl (l1)), none, some (.inl (l3)), some (.inl (l4)), some (.inl (l5)), some (.inl (l6)), none] [] s0
def J12_forget (F : Nat) (l0 : Option Nat) (l1 : Int32) (s0 : XH) : XR := xrun F 134 0 [some (.inr (.inr (l0))), some (.inl (l1)), none] [] s0
def J12_forget_16 (F : Nat) (l0 : Option Nat) (l1 : Int32) (l2 : Int32) (s0 : XH) : XR := xrun F 134 16 [some (.inr (.inr (l0))), some (.inl (l1)), some (.inl (l2))] [] s0
def J12_end (F : Nat) (l0 : Option Nat) (l1 : Int32) (s0 : XH) : XR := xrun F 135 0 [some (.inr (.inr (l0))), some (.inl (l1)), none, none, none] [] s0
def J12_end_55 (F : Nat) (l0 : Option Nat) (l1 : Int32) (l3 : Int32) (l4 : Int32) (s0 : XH) : XR := xrun F 135 55 [some (.inr (.inr (l0))), some (.inl (l1)), none, some (.inl (l3)), some (.inl (l4))] [] s0
def J12_leave (F : Nat) (l0 : Option Nat) (l1 : Int32) (s0 : XH) : XR := xrun F 136 0 [some (.inr (.inr (l0))), some (.inl (l1)), none, none, none] [] s0
def J12_leave_149 (F : Nat) (l0 : Option Nat) (l2 : Int32) (l3 : Int32) (s0 : XH) : XR := xrun F 136 149 [some (.inr (.inr (l0))), none, some (.inl (l2)), some (.inl (l3)), none] [] s0
def J12_leave_24 (F : Nat) (l0 : Option Nat) (l1 : Int32) (l2 : Int32) (l3 : Int32) (s0 : XH) : XR := xrun F 136 24 [some (.inr (.inr (l0))), some (.inl (l1)), some (.inl (l2)), some (.inl (l3)), none] [] s0
def J12_leave_94 (F : Nat) (l0 : Option Nat) (l1 : Int32) (l2 : Int32) (l3 : Int32) (s0 : XH) : XR := xrun F 136 94 [some (.inr (.inr (l0))), some (.inl (l1)), some (.inl (l2)), some (.inl (l3)), none] [] s0
def J12_exit (F : Nat) (l0 : Option Nat) (l1 : Int32) (s0 : XH) : XR := xrun F 137 0 [some (.inr (.inr (l0))), some (.inl (l1))] [] s0
def J12_reap (F : Nat) (l0 : Option Nat) (l1 : Int32) (s0 : XH) : XR := xrun F 138 0 [some (.inr (.inr (l0))), some (.inl (l1)), none, none, none] [] s0
def J12_reap_27 (F : Nat) (l0 : Option Nat) (l1 : Int32) (l2 : Int32) (l3 : Int32) (l4 : Int32) (s0 : XH) : XR := xrun F 138 27 [some (.inr (.inr (l0))), some (.inl (l1)), some (.inl (l2)), some (.inl (l3)), some (.inl (l4))] [] s0
def J12_kill (F : Nat) (l0 : Option Nat) (l1 : Int32) (l2 : Int32) (s0 : XH) : XR := xrun F 139 0 [some (.inr (.inr (l0))), some (.inl (l1)), some (.inl (l2)), none] [] s0
def J12_number (F : Nat) (l0 : Option Nat) (l1 : Int32) (l2 : Int32) (s0 : XH) : XR := xrun F 140 0 [some (.inr (.inr (l0))), some (.inl (l1)), some (.inl (l2))] [] s0
def J12_find (F : Nat) (l0 : Option Nat) (l1 : Int32) (l2 : Int32) (s0 : XH) : XR := xrun F 141 0 [some (.inr (.inr (l0))), some (.inl (l1)), some (.inl (l2))] [] s0
def J12_task (F : Nat) (l0 : Option Nat) (l1 : Int32) (l2 : Int32) (s0 : XH) : XR := xrun F 142 0 [some (.inr (.inr (l0))), some (.inl (l1)), some (.inl (l2))] [] s0
def J12_count (F : Nat) (l0 : Option Nat) (l1 : Int32) (s0 : XH) : XR := xrun F 143 0 [some (.inr (.inr (l0))), some (.inl (l1)), none, none] [] s0
def J12_count_83 (F : Nat) (l0 : Option Nat) (l1 : Int32) (l2 : Int32) (l3 : Int32) (s0 : XH) : XR := xrun F 143 83 [some (.inr (.inr (l0))), some (.inl (l1)), some (.inl (l2)), some (.inl (l3))] [] s0
def J12_uses (F : Nat) (l0 : Option Nat) (l1 : Int32) (s0 : XH) : XR := xrun F 146 0 [some (.inr (.inr (l0))), some (.inl (l1)), none, none] [] s0
def J12_uses_4 (F : Nat) (l0 : Option Nat) (l1 : Int32) (l2 : Int32) (l3 : Int32) (s0 : XH) : XR := xrun F 146 4 [some (.inr (.inr (l0))), some (.inl (l1)), some (.inl (l2)), some (.inl (l3))] [] s0
def J12_uses_56 (F : Nat) (l0 : Option Nat) (l1 : Int32) (l2 : Int32) (l3 : Int32) (s0 : XH) : XR := xrun F 146 56 [some (.inr (.inr (l0))), some (.inl (l1)), some (.inl (l2)), some (.inl (l3))] [] s0
def J12_group (F : Nat) (l0 : Option Nat) (l1 : Int32) (s0 : XH) : XR := xrun F 147 0 [some (.inr (.inr (l0))), some (.inl (l1)), none, none, none, none] [] s0
def J12_group_24 (F : Nat) (l0 : Option Nat) (l1 : Int32) (l2 : Int32) (l3 : Int32) (s0 : XH) : XR := xrun F 147 24 [some (.inr (.inr (l0))), some (.inl (l1)), some (.inl (l2)), some (.inl (l3)), none, none] [] s0
def J12_set (F : Nat) (l0 : Option Nat) (l1 : Int32) (l2 : Int32) (l3 : Int32) (s0 : XH) : XR := xrun F 148 0 [some (.inr (.inr (l0))), some (.inl (l1)), some (.inl (l2)), some (.inl (l3)), none, none] [] s0
def J12_set_140 (F : Nat) (l0 : Option Nat) (l1 : Int32) (l2 : Int32) (l3 : Int32) (s0 : XH) : XR := xrun F 148 140 [some (.inr (.inr (l0))), some (.inl (l1)), some (.inl (l2)), some (.inl (l3)), none, none] [] s0
def J12_told (F : Nat) (l0 : Option Nat) (l1 : Int32) (l2 : Int32) (s0 : XH) : XR := xrun F 149 0 [some (.inr (.inr (l0))), some (.inl (l1)), some (.inl (l2))] [] s0
def J12_tooFull (F : Nat) (l0 : Option Nat) (l1 : Int32) (l2 : Int32) (s0 : XH) : XR := xrun F 150 0 [some (.inr (.inr (l0))), some (.inl (l1)), some (.inl (l2)), none] [] s0
def J12_tooFull_2 (F : Nat) (l0 : Option Nat) (l2 : Int32) (l3 : Int32) (s0 : XH) : XR := xrun F 150 2 [some (.inr (.inr (l0))), none, some (.inl (l2)), some (.inl (l3))] [] s0
def J12_takeCache (F : Nat) (l0 : Option Nat) (l1 : Int32) (l2 : Int32) (s0 : XH) : XR := xrun F 151 0 [some (.inr (.inr (l0))), some (.inl (l1)), some (.inl (l2)), none, none, none] [] s0
def J12_takeCache_15 (F : Nat) (l0 : Option Nat) (l1 : Int32) (l3 : Int32) (s0 : XH) : XR := xrun F 151 15 [some (.inr (.inr (l0))), some (.inl (l1)), none, some (.inl (l3)), none, none] [] s0
def J12_takeCache_25 (F : Nat) (l0 : Option Nat) (l1 : Int32) (l3 : Int32) (l4 : Int32) (l5 : Int32) (s0 : XH) : XR := xrun F 151 25 [some (.inr (.inr (l0))), some (.inl (l1)), none, some (.inl (l3)), some (.inl (l4)), some (.inl (l5))] [] s0
def J12_victim (F : Nat) (l0 : Option Nat) (l1 : Int32) (s0 : XH) : XR := xrun F 152 0 [some (.inr (.inr (l0))), some (.inl (l1)), none, none] [] s0
def J12_victim_4 (F : Nat) (l0 : Option Nat) (l1 : Int32) (l2 : Int32) (l3 : Int32) (s0 : XH) : XR := xrun F 152 4 [some (.inr (.inr (l0))), some (.inl (l1)), some (.inl (l2)), some (.inl (l3))] [] s0
def J12_makeRoom (F : Nat) (l0 : Option Nat) (l1 : Int32) (l2 : Int32) (s0 : XH) : XR := xrun F 153 0 [some (.inr (.inr (l0))), some (.inl (l1)), some (.inl (l2)), none, none, none, none] [] s0
def J12_makeRoom_15 (F : Nat) (l0 : Option Nat) (l1 : Int32) (l2 : Int32) (l3 : Int32) (l4 : Int32) (s0 : XH) : XR := xrun F 153 15 [some (.inr (.inr (l0))), some (.inl (l1)), some (.inl (l2)), some (.inl (l3)), some (.inl (l4)), none, none] [] s0
def J12_makeRoom_28 (F : Nat) (l0 : Option Nat) (l1 : Int32) (l2 : Int32) (l3 : Int32) (l4 : Int32) (s0 : XH) : XR := xrun F 153 28 [some (.inr (.inr (l0))), some (.inl (l1)), some (.inl (l2)), some (.inl (l3)), some (.inl (l4)), none, none] [] s0
def J12_charge (F : Nat) (l0 : Option Nat) (l1 : Int32) (l2 : Int32) (s0 : XH) : XR := xrun F 154 0 [some (.inr (.inr (l0))), some (.inl (l1)), some (.inl (l2)), none] [] s0
def J12_release (F : Nat) (l0 : Option Nat) (l1 : Int32) (l2 : Int32) (s0 : XH) : XR := xrun F 155 0 [some (.inr (.inr (l0))), some (.inl (l1)), some (.inl (l2))] [] s0
def J12_cache (F : Nat) (l0 : Option Nat) (l1 : Int32) (l2 : Int32) (s0 : XH) : XR := xrun F 156 0 [some (.inr (.inr (l0))), some (.inl (l1)), some (.inl (l2)), none] [] s0
def J12_move (F : Nat) (l0 : Option Nat) (l1 : Int32) (l2 : Int32) (s0 : XH) : XR := xrun F 157 0 [some (.inr (.inr (l0))), some (.inl (l1)), some (.inl (l2)), none, none] [] s0
def J12_move_40 (F : Nat) (l0 : Option Nat) (l1 : Int32) (l2 : Int32) (l3 : Int32) (l4 : Int32) (s0 : XH) : XR := xrun F 157 40 [some (.inr (.inr (l0))), some (.inl (l1)), some (.inl (l2)), some (.inl (l3)), some (.inl (l4))] [] s0
def J12_badness (F : Nat) (l0 : Option Nat) (l1 : Int32) (l2 : Int32) (s0 : XH) : XR := xrun F 158 0 [some (.inr (.inr (l0))), some (.inl (l1)), some (.inl (l2))] [] s0
def J12_tick (F : Nat) (l0 : Option Nat) (s0 : XH) : XR := xrun F 163 0 [some (.inr (.inr (l0))), none, none, none, none, none, none] [] s0
def J12_tick_25 (F : Nat) (l0 : Option Nat) (l1 : Int32) (l2 : Int32) (l3 : Int32) (s0 : XH) : XR := xrun F 163 25 [some (.inr (.inr (l0))), some (.inl (l1)), some (.inl (l2)), some (.inl (l3)), none, none, none] [] s0
def J12_tick_38 (F : Nat) (l0 : Option Nat) (l1 : Int32) (l2 : Int32) (l4 : Int32) (l5 : Int32) (l6 : Int32) (s0 : XH) : XR := xrun F 163 38 [some (.inr (.inr (l0))), some (.inl (l1)), some (.inl (l2)), none, some (.inl (l4)), some (.inl (l5)), some (.inl (l6))] [] s0
def J12_tick_115 (F : Nat) (l0 : Option Nat) (l1 : Int32) (l2 : Int32) (l4 : Int32) (l5 : Int32) (l6 : Int32) (s0 : XH) : XR := xrun F 163 115 [some (.inr (.inr (l0))), some (.inl (l1)), some (.inl (l2)), none, some (.inl (l4)), some (.inl (l5)), some (.inl (l6))] [] s0
def J12_tick_260 (F : Nat) (l0 : Option Nat) (l1 : Int32) (l4 : Int32) (s0 : XH) : XR := xrun F 163 260 [some (.inr (.inr (l0))), some (.inl (l1)), none, none, some (.inl (l4)), none, none] [] s0
def J12_tick_328 (F : Nat) (l0 : Option Nat) (l1 : Int32) (l4 : Int32) (s0 : XH) : XR := xrun F 163 328 [some (.inr (.inr (l0))), some (.inl (l1)), none, none, some (.inl (l4)), none, none] [] s0
def J12_ticks (F : Nat) (l0 : Option Nat) (l1 : Int32) (s0 : XH) : XR := xrun F 164 0 [some (.inr (.inr (l0))), some (.inl (l1)), none, none] [] s0
def J12_ticks_34 (F : Nat) (l0 : Option Nat) (l1 : Int32) (l2 : Int32) (l3 : Int32) (s0 : XH) : XR := xrun F 164 34 [some (.inr (.inr (l0))), some (.inl (l1)), some (.inl (l2)), some (.inl (l3))] [] s0
def J12_sleep (F : Nat) (l0 : Option Nat) (l1 : Int32) (l2 : Int32) (s0 : XH) : XR := xrun F 165 0 [some (.inr (.inr (l0))), some (.inl (l1)), some (.inl (l2))] [] s0
def J12_ran (F : Nat) (l0 : Option Nat) (l1 : Int32) (s0 : XH) : XR := xrun F 166 0 [some (.inr (.inr (l0))), some (.inl (l1))] [] s0
def J12_time (F : Nat) (l0 : Option Nat) (l1 : Int32) (l2 : Int32) (s0 : XH) : XR := xrun F 167 0 [some (.inr (.inr (l0))), some (.inl (l1)), some (.inl (l2))] [] s0
def J12_mountAt (F : Nat) (l0 : Option Nat) (l1 : Int32) (l2 : Int32) (s0 : XH) : XR := xrun F 170 0 [some (.inr (.inr (l0))), some (.inl (l1)), some (.inl (l2)), none] [] s0
def J12_mountAt_2 (F : Nat) (l0 : Option Nat) (l1 : Int32) (l2 : Int32) (l3 : Int32) (s0 : XH) : XR := xrun F 170 2 [some (.inr (.inr (l0))), some (.inl (l1)), some (.inl (l2)), some (.inl (l3))] [] s0
def J12_rise (F : Nat) (l0 : Option Nat) (s0 : XH) : XR := xrun F 171 0 [some (.inr (.inr (l0))), none] [] s0
def J12_rise_13 (F : Nat) (l0 : Option Nat) (l1 : Int32) (s0 : XH) : XR := xrun F 171 13 [some (.inr (.inr (l0))), some (.inl (l1))] [] s0
def J12_walk (F : Nat) (l0 : Option Nat) (l1 : Int32) (l2 : Int32) (s0 : XH) : XR := xrun F 172 0 [some (.inr (.inr (l0))), some (.inl (l1)), some (.inl (l2)), none] [] s0
def J12_walk_42 (F : Nat) (l0 : Option Nat) (l2 : Int32) (l3 : Int32) (s0 : XH) : XR := xrun F 172 42 [some (.inr (.inr (l0))), none, some (.inl (l2)), some (.inl (l3))] [] s0
def J12_walk_59 (F : Nat) (l0 : Option Nat) (l2 : Int32) (l3 : Int32) (s0 : XH) : XR := xrun F 172 59 [some (.inr (.inr (l0))), none, some (.inl (l2)), some (.inl (l3))] [] s0
def J12_isPeer (F : Nat) (l0 : Option Nat) (l1 : Int32) (l2 : Int32) (l3 : Int32) (s0 : XH) : XR := xrun F 174 0 [some (.inr (.inr (l0))), some (.inl (l1)), some (.inl (l2)), some (.inl (l3))] [] s0
def J12_mount (F : Nat) (l0 : Option Nat) (l1 : Int32) (l2 : Int32) (l3 : Int32) (l4 : Int32) (s0 : XH) : XR := xrun F 173 0 [some (.inr (.inr (l0))), some (.inl (l1)), some (.inl (l2)), some (.inl (l3)), some (.inl (l4)), none, none, none, none, none, none, none, none] [] s0
def J12_mount_68 (F : Nat) (l0 : Option Nat) (l3 : Int32) (l4 : Int32) (l5 : Int32) (l6 : Int32) (l7 : Int32) (l8 : Int32) (l9 : Int32) (s0 : XH) : XR := xrun F 173 68 [some (.inr (.inr (l0))), none, none, some (.inl (l3)), some (.inl (l4)), some (.inl (l5)), some (.inl (l6)), some (.inl (l7)), some (.inl (l8)), some (.inl (l9)), none, none, none] [] s0
def J12_mount_155 (F : Nat) (l0 : Option Nat) (l3 : Int32) (l5 : Int32) (l6 : Int32) (l7 : Int32) (l9 : Int32) (l10 : Int32) (s0 : XH) : XR := xrun F 173 155 [some (.inr (.inr (l0))), none, none, some (.inl (l3)), none, some (.inl (l5)), some (.inl (l6)), some (.inl (l7)), none, some (.inl (l9)), some (.inl (l10)), none, none] [] s0
def J12_mount_228 (F : Nat) (l0 : Option Nat) (l3 : Int32) (l6 : Int32) (l9 : Int32) (l10 : Int32) (l11 : Int32) (s0 : XH) : XR := xrun F 173 228 [some (.inr (.inr (l0))), none, none, some (.inl (l3)), none, none, some (.inl (l6)), none, none, some (.inl (l9)), some (.inl (l10)), some (.inl (l11)), none] [] s0
def J12_isBusy (F : Nat) (l0 : Option Nat) (l1 : Int32) (s0 : XH) : XR := xrun F 175 0 [some (.inr (.inr (l0))), some (.inl (l1)), none] [] s0
def J12_isBusy_2 (F : Nat) (l0 : Option Nat) (l1 : Int32) (l2 : Int32) (s0 : XH) : XR := xrun F 175 2 [some (.inr (.inr (l0))), some (.inl (l1)), some (.inl (l2))] [] s0
def J12_unmount (F : Nat) (l0 : Option Nat) (l1 : Int32) (l2 : Int32) (s0 : XH) : XR := xrun F 176 0 [some (.inr (.inr (l0))), some (.inl (l1)), some (.inl (l2)), none, none, none, none, none, none] [] s0
def J12_unmount_82 (F : Nat) (l0 : Option Nat) (l3 : Int32) (l4 : Int32) (l5 : Int32) (l6 : Int32) (l7 : Int32) (s0 : XH) : XR := xrun F 176 82 [some (.inr (.inr (l0))), none, none, some (.inl (l3)), some (.inl (l4)), some (.inl (l5)), some (.inl (l6)), some (.inl (l7)), none] [] s0
def J12_at (F : Nat) (l0 : Option Nat) (l1 : Int32) (l2 : Int32) (s0 : XH) : XR := xrun F 177 0 [some (.inr (.inr (l0))), some (.inl (l1)), some (.inl (l2))] [] s0
def J12_share (F : Nat) (l0 : Option Nat) (l1 : Int32) (l2 : Int32) (s0 : XH) : XR := xrun F 178 0 [some (.inr (.inr (l0))), some (.inl (l1)), some (.inl (l2)), none] [] s0
def J12_share_60 (F : Nat) (l0 : Option Nat) (l1 : Int32) (l2 : Int32) (l3 : Int32) (s0 : XH) : XR := xrun F 178 60 [some (.inr (.inr (l0))), some (.inl (l1)), some (.inl (l2)), some (.inl (l3))] [] s0
def J12_mounted (F : Nat) (l0 : Option Nat) (l1 : Int32) (l2 : Int32) (s0 : XH) : XR := xrun F 179 0 [some (.inr (.inr (l0))), some (.inl (l1)), some (.inl (l2))] [] s0
def JL_number (F : Nat) (l0 : Option Nat) (l1 : Int32) (l2 : Int32) (l3 : Option Nat) (s0 : XH) : XR := xrun F 180 0 [some (.inr (.inr (l0))), some (.inl (l1)), some (.inl (l2)), some (.inr (.inr (l3))), none] [] s0
def JL_find (F : Nat) (l0 : Option Nat) (l1 : Int32) (l2 : Int32) (l3 : Option Nat) (s0 : XH) : XR := xrun F 181 0 [some (.inr (.inr (l0))), some (.inl (l1)), some (.inl (l2)), some (.inr (.inr (l3))), none] [] s0
def JL_task (F : Nat) (l0 : Option Nat) (l1 : Int32) (l2 : Int32) (l3 : Option Nat) (s0 : XH) : XR := xrun F 182 0 [some (.inr (.inr (l0))), some (.inl (l1)), some (.inl (l2)), some (.inr (.inr (l3))), none] [] s0
def JL_count (F : Nat) (l0 : Option Nat) (l1 : Int32) (l2 : Option Nat) (s0 : XH) : XR := xrun F 183 0 [some (.inr (.inr (l0))), some (.inl (l1)), some (.inr (.inr (l2))), none] [] s0
def JL_set (F : Nat) (l0 : Option Nat) (l1 : Int32) (l2 : Int32) (l3 : Int32) (l4 : Option Nat) (s0 : XH) : XR := xrun F 184 0 [some (.inr (.inr (l0))), some (.inl (l1)), some (.inl (l2)), some (.inl (l3)), some (.inr (.inr (l4))), none] [] s0
def JL_told (F : Nat) (l0 : Option Nat) (l1 : Int32) (l2 : Int32) (l3 : Option Nat) (s0 : XH) : XR := xrun F 185 0 [some (.inr (.inr (l0))), some (.inl (l1)), some (.inl (l2)), some (.inr (.inr (l3))), none] [] s0
def JL_charge (F : Nat) (l0 : Option Nat) (l1 : Int32) (l2 : Int32) (l3 : Option Nat) (s0 : XH) : XR := xrun F 186 0 [some (.inr (.inr (l0))), some (.inl (l1)), some (.inl (l2)), some (.inr (.inr (l3))), none] [] s0
def JL_release (F : Nat) (l0 : Option Nat) (l1 : Int32) (l2 : Int32) (l3 : Option Nat) (s0 : XH) : XR := xrun F 187 0 [some (.inr (.inr (l0))), some (.inl (l1)), some (.inl (l2)), some (.inr (.inr (l3))), none] [] s0
def JL_cache (F : Nat) (l0 : Option Nat) (l1 : Int32) (l2 : Int32) (l3 : Option Nat) (s0 : XH) : XR := xrun F 188 0 [some (.inr (.inr (l0))), some (.inl (l1)), some (.inl (l2)), some (.inr (.inr (l3))), none] [] s0
def JL_badness (F : Nat) (l0 : Option Nat) (l1 : Int32) (l2 : Int32) (l3 : Option Nat) (s0 : XH) : XR := xrun F 189 0 [some (.inr (.inr (l0))), some (.inl (l1)), some (.inl (l2)), some (.inr (.inr (l3))), none] [] s0
def JL_ticks (F : Nat) (l0 : Option Nat) (l1 : Int32) (l2 : Option Nat) (s0 : XH) : XR := xrun F 190 0 [some (.inr (.inr (l0))), some (.inl (l1)), some (.inr (.inr (l2))), none] [] s0
def JL_mount (F : Nat) (l0 : Option Nat) (l1 : Int32) (l2 : Int32) (l3 : Int32) (l4 : Int32) (l5 : Option Nat) (s0 : XH) : XR := xrun F 191 0 [some (.inr (.inr (l0))), some (.inl (l1)), some (.inl (l2)), some (.inl (l3)), some (.inl (l4)), some (.inr (.inr (l5))), none] [] s0
def JL_share (F : Nat) (l0 : Option Nat) (l1 : Int32) (l2 : Int32) (l3 : Option Nat) (s0 : XH) : XR := xrun F 192 0 [some (.inr (.inr (l0))), some (.inl (l1)), some (.inl (l2)), some (.inr (.inr (l3))), none] [] s0
def JL_mounted (F : Nat) (l0 : Option Nat) (l1 : Int32) (l2 : Int32) (l3 : Option Nat) (s0 : XH) : XR := xrun F 193 0 [some (.inr (.inr (l0))), some (.inl (l1)), some (.inl (l2)), some (.inr (.inr (l3))), none] [] s0
def JL_law (F : Nat) (l0 : Option Nat) (s0 : XH) : XR := xrun F 194 0 [some (.inr (.inr (l0))), none, none, none, none, none, none] [] s0
def JL_law_23 (F : Nat) (l0 : Option Nat) (l1 : Option Nat) (l2 : Option Nat) (l3 : Option Nat) (l4 : Int32) (s0 : XH) : XR := xrun F 194 23 [some (.inr (.inr (l0))), some (.inr (.inr (l1))), some (.inr (.inr (l2))), some (.inr (.inr (l3))), some (.inl (l4)), none, none] [] s0
end
section
set_option maxRecDepth 100000 in
theorem E0_init (F : Nat) (l0 : Option Nat) (l1 : Option Nat) (l2 : Option Nat) (s0 : XH) : J0_init (F + 1) l0 l1 l2 s0 = (if l0 = none then none else (xpt s0 l0 0 0 (.inr (.inr (l1)))).bind fun s1 => (xpt s1 l0 0 1 (.inr (.inr (l2)))).bind fun s2 => some (.inl none, s2)) := rfl
set_option maxRecDepth 100000 in
theorem E0_offerTask (F : Nat) (l0 : Option Nat) (l1 : Option Nat) (s0 : XH) : J0_offerTask (F + 1) l0 l1 s0 = ((xgr s0 l1 8 4).bind fun v1 => (xgr s0 v1 1 12).bind fun v2 => if v2 = none then ((xgr s0 l1 8 4).bind fun v3 => (xpt s0 v3 1 12 (.inr (.inr (l1)))).bind fun s4 => some (.inl none, s4)) else ((xgl s0 l1 8 10).bind fun v5 => (xgl s0 v2 8 10).bind fun v6 => if (lg_cmp v5 v6) < 0 then ((xgr s0 l1 8 4).bind fun v7 => (xpt s0 v7 1 12 (.inr (.inr (l1)))).bind fun s8 => some (.inl none, s8)) else (some (.inl none, s0)))) := rfl
set_option maxRecDepth 100000 in
theorem E0_offerGroup (F : Nat) (l0 : Option Nat) (l1 : Option Nat) (s0 : XH) : J0_offerGroup (F + 1) l0 l1 s0 = ((xgr s0 l1 1 1).bind fun v1 => if v1 = none then (some (.inl none, s0)) else ((xgr s0 l1 1 1).bind fun v2 => (xgr s0 v2 1 13).bind fun v3 => if v3 = none then ((xgr s0 l1 1 1).bind fun v4 => (xpt s0 v4 1 13 (.inr (.inr (l1)))).bind fun s5 => some (.inl none, s5)) else ((xgl s0 l1 1 11).bind fun v6 => (xgl s0 v3 1 11).bind fun v7 => if 0 < (lg_cmp v6 v7) then (some (.inl none, s0)) else ((xgr s0 l1 1 1).bind fun v8 => (xpt s0 v8 1 13 (.inr (.inr (l1)))).bind fun s9 => some (.inl none, s9))))) := rfl
set_option maxRecDepth 100000 in
theorem E1_isReady (F : Nat) (l0 : Option Nat) (s0 : XH) : J1_isReady (F + 1) l0 s0 = ((xgr s0 l0 1 12).bind fun v1 => if v1 = none then ((xgr s0 l0 1 13).bind fun v2 => if v2 = none then (if (xk 0) = 0 then (if (xk 0) = 0 ∨ (xk 0) = 1 then some (.inl (some (.inl (xk 0))), s0) else none) else ((xgi s0 l0 1 6).bind fun v3 => if v3 = 0 then (if (xk 1) = 0 ∨ (xk 1) = 1 then some (.inl (some (.inl (xk 1))), s0) else none) else ((xgi s0 l0 1 10).bind fun v4 => (xgi s0 l0 1 6).bind fun v5 => if v4 < v5 then (if (xk 1) = 0 ∨ (xk 1) = 1 then some (.inl (some (.inl (xk 1))), s0) else none) else (if (xk 0) = 0 ∨ (xk 0) = 1 then some (.inl (some (.inl (xk 0))), s0) else none)))) else (J1_isReady_14 F (l0) s0)) else (J1_isReady_14 F (l0) s0)) := rfl
set_option maxRecDepth 100000 in
theorem E1_isReady_14 (F : Nat) (l0 : Option Nat) (s0 : XH) : J1_isReady_14 (F + 1) l0 s0 = (if (xk 1) = 0 then (if (xk 0) = 0 ∨ (xk 0) = 1 then some (.inl (some (.inl (xk 0))), s0) else none) else ((xgi s0 l0 1 6).bind fun v1 => if v1 = 0 then (if (xk 1) = 0 ∨ (xk 1) = 1 then some (.inl (some (.inl (xk 1))), s0) else none) else ((xgi s0 l0 1 10).bind fun v2 => (xgi s0 l0 1 6).bind fun v3 => if v2 < v3 then (if (xk 1) = 0 ∨ (xk 1) = 1 then some (.inl (some (.inl (xk 1))), s0) else none) else (if (xk 0) = 0 ∨ (xk 0) = 1 then some (.inl (some (.inl (xk 0))), s0) else none)))) := rfl
set_option maxRecDepth 100000 in
theorem E8_isReady (F : Nat) (l0 : Option Nat) (s0 : XH) : J8_isReady (F + 1) l0 s0 = ((xgi s0 l0 8 5).bind fun v1 => if v1 = 0 then ((xgi s0 l0 8 9).bind fun v2 => if v2 = 0 then (if (xk 1) = 0 ∨ (xk 1) = 1 then some (.inl (some (.inl (xk 1))), s0) else none) else (if (xk 0) = 0 ∨ (xk 0) = 1 then some (.inl (some (.inl (xk 0))), s0) else none)) else (if (xk 0) = 0 ∨ (xk 0) = 1 then some (.inl (some (.inl (xk 0))), s0) else none)) := rfl
set_option maxRecDepth 100000 in
theorem E0_look (F : Nat) (l0 : Option Nat) (l1 : Option Nat) (s0 : XH) : J0_look (F + 1) l0 l1 s0 = (J0_look_2 F (l0) (l1) (xk 0) s0) := rfl
set_option maxRecDepth 100000 in
theorem E0_look_2 (F : Nat) (l0 : Option Nat) (l1 : Option Nat) (l2 : Int32) (s0 : XH) : J0_look_2 (F + 1) l0 l1 l2 s0 = ((xgr s0 l0 0 1).bind fun v1 => (xgi s0 v1 2 1).bind fun v2 => if l2 < v2 then ((xgr s0 l0 0 1).bind fun v3 => (xgr s0 v3 2 0).bind fun v4 => (xar s0 v4 l2).bind fun v5 => (xpt s0 v5 1 12 (.inr (.inr ((none : Option Nat))))).bind fun s6 => (xgr s6 l0 0 1).bind fun v7 => (xgr s6 v7 2 0).bind fun v8 => (xar s6 v8 l2).bind fun v9 => (xpt s6 v9 1 13 (.inr (.inr ((none : Option Nat))))).bind fun s10 => J0_look_2 F (l0) (l1) (l2 + xk 1) s10) else (J0_look_47 F (l0) (l1) (xk 0) s0)) := rfl
set_option maxRecDepth 100000 in
theorem E0_look_47 (F : Nat) (l0 : Option Nat) (l1 : Option Nat) (l2 : Int32) (s0 : XH) : J0_look_47 (F + 1) l0 l1 l2 s0 = ((xgr s0 l0 0 0).bind fun v1 => (xgi s0 v1 9 2).bind fun v2 => if l2 < v2 then ((xgr s0 l0 0 0).bind fun v3 => (xgr s0 v3 9 0).bind fun v4 => (xar s0 v4 l2).bind fun v5 => if v5 = l1 then (J0_look_47 F (l0) (l1) (l2 + xk 1) s0) else (xgd s0 v5 8 (xci (J8_isReady F v5 s0) fun v7 s6 => if v7 = 0 then (J0_look_47 F (l0) (l1) (l2 + xk 1) s6) else (xgd s6 l0 0 (xcv (J0_offerTask F l0 v5 s6) fun s8 => J0_look_47 F (l0) (l1) (l2 + xk 1) s8))))) else ((xgr s0 l0 0 1).bind fun v9 => (xgi s0 v9 2 1).bind fun v10 => J0_look_101 F (l0) (v10 - (xk 1)) s0)) := rfl
set_option maxRecDepth 100000 in
theorem E0_look_101 (F : Nat) (l0 : Option Nat) (l2 : Int32) (s0 : XH) : J0_look_101 (F + 1) l0 l2 s0 = (if 0 < l2 then ((xgr s0 l0 0 1).bind fun v1 => (xgr s0 v1 2 0).bind fun v2 => (xar s0 v2 l2).bind fun v3 => xgd s0 v3 1 (xci (J1_isReady F v3 s0) fun v5 s4 => if v5 = 0 then (J0_look_101 F (l0) (l2 + xk (-1)) s4) else ((xgr s4 l0 0 1).bind fun v6 => (xgr s4 v6 2 0).bind fun v7 => (xar s4 v7 l2).bind fun v8 => xgd s4 l0 0 (xcv (J0_offerGroup F l0 v8 s4) fun s9 => J0_look_101 F (l0) (l2 + xk (-1)) s9)))) else (some (.inl none, s0))) := rfl
set_option maxRecDepth 100000 in
theorem E1_leadsToGroup (F : Nat) (l0 : Option Nat) (s0 : XH) : J1_leadsToGroup (F + 1) l0 s0 = ((xgr s0 l0 1 13).bind fun v1 => if v1 = none then (if (xk 0) = 0 ∨ (xk 0) = 1 then some (.inl (some (.inl (xk 0))), s0) else none) else ((xgr s0 l0 1 12).bind fun v2 => if v2 = none then (if (xk 1) = 0 ∨ (xk 1) = 1 then some (.inl (some (.inl (xk 1))), s0) else none) else ((xgr s0 l0 1 13).bind fun v3 => (xgl s0 v3 1 11).bind fun v4 => (xgr s0 l0 1 12).bind fun v5 => (xgl s0 v5 8 10).bind fun v6 => if (lg_cmp v4 v6) < 0 then (if (xk 1) = 0 ∨ (xk 1) = 1 then some (.inl (some (.inl (xk 1))), s0) else none) else (if (xk 0) = 0 ∨ (xk 0) = 1 then some (.inl (some (.inl (xk 0))), s0) else none)))) := rfl
set_option maxRecDepth 100000 in
theorem E2_madeAt (F : Nat) (l0 : Option Nat) (l1 : Int32) (s0 : XH) : J2_madeAt (F + 1) l0 l1 s0 = (if l1 < 0 then (some (.inl (some (.inr (.inr ((none : Option Nat))))), s0)) else ((xgi s0 l0 2 1).bind fun v1 => if l1 < v1 then (if l1 < (xk 20) then ((xgr s0 l0 2 0).bind fun v2 => (xar s0 v2 l1).bind fun v3 => some (.inl (some (.inr (.inr (v3)))), s0)) else (some (.inl (some (.inr (.inr ((none : Option Nat))))), s0))) else (some (.inl (some (.inr (.inr ((none : Option Nat))))), s0)))) := rfl
set_option maxRecDepth 100000 in
theorem E0_choose (F : Nat) (l0 : Option Nat) (s0 : XH) : J0_choose (F + 1) l0 s0 = ((xgr s0 l0 0 1).bind fun v1 => xgd s0 v1 2 (xcr (J2_madeAt F v1 (xk 0) s0) fun v3 s2 => J0_choose_11 F ((none : Option Nat)) (v3) s2)) := rfl
set_option maxRecDepth 100000 in
theorem E0_choose_11 (F : Nat) (l1 : Option Nat) (l2 : Option Nat) (s0 : XH) : J0_choose_11 (F + 1) l1 l2 s0 = (if l2 = none then (some (.inl (some (.inr (.inr (l1)))), s0)) else ((xgr s0 l2 1 12).bind fun v1 => xgd s0 l2 1 (xci (J1_leadsToGroup F l2 s0) fun v3 s2 => if v3 = 0 then (J0_choose_11 F (v1) ((none : Option Nat)) s2) else ((xgr s2 l2 1 13).bind fun v4 => J0_choose_11 F (v1) (v4) s2)))) := rfl
set_option maxRecDepth 100000 in
theorem E0_run (F : Nat) (l0 : Option Nat) (l1 : Option Nat) (s0 : XH) : J0_run (F + 1) l0 l1 s0 = ((xgi s0 l1 8 8).bind fun v1 => (xpt s0 l1 8 8 (.inl (v1 + (xk 1)))).bind fun s2 => (xgl s2 l1 8 10).bind fun v3 => (xpt s2 l1 8 10 (.inr (.inl (v3 + (10000 : Int64))))).bind fun s4 => (xgr s4 l1 8 4).bind fun v5 => J0_run_27 F (v5) s4) := rfl
set_option maxRecDepth 100000 in
theorem E0_run_27 (F : Nat) (l2 : Option Nat) (s0 : XH) : J0_run_27 (F + 1) l2 s0 = (if l2 = none then (some (.inl none, s0)) else ((xgi s0 l2 1 10).bind fun v1 => (xpt s0 l2 1 10 (.inl (v1 + (xk 1)))).bind fun s2 => (xgr s2 l2 1 1).bind fun v3 => if v3 = none then ((xgr s2 l2 1 1).bind fun v4 => J0_run_27 F (v4) s2) else ((xgi s2 l2 1 5).bind fun v5 => if 0 < v5 then ((xgl s2 l2 1 11).bind fun v6 => (xgi s2 l2 1 5).bind fun v7 => if v7 = 0 then none else (xpt s2 l2 1 11 (.inr (.inl (v6 + (Int32.toInt64 ((1000000 : Int32) / v7)))))).bind fun s8 => (xgr s8 l2 1 1).bind fun v9 => J0_run_27 F (v9) s8) else ((xgr s2 l2 1 1).bind fun v10 => J0_run_27 F (v10) s2)))) := rfl
set_option maxRecDepth 100000 in
theorem E0_beginPeriod (F : Nat) (l0 : Option Nat) (s0 : XH) : J0_beginPeriod (F + 1) l0 s0 = (J0_beginPeriod_2 F (l0) (xk 0) s0) := rfl
set_option maxRecDepth 100000 in
theorem E0_beginPeriod_2 (F : Nat) (l0 : Option Nat) (l1 : Int32) (s0 : XH) : J0_beginPeriod_2 (F + 1) l0 l1 s0 = ((xgr s0 l0 0 1).bind fun v1 => (xgi s0 v1 2 1).bind fun v2 => if l1 < v2 then ((xgr s0 l0 0 1).bind fun v3 => (xgr s0 v3 2 0).bind fun v4 => (xar s0 v4 l1).bind fun v5 => (xpt s0 v5 1 10 (.inl (xk 0))).bind fun s6 => J0_beginPeriod_2 F (l0) (l1 + xk 1) s6) else (some (.inl none, s0))) := rfl
set_option maxRecDepth 100000 in
theorem E0_tick (F : Nat) (l0 : Option Nat) (s0 : XH) : J0_tick (F + 1) l0 s0 = (xgd s0 l0 0 (xcv (J0_look F l0 (none : Option Nat) s0) fun s1 => xgd s1 l0 0 (xcr (J0_choose F l0 s1) fun v3 s2 => if v3 = none then (J0_tick_19 F (l0) (v3) s2) else (xgd s2 l0 0 (xcv (J0_run F l0 v3 s2) fun s4 => J0_tick_19 F (l0) (v3) s4))))) := rfl
set_option maxRecDepth 100000 in
theorem E0_tick_19 (F : Nat) (l0 : Option Nat) (l1 : Option Nat) (s0 : XH) : J0_tick_19 (F + 1) l0 l1 s0 = ((xgi s0 l0 0 2).bind fun v1 => (xpt s0 l0 0 2 (.inl (v1 + (xk 1)))).bind fun s2 => (xgi s2 l0 0 2).bind fun v3 => if (xk 20) = 0 then none else if (v3 - v3 / (xk 20) * (xk 20)) = 0 then (xgd s2 l0 0 (xcv (J0_beginPeriod F l0 s2) fun s4 => some (.inl (some (.inr (.inr (l1)))), s4))) else (some (.inl (some (.inr (.inr (l1)))), s2))) := rfl
set_option maxRecDepth 100000 in
theorem E1_leastTime (F : Nat) (l0 : Option Nat) (s0 : XH) : J1_leastTime (F + 1) l0 s0 = (xgd s0 l0 1 (xci (J1_leadsToGroup F l0 s0) fun v2 s1 => if v2 = 0 then ((xgr s1 l0 1 12).bind fun v3 => if v3 = none then (some (.inl (some (.inr (.inl ((-1 : Int64))))), s1)) else ((xgr s1 l0 1 12).bind fun v4 => (xgl s1 v4 8 10).bind fun v5 => some (.inl (some (.inr (.inl (v5)))), s1))) else ((xgr s1 l0 1 13).bind fun v6 => (xgl s1 v6 1 11).bind fun v7 => some (.inl (some (.inr (.inl (v7)))), s1)))) := rfl
set_option maxRecDepth 100000 in
theorem E0_admit (F : Nat) (l0 : Option Nat) (l1 : Option Nat) (l2 : Int32) (s0 : XH) : J0_admit (F + 1) l0 l1 l2 s0 = (xgd s0 l0 0 (xcv (J0_look F l0 l1 s0) fun s1 => (xgr s1 l1 8 4).bind fun v2 => xgd s1 v2 1 (xcl (J1_leastTime F v2 s1) fun v4 s3 => if l2 = 0 then ((xgl s3 l1 8 10).bind fun v5 => (xpt s3 l1 8 10 (.inr (.inl (xmax v4 v5)))).bind fun s6 => some (.inl none, s6)) else ((xpt s3 l1 8 10 (.inr (.inl (xmax v4 (lN 0))))).bind fun s7 => some (.inl none, s7))))) := rfl
set_option maxRecDepth 100000 in
theorem E0_admitGroup (F : Nat) (l0 : Option Nat) (l1 : Option Nat) (s0 : XH) : J0_admitGroup (F + 1) l0 l1 s0 = (xgd s0 l0 0 (xcv (J0_look F l0 (none : Option Nat) s0) fun s1 => (xgr s1 l1 1 1).bind fun v2 => if v2 = none then (some (.inl none, s1)) else ((xgr s1 l1 1 1).bind fun v3 => xgd s1 v3 1 (xcl (J1_leastTime F v3 s1) fun v5 s4 => (xgl s4 l1 1 11).bind fun v6 => (xpt s4 l1 1 11 (.inr (.inl (xmax v5 v6)))).bind fun s7 => some (.inl none, s7))))) := rfl
set_option maxRecDepth 100000 in
theorem E1_init (F : Nat) (l0 : Option Nat) (l1 : Int32) (l2 : Option Nat) (s0 : XH) : J1_init (F + 1) l0 l1 l2 s0 = (if l0 = none then none else (xpt s0 l0 1 3 (.inl ((1000000 : Int32)))).bind fun s1 => (xpt s1 l0 1 4 (.inl (xk 150))).bind fun s2 => (xpt s2 l0 1 5 (.inl (xk 100))).bind fun s3 => (xpt s3 l0 1 0 (.inl (l1))).bind fun s4 => (xpt s4 l0 1 1 (.inr (.inr (l2)))).bind fun s5 => if l2 = none then ((xpt s5 l0 1 2 (.inl (xk 0))).bind fun s8 => some (.inl none, s8)) else ((xgi s5 l2 1 2).bind fun v6 => (xpt s5 l0 1 2 (.inl (v6 + (xk 1)))).bind fun s7 => some (.inl none, s7))) := rfl
set_option maxRecDepth 100000 in
theorem E1_liesIn (F : Nat) (l0 : Option Nat) (l1 : Option Nat) (s0 : XH) : J1_liesIn (F + 1) l0 l1 s0 = (J1_liesIn_2 F (l1) (l0) s0) := rfl
set_option maxRecDepth 100000 in
theorem E1_liesIn_2 (F : Nat) (l1 : Option Nat) (l2 : Option Nat) (s0 : XH) : J1_liesIn_2 (F + 1) l1 l2 s0 = (if l2 = none then (if (xk 0) = 0 ∨ (xk 0) = 1 then some (.inl (some (.inl (xk 0))), s0) else none) else (if l2 = l1 then (if (xk 1) = 0 ∨ (xk 1) = 1 then some (.inl (some (.inl (xk 1))), s0) else none) else ((xgr s0 l2 1 1).bind fun v1 => J1_liesIn_2 F (l1) (v1) s0))) := rfl
set_option maxRecDepth 100000 in
theorem E1_addUse (F : Nat) (l0 : Option Nat) (l1 : Int32) (s0 : XH) : J1_addUse (F + 1) l0 l1 s0 = (J1_addUse_2 F (l1) (l0) s0) := rfl
set_option maxRecDepth 100000 in
theorem E1_addUse_2 (F : Nat) (l1 : Int32) (l2 : Option Nat) (s0 : XH) : J1_addUse_2 (F + 1) l1 l2 s0 = (if l2 = none then (some (.inl none, s0)) else ((xgi s0 l2 1 7).bind fun v1 => (xpt s0 l2 1 7 (.inl (v1 + l1))).bind fun s2 => (xgr s2 l2 1 1).bind fun v3 => J1_addUse_2 F (l1) (v3) s2)) := rfl
set_option maxRecDepth 100000 in
theorem E1_addLive (F : Nat) (l0 : Option Nat) (l1 : Int32) (s0 : XH) : J1_addLive (F + 1) l0 l1 s0 = (J1_addLive_2 F (l1) (l0) s0) := rfl
set_option maxRecDepth 100000 in
theorem E1_addLive_2 (F : Nat) (l1 : Int32) (l2 : Option Nat) (s0 : XH) : J1_addLive_2 (F + 1) l1 l2 s0 = (if l2 = none then (some (.inl none, s0)) else ((xgi s0 l2 1 8).bind fun v1 => (xpt s0 l2 1 8 (.inl (v1 + l1))).bind fun s2 => (xgr s2 l2 1 1).bind fun v3 => J1_addLive_2 F (l1) (v3) s2)) := rfl
set_option maxRecDepth 100000 in
theorem E1_keepCached (F : Nat) (l0 : Option Nat) (l1 : Int32) (s0 : XH) : J1_keepCached (F + 1) l0 l1 s0 = ((xgi s0 l0 1 9).bind fun v1 => (xpt s0 l0 1 9 (.inl (v1 + l1))).bind fun s2 => xgd s2 l0 1 (xcv (J1_addUse F l0 l1 s2) fun s3 => some (.inl none, s3))) := rfl
set_option maxRecDepth 100000 in
theorem E1_lacking (F : Nat) (l0 : Option Nat) (l1 : Int32) (s0 : XH) : J1_lacking (F + 1) l0 l1 s0 = ((xgi s0 l0 1 7).bind fun v1 => (xgi s0 l0 1 3).bind fun v2 => some (.inl (some (.inl ((v1 + l1) - v2))), s0)) := rfl
set_option maxRecDepth 100000 in
theorem E1_takesTask (F : Nat) (l0 : Option Nat) (s0 : XH) : J1_takesTask (F + 1) l0 s0 = (J1_takesTask_2 F (l0) s0) := rfl
set_option maxRecDepth 100000 in
theorem E1_takesTask_2 (F : Nat) (l1 : Option Nat) (s0 : XH) : J1_takesTask_2 (F + 1) l1 s0 = (if l1 = none then (if (xk 1) = 0 ∨ (xk 1) = 1 then some (.inl (some (.inl (xk 1))), s0) else none) else ((xgi s0 l1 1 8).bind fun v1 => (xgi s0 l1 1 4).bind fun v2 => if v1 < v2 then ((xgr s0 l1 1 1).bind fun v3 => J1_takesTask_2 F (v3) s0) else (if (xk 0) = 0 ∨ (xk 0) = 1 then some (.inl (some (.inl (xk 0))), s0) else none))) := rfl
set_option maxRecDepth 100000 in
theorem E1_takesFrom (F : Nat) (l0 : Option Nat) (l1 : Option Nat) (s0 : XH) : J1_takesFrom (F + 1) l0 l1 s0 = (J1_takesFrom_2 F (l1) (l0) s0) := rfl
set_option maxRecDepth 100000 in
theorem E1_takesFrom_2 (F : Nat) (l1 : Option Nat) (l2 : Option Nat) (s0 : XH) : J1_takesFrom_2 (F + 1) l1 l2 s0 = (if l2 = none then (if (xk 1) = 0 ∨ (xk 1) = 1 then some (.inl (some (.inl (xk 1))), s0) else none) else ((xgr s0 l1 8 4).bind fun v1 => xgd s0 v1 1 (xci (J1_liesIn F v1 l2 s0) fun v3 s2 => if v3 = 0 then ((xgi s2 l2 1 8).bind fun v4 => (xgi s2 l2 1 4).bind fun v5 => if v4 < v5 then ((xgi s2 l1 8 6).bind fun v6 => xgd s2 l2 1 (xci (J1_lacking F l2 v6 s2) fun v8 s7 => if 0 < v8 then (if (xk 0) = 0 ∨ (xk 0) = 1 then some (.inl (some (.inl (xk 0))), s7) else none) else ((xgr s7 l2 1 1).bind fun v9 => J1_takesFrom_2 F (l1) (v9) s7))) else (if (xk 0) = 0 ∨ (xk 0) = 1 then some (.inl (some (.inl (xk 0))), s2) else none)) else ((xgr s2 l2 1 1).bind fun v10 => J1_takesFrom_2 F (l1) (v10) s2)))) := rfl
set_option maxRecDepth 100000 in
theorem E1_holdsMoreThan (F : Nat) (l0 : Option Nat) (l1 : Int32) (l2 : Int32) (s0 : XH) : J1_holdsMoreThan (F + 1) l0 l1 l2 s0 = (if l1 = 0 then ((xgi s0 l0 1 7).bind fun v1 => if l2 < v1 then (if (xk 1) = 0 ∨ (xk 1) = 1 then some (.inl (some (.inl (xk 1))), s0) else none) else (if l1 = (xk 1) then ((xgi s0 l0 1 8).bind fun v2 => if l2 < v2 then (if (xk 1) = 0 ∨ (xk 1) = 1 then some (.inl (some (.inl (xk 1))), s0) else none) else (if (xk 0) = 0 ∨ (xk 0) = 1 then some (.inl (some (.inl (xk 0))), s0) else none)) else (if (xk 0) = 0 ∨ (xk 0) = 1 then some (.inl (some (.inl (xk 0))), s0) else none))) else (if l1 = (xk 1) then ((xgi s0 l0 1 8).bind fun v3 => if l2 < v3 then (if (xk 1) = 0 ∨ (xk 1) = 1 then some (.inl (some (.inl (xk 1))), s0) else none) else (if (xk 0) = 0 ∨ (xk 0) = 1 then some (.inl (some (.inl (xk 0))), s0) else none)) else (if (xk 0) = 0 ∨ (xk 0) = 1 then some (.inl (some (.inl (xk 0))), s0) else none))) := rfl
set_option maxRecDepth 100000 in
theorem E1_tell (F : Nat) (l0 : Option Nat) (l1 : Int32) (s0 : XH) : J1_tell (F + 1) l0 l1 s0 = (if l1 = nI 0 then ((xgi s0 l0 1 7).bind fun v1 => some (.inl (some (.inl v1)), s0)) else if l1 = nI 1 then ((xgi s0 l0 1 8).bind fun v2 => some (.inl (some (.inl v2)), s0)) else if l1 = nI 2 then ((xgi s0 l0 1 9).bind fun v3 => some (.inl (some (.inl v3)), s0)) else if l1 = nI 3 then ((xgi s0 l0 1 3).bind fun v4 => some (.inl (some (.inl v4)), s0)) else if l1 = nI 4 then ((xgi s0 l0 1 4).bind fun v5 => some (.inl (some (.inl v5)), s0)) else if l1 = nI 5 then ((xgi s0 l0 1 5).bind fun v6 => some (.inl (some (.inl v6)), s0)) else if l1 = nI 6 then ((xgi s0 l0 1 6).bind fun v7 => some (.inl (some (.inl v7)), s0)) else if l1 = nI 7 then ((xgi s0 l0 1 10).bind fun v8 => some (.inl (some (.inl v8)), s0)) else ((xgr s0 l0 1 1).bind fun v9 => if v9 = none then (some (.inl (some (.inl (xk (-1)))), s0)) else ((xgr s0 l0 1 1).bind fun v10 => (xgi s0 v10 1 0).bind fun v11 => some (.inl (some (.inl v11)), s0)))) := rfl
set_option maxRecDepth 100000 in
theorem E1_change (F : Nat) (l0 : Option Nat) (l1 : Int32) (l2 : Int32) (s0 : XH) : J1_change (F + 1) l0 l1 l2 s0 = (xgd s0 l0 1 (xci (J1_tell F l0 (l1 + (xk 3)) s0) fun v2 s1 => if l1 = nI 0 then ((xpt s1 l0 1 3 (.inl (l2))).bind fun s3 => some (.inl (some (.inl v2)), s3)) else if l1 = nI 1 then ((xpt s1 l0 1 4 (.inl (l2))).bind fun s4 => some (.inl (some (.inl v2)), s4)) else if l1 = nI 2 then ((xpt s1 l0 1 5 (.inl (l2))).bind fun s5 => some (.inl (some (.inl v2)), s5)) else ((xpt s1 l0 1 6 (.inl (l2))).bind fun s6 => some (.inl (some (.inl v2)), s6)))) := rfl
set_option maxRecDepth 100000 in
theorem E2_init (F : Nat) (l0 : Option Nat) (s0 : XH) : J2_init (F + 1) l0 s0 = (if l0 = none then none else xnwa s0 105 (.inr (.inr none)) (xk 20) fun a1 s2 => (xpt s2 l0 2 0 (.inr (.inr (some a1)))).bind fun s3 => some (.inl none, s3)) := rfl
set_option maxRecDepth 100000 in
theorem E2_hasRoom (F : Nat) (l0 : Option Nat) (l1 : Option Nat) (s0 : XH) : J2_hasRoom (F + 1) l0 l1 s0 = ((xgi s0 l0 2 1).bind fun v1 => if v1 < (xk 20) then ((xgi s0 l1 1 2).bind fun v2 => if v2 < (xk 5) then (if (xk 1) = 0 ∨ (xk 1) = 1 then some (.inl (some (.inl (xk 1))), s0) else none) else (if (xk 0) = 0 ∨ (xk 0) = 1 then some (.inl (some (.inl (xk 0))), s0) else none)) else (if (xk 0) = 0 ∨ (xk 0) = 1 then some (.inl (some (.inl (xk 0))), s0) else none)) := rfl
set_option maxRecDepth 100000 in
theorem E2_open (F : Nat) (l0 : Option Nat) (l1 : Option Nat) (s0 : XH) : J2_open (F + 1) l0 l1 s0 = (xnw s0 (1, xdf 1) fun a1 s2 => (xgi s2 l0 2 1).bind fun v3 => xcv (J1_init F (some a1) v3 l1 s2) fun s4 => (xgi s4 l0 2 1).bind fun v5 => if v5 < (xk 20) then ((xgr s4 l0 2 0).bind fun v6 => (xgi s4 l0 2 1).bind fun v7 => (xsr s4 v6 v7 (some a1)).bind fun s8 => (xgi s8 l0 2 1).bind fun v9 => (xpt s8 l0 2 1 (.inl (v9 + (xk 1)))).bind fun s10 => some (.inl (some (.inr (.inr (some a1)))), s10)) else (some (.inl (some (.inr (.inr (some a1)))), s4))) := rfl
set_option maxRecDepth 100000 in
theorem E2_richestIn (F : Nat) (l0 : Option Nat) (l1 : Option Nat) (s0 : XH) : J2_richestIn (F + 1) l0 l1 s0 = (J2_richestIn_4 F (l0) (l1) ((none : Option Nat)) (xk 0) s0) := rfl
set_option maxRecDepth 100000 in
theorem E2_richestIn_4 (F : Nat) (l0 : Option Nat) (l1 : Option Nat) (l2 : Option Nat) (l3 : Int32) (s0 : XH) : J2_richestIn_4 (F + 1) l0 l1 l2 l3 s0 = ((xgi s0 l0 2 1).bind fun v1 => if l3 < v1 then ((xgr s0 l0 2 0).bind fun v2 => (xar s0 v2 l3).bind fun v3 => (xgi s0 v3 1 9).bind fun v4 => if l2 = none then (if (xk 0) < v4 then (xgd s0 v3 1 (xci (J1_liesIn F v3 l1 s0) fun v9 s8 => if v9 = 0 then (J2_richestIn_4 F (l0) (l1) (l2) (l3 + xk 1) s8) else (J2_richestIn_4 F (l0) (l1) (v3) (l3 + xk 1) s8))) else (J2_richestIn_4 F (l0) (l1) (l2) (l3 + xk 1) s0)) else ((xgi s0 l2 1 9).bind fun v5 => if v5 < v4 then (xgd s0 v3 1 (xci (J1_liesIn F v3 l1 s0) fun v7 s6 => if v7 = 0 then (J2_richestIn_4 F (l0) (l1) (l2) (l3 + xk 1) s6) else (J2_richestIn_4 F (l0) (l1) (v3) (l3 + xk 1) s6))) else (J2_richestIn_4 F (l0) (l1) (l2) (l3 + xk 1) s0))) else (some (.inl (some (.inr (.inr (l2)))), s0))) := rfl
set_option maxRecDepth 100000 in
theorem E3_init (F : Nat) (l0 : Option Nat) (l1 : Option Nat) (l2 : Option Nat) (s0 : XH) : J3_init (F + 1) l0 l1 l2 s0 = (if l0 = none then none else (xpt s0 l0 3 0 (.inr (.inr (l1)))).bind fun s1 => (xpt s1 l0 3 1 (.inr (.inr (l2)))).bind fun s2 => some (.inl none, s2)) := rfl
set_option maxRecDepth 100000 in
theorem E3_takeCaches (F : Nat) (l0 : Option Nat) (l1 : Option Nat) (l2 : Int32) (s0 : XH) : J3_takeCaches (F + 1) l0 l1 l2 s0 = (J3_takeCaches_2 F (l0) (l1) (l2) (xk 0) s0) := rfl
set_option maxRecDepth 100000 in
theorem E3_takeCaches_2 (F : Nat) (l0 : Option Nat) (l1 : Option Nat) (l2 : Int32) (l3 : Int32) (s0 : XH) : J3_takeCaches_2 (F + 1) l0 l1 l2 l3 s0 = (if l3 < (xk 20) then (xgd s0 l1 1 (xci (J1_lacking F l1 l2 s0) fun v2 s1 => if 0 < v2 then ((xgr s1 l0 3 1).bind fun v3 => xgd s1 v3 2 (xcr (J2_richestIn F v3 l1 s1) fun v5 s4 => if v5 = none then (some (.inl none, s4)) else ((xgi s4 v5 1 9).bind fun v6 => xgd s4 l1 1 (xci (J1_lacking F l1 l2 s4) fun v8 s7 => xgd s7 v5 1 (xcv (J1_keepCached F v5 (-(xmin v6 v8)) s7) fun s9 => J3_takeCaches_2 F (l0) (l1) (l2) (l3 + xk 1) s9))))) else (some (.inl none, s1)))) else (some (.inl none, s0))) := rfl
set_option maxRecDepth 100000 in
theorem E8_heir (F : Nat) (l0 : Option Nat) (s0 : XH) : J8_heir (F + 1) l0 s0 = ((xgr s0 l0 8 1).bind fun v1 => (xgr s0 v1 7 4).bind fun v2 => if v2 = l0 then ((xgr s0 l0 8 1).bind fun v3 => (xgr s0 v3 7 1).bind fun v4 => if v4 = none then (some (.inl (some (.inr (.inr ((none : Option Nat))))), s0)) else ((xgr s0 l0 8 1).bind fun v5 => (xgr s0 v5 7 1).bind fun v6 => (xgr s0 v6 7 4).bind fun v7 => some (.inl (some (.inr (.inr (v7)))), s0))) else ((xgr s0 l0 8 1).bind fun v8 => (xgr s0 v8 7 4).bind fun v9 => some (.inl (some (.inr (.inr (v9)))), s0))) := rfl
set_option maxRecDepth 100000 in
theorem E9_retire (F : Nat) (l0 : Option Nat) (l1 : Option Nat) (s0 : XH) : J9_retire (F + 1) l0 l1 s0 = (xgd s0 l1 8 (xcr (J8_heir F l1 s0) fun v2 s1 => (xpt s1 l1 8 5 (.inl (xk 1))).bind fun s3 => (xgr s3 l1 8 4).bind fun v4 => (xgi s3 l1 8 6).bind fun v5 => xgd s3 v4 1 (xcv (J1_addUse F v4 (-v5) s3) fun s6 => (xgr s6 l1 8 4).bind fun v7 => xgd s6 v7 1 (xcv (J1_addLive F v7 (xk (-1)) s6) fun s8 => (xpt s8 l1 8 6 (.inl (xk 0))).bind fun s9 => J9_retire_37 F (l0) (l1) (v2) (xk 0) s9)))) := rfl
set_option maxRecDepth 100000 in
theorem E9_retire_37 (F : Nat) (l0 : Option Nat) (l1 : Option Nat) (l2 : Option Nat) (l3 : Int32) (s0 : XH) : J9_retire_37 (F + 1) l0 l1 l2 l3 s0 = ((xgi s0 l0 9 2).bind fun v1 => if l3 < v1 then ((xgr s0 l0 9 0).bind fun v2 => (xar s0 v2 l3).bind fun v3 => (xgr s0 v3 8 3).bind fun v4 => if v4 = l1 then ((xgr s0 l0 9 0).bind fun v5 => (xar s0 v5 l3).bind fun v6 => (xpt s0 v6 8 3 (.inr (.inr (l2)))).bind fun s7 => J9_retire_37 F (l0) (l1) (l2) (l3 + xk 1) s7) else (J9_retire_37 F (l0) (l1) (l2) (l3 + xk 1) s0)) else (some (.inl none, s0))) := rfl
set_option maxRecDepth 100000 in
theorem E7_liesIn (F : Nat) (l0 : Option Nat) (l1 : Option Nat) (s0 : XH) : J7_liesIn (F + 1) l0 l1 s0 = (J7_liesIn_2 F (l1) (l0) s0) := rfl
set_option maxRecDepth 100000 in
theorem E7_liesIn_2 (F : Nat) (l1 : Option Nat) (l2 : Option Nat) (s0 : XH) : J7_liesIn_2 (F + 1) l1 l2 s0 = (if l2 = none then (if (xk 0) = 0 ∨ (xk 0) = 1 then some (.inl (some (.inl (xk 0))), s0) else none) else (if l2 = l1 then (if (xk 1) = 0 ∨ (xk 1) = 1 then some (.inl (some (.inl (xk 1))), s0) else none) else ((xgr s0 l2 7 1).bind fun v1 => J7_liesIn_2 F (l1) (v1) s0))) := rfl
set_option maxRecDepth 100000 in
theorem E7_drop (F : Nat) (l0 : Option Nat) (l1 : Option Nat) (s0 : XH) : J7_drop (F + 1) l0 l1 s0 = (J7_drop_2 F (l0) (l1) (xk 1) s0) := rfl
set_option maxRecDepth 100000 in
theorem E7_drop_2 (F : Nat) (l0 : Option Nat) (l1 : Option Nat) (l2 : Int32) (s0 : XH) : J7_drop_2 (F + 1) l0 l1 l2 s0 = (if (xk 40) < l2 then (some (.inl none, s0)) else ((xgr s0 l0 7 3).bind fun v1 => (xar s0 v1 l2).bind fun v2 => if v2 = l1 then ((xgr s0 l0 7 3).bind fun v3 => (xsr s0 v3 l2 (none : Option Nat)).bind fun s4 => J7_drop_2 F (l0) (l1) (l2 + xk 1) s4) else (J7_drop_2 F (l0) (l1) (l2 + xk 1) s0))) := rfl
set_option maxRecDepth 100000 in
theorem E8_vanish (F : Nat) (l0 : Option Nat) (s0 : XH) : J8_vanish (F + 1) l0 s0 = ((xpt s0 l0 8 5 (.inl (xk 2))).bind fun s1 => (xpt s1 l0 8 3 (.inr (.inr ((none : Option Nat))))).bind fun s2 => (xgr s2 l0 8 1).bind fun v3 => J8_vanish_15 F (l0) (v3) s2) := rfl
set_option maxRecDepth 100000 in
theorem E8_vanish_15 (F : Nat) (l0 : Option Nat) (l1 : Option Nat) (s0 : XH) : J8_vanish_15 (F + 1) l0 l1 s0 = (if l1 = none then (some (.inl none, s0)) else (xgd s0 l1 7 (xcv (J7_drop F l1 l0 s0) fun s1 => (xgr s1 l1 7 1).bind fun v2 => J8_vanish_15 F (l0) (v2) s1))) := rfl
set_option maxRecDepth 100000 in
theorem E9_emptySpace (F : Nat) (l0 : Option Nat) (l1 : Option Nat) (s0 : XH) : J9_emptySpace (F + 1) l0 l1 s0 = (J9_emptySpace_4 F (l0) (l1) (xk 0) (xk 0) s0) := rfl
set_option maxRecDepth 100000 in
theorem E9_emptySpace_4 (F : Nat) (l0 : Option Nat) (l1 : Option Nat) (l2 : Int32) (l3 : Int32) (s0 : XH) : J9_emptySpace_4 (F + 1) l0 l1 l2 l3 s0 = ((xgi s0 l0 9 2).bind fun v1 => if l3 < v1 then ((xgr s0 l0 9 0).bind fun v2 => (xar s0 v2 l3).bind fun v3 => if v3 = l1 then (J9_emptySpace_4 F (l0) (l1) (l2) (l3 + xk 1) s0) else ((xgi s0 v3 8 5).bind fun v4 => if v4 = (xk 2) then (J9_emptySpace_4 F (l0) (l1) (l2) (l3 + xk 1) s0) else ((xgr s0 v3 8 1).bind fun v5 => (xgr s0 l1 8 1).bind fun v6 => xgd s0 v5 7 (xci (J7_liesIn F v5 v6 s0) fun v8 s7 => if v8 = 0 then (J9_emptySpace_4 F (l0) (l1) (l2) (l3 + xk 1) s7) else ((xgi s7 v3 8 5).bind fun v9 => if v9 = 0 then (xgd s7 l0 9 (xcv (J9_retire F l0 v3 s7) fun s10 => xgd s10 v3 8 (xcv (J8_vanish F v3 s10) fun s11 => J9_emptySpace_4 F (l0) (l1) (l2 + xk 1) (l3 + xk 1) s11))) else (xgd s7 v3 8 (xcv (J8_vanish F v3 s7) fun s12 => J9_emptySpace_4 F (l0) (l1) (l2) (l3 + xk 1) s12))))))) else (some (.inl (some (.inl l2)), s0))) := rfl
set_option maxRecDepth 100000 in
theorem E8_isLostZombie (F : Nat) (l0 : Option Nat) (s0 : XH) : J8_isLostZombie (F + 1) l0 s0 = ((xgi s0 l0 8 5).bind fun v1 => if v1 = (xk 1) then ((xgr s0 l0 8 3).bind fun v2 => if v2 = none then (if (xk 1) = 0 ∨ (xk 1) = 1 then some (.inl (some (.inl (xk 1))), s0) else none) else ((xgr s0 l0 8 3).bind fun v3 => (xgi s0 v3 8 5).bind fun v4 => if v4 = 0 then ((xgr s0 l0 8 3).bind fun v5 => (xgi s0 v5 8 0).bind fun v6 => if v6 = 0 then (if (xk 1) = 0 ∨ (xk 1) = 1 then some (.inl (some (.inl (xk 1))), s0) else none) else (if (xk 0) = 0 ∨ (xk 0) = 1 then some (.inl (some (.inl (xk 0))), s0) else none)) else (if (xk 1) = 0 ∨ (xk 1) = 1 then some (.inl (some (.inl (xk 1))), s0) else none))) else (if (xk 0) = 0 ∨ (xk 0) = 1 then some (.inl (some (.inl (xk 0))), s0) else none)) := rfl
set_option maxRecDepth 100000 in
theorem E9_dropLostZombies (F : Nat) (l0 : Option Nat) (s0 : XH) : J9_dropLostZombies (F + 1) l0 s0 = (J9_dropLostZombies_2 F (l0) (xk 0) s0) := rfl
set_option maxRecDepth 100000 in
theorem E9_dropLostZombies_2 (F : Nat) (l0 : Option Nat) (l1 : Int32) (s0 : XH) : J9_dropLostZombies_2 (F + 1) l0 l1 s0 = ((xgi s0 l0 9 2).bind fun v1 => if l1 < v1 then ((xgr s0 l0 9 0).bind fun v2 => (xar s0 v2 l1).bind fun v3 => xgd s0 v3 8 (xci (J8_isLostZombie F v3 s0) fun v5 s4 => if v5 = 0 then (J9_dropLostZombies_2 F (l0) (l1 + xk 1) s4) else ((xgr s4 l0 9 0).bind fun v6 => (xar s4 v6 l1).bind fun v7 => xgd s4 v7 8 (xcv (J8_vanish F v7 s4) fun s8 => J9_dropLostZombies_2 F (l0) (l1 + xk 1) s8)))) else (some (.inl none, s0))) := rfl
set_option maxRecDepth 100000 in
theorem E9_end (F : Nat) (l0 : Option Nat) (l1 : Option Nat) (s0 : XH) : J9_end (F + 1) l0 l1 s0 = (xgd s0 l0 9 (xcv (J9_retire F l0 l1 s0) fun s1 => (xgr s1 l1 8 1).bind fun v2 => (xgr s1 v2 7 4).bind fun v3 => if v3 = l1 then (xgd s1 l0 9 (xci (J9_emptySpace F l0 l1 s1) fun v6 s5 => xgd s5 l0 9 (xcv (J9_dropLostZombies F l0 s5) fun s7 => some (.inl (some (.inl ((xk 1) + v6))), s7)))) else (xgd s1 l0 9 (xcv (J9_dropLostZombies F l0 s1) fun s4 => some (.inl (some (.inl (xk 1))), s4))))) := rfl
set_option maxRecDepth 100000 in
theorem E8_mayBeKilled (F : Nat) (l0 : Option Nat) (s0 : XH) : J8_mayBeKilled (F + 1) l0 s0 = ((xgi s0 l0 8 5).bind fun v1 => if v1 = 0 then ((xgi s0 l0 8 0).bind fun v2 => if v2 = 0 then (if (xk 0) = 0 ∨ (xk 0) = 1 then some (.inl (some (.inl (xk 0))), s0) else none) else ((xgi s0 l0 8 7).bind fun v3 => if (xk (-10)) < v3 then (if (xk 1) = 0 ∨ (xk 1) = 1 then some (.inl (some (.inl (xk 1))), s0) else none) else (if (xk 0) = 0 ∨ (xk 0) = 1 then some (.inl (some (.inl (xk 0))), s0) else none))) else (if (xk 0) = 0 ∨ (xk 0) = 1 then some (.inl (some (.inl (xk 0))), s0) else none)) := rfl
set_option maxRecDepth 100000 in
theorem E8_score (F : Nat) (l0 : Option Nat) (s0 : XH) : J8_score (F + 1) l0 s0 = ((xgi s0 l0 8 6).bind fun v1 => (xgi s0 l0 8 7).bind fun v2 => some (.inl (some (.inl (v1 + ((xk 100) * v2)))), s0)) := rfl
set_option maxRecDepth 100000 in
theorem E9_victimIn (F : Nat) (l0 : Option Nat) (l1 : Option Nat) (s0 : XH) : J9_victimIn (F + 1) l0 l1 s0 = (J9_victimIn_4 F (l0) (l1) ((none : Option Nat)) (xk 0) s0) := rfl
set_option maxRecDepth 100000 in
theorem E9_victimIn_4 (F : Nat) (l0 : Option Nat) (l1 : Option Nat) (l2 : Option Nat) (l3 : Int32) (s0 : XH) : J9_victimIn_4 (F + 1) l0 l1 l2 l3 s0 = ((xgi s0 l0 9 2).bind fun v1 => if l3 < v1 then ((xgr s0 l0 9 0).bind fun v2 => (xar s0 v2 l3).bind fun v3 => xgd s0 v3 8 (xci (J8_mayBeKilled F v3 s0) fun v5 s4 => if v5 = 0 then (J9_victimIn_4 F (l0) (l1) (l2) (l3 + xk 1) s4) else ((xgr s4 v3 8 4).bind fun v6 => xgd s4 v6 1 (xci (J1_liesIn F v6 l1 s4) fun v8 s7 => if v8 = 0 then (J9_victimIn_4 F (l0) (l1) (l2) (l3 + xk 1) s7) else (if l2 = none then (J9_victimIn_4 F (l0) (l1) (v3) (l3 + xk 1) s7) else (xgd s7 v3 8 (xci (J8_score F v3 s7) fun v10 s9 => xgd s9 l2 8 (xci (J8_score F l2 s9) fun v12 s11 => if v10 < v12 then (J9_victimIn_4 F (l0) (l1) (l2) (l3 + xk 1) s11) else (J9_victimIn_4 F (l0) (l1) (v3) (l3 + xk 1) s11))))))))) else (some (.inl (some (.inr (.inr (l2)))), s0))) := rfl
set_option maxRecDepth 100000 in
theorem E3_killVictims (F : Nat) (l0 : Option Nat) (l1 : Option Nat) (l2 : Option Nat) (l3 : Int32) (s0 : XH) : J3_killVictims (F + 1) l0 l1 l2 l3 s0 = (J3_killVictims_3 F (l0) (l1) (l2) (l3) (xk 0) s0) := rfl
set_option maxRecDepth 100000 in
theorem E3_killVictims_3 (F : Nat) (l0 : Option Nat) (l1 : Option Nat) (l2 : Option Nat) (l3 : Int32) (l4 : Int32) (s0 : XH) : J3_killVictims_3 (F + 1) l0 l1 l2 l3 l4 s0 = (if l4 < (xk 150) then (xgd s0 l1 1 (xci (J1_lacking F l1 l3 s0) fun v2 s1 => if 0 < v2 then ((xgr s1 l0 3 0).bind fun v3 => xgd s1 v3 9 (xcr (J9_victimIn F v3 l1 s1) fun v5 s4 => if v5 = none then (some (.inl (some (.inl (xk (-3)))), s4)) else ((xgi s4 l0 3 2).bind fun v6 => (xpt s4 l0 3 2 (.inl (v6 + (xk 1)))).bind fun s7 => (xgr s7 l0 3 0).bind fun v8 => xgd s7 v8 9 (xci (J9_end F v8 v5 s7) fun v10 s9 => (xgi s9 l2 8 5).bind fun v11 => if v11 = 0 then (J3_killVictims_3 F (l0) (l1) (l2) (l3) (l4 + xk 1) s9) else (some (.inl (some (.inl (xk (-5)))), s9)))))) else (some (.inl (some (.inl (xk 0))), s1)))) else (some (.inl (some (.inl (xk 0))), s0))) := rfl
set_option maxRecDepth 100000 in
theorem E3_makeRoom (F : Nat) (l0 : Option Nat) (l1 : Option Nat) (l2 : Int32) (s0 : XH) : J3_makeRoom (F + 1) l0 l1 l2 s0 = ((xgr s0 l1 8 4).bind fun v1 => J3_makeRoom_5 F (l0) (l1) (l2) (v1) s0) := rfl
set_option maxRecDepth 100000 in
theorem E3_makeRoom_5 (F : Nat) (l0 : Option Nat) (l1 : Option Nat) (l2 : Int32) (l3 : Option Nat) (s0 : XH) : J3_makeRoom_5 (F + 1) l0 l1 l2 l3 s0 = (if l3 = none then (some (.inl (some (.inl (xk 0))), s0)) else (xgd s0 l0 3 (xcv (J3_takeCaches F l0 l3 l2 s0) fun s1 => xgd s1 l0 3 (xci (J3_killVictims F l0 l3 l1 l2 s1) fun v3 s2 => if v3 < 0 then (some (.inl (some (.inl v3)), s2)) else ((xgr s2 l3 1 1).bind fun v4 => J3_makeRoom_5 F (l0) (l1) (l2) (v4) s2))))) := rfl
end
section
set_option maxRecDepth 100000 in
theorem E4_init (F : Nat) (l0 : Option Nat) (l1 : Int32) (s0 : XH) : J4_init (F + 1) l0 l1 s0 = (if l0 = none then none else xnwa s0 106 (.inr (.inr none)) (xk 15) fun a1 s2 => (xpt s2 l0 4 1 (.inr (.inr (some a1)))).bind fun s3 => (xpt s3 l0 4 0 (.inl (l1))).bind fun s4 => some (.inl none, s4)) := rfl
set_option maxRecDepth 100000 in
theorem E4_begin (F : Nat) (l0 : Option Nat) (l1 : Option Nat) (l2 : Int32) (l3 : Int32) (s0 : XH) : J4_begin (F + 1) l0 l1 l2 l3 s0 = ((xpt s0 l0 4 2 (.inr (.inr (l1)))).bind fun s1 => (xpt s1 l0 4 6 (.inl (l2))).bind fun s2 => (xpt s2 l0 4 7 (.inl (l3))).bind fun s3 => some (.inl none, s3)) := rfl
set_option maxRecDepth 100000 in
theorem E4_over (F : Nat) (l0 : Option Nat) (l1 : Int32) (s0 : XH) : J4_over (F + 1) l0 l1 s0 = (if l1 < 0 then (some (.inl (some (.inr (.inr ((none : Option Nat))))), s0)) else (if l1 < (xk 15) then ((xgr s0 l0 4 1).bind fun v1 => (xar s0 v1 l1).bind fun v2 => some (.inl (some (.inr (.inr (v2)))), s0)) else (some (.inl (some (.inr (.inr ((none : Option Nat))))), s0)))) := rfl
set_option maxRecDepth 100000 in
theorem E4_cover (F : Nat) (l0 : Option Nat) (l1 : Int32) (l2 : Option Nat) (s0 : XH) : J4_cover (F + 1) l0 l1 l2 s0 = (if l1 < 0 then (some (.inl none, s0)) else (if l1 < (xk 15) then ((xgr s0 l0 4 1).bind fun v1 => (xsr s0 v1 l1 l2).bind fun s2 => (xgi s2 l0 4 5).bind fun v3 => if l2 = none then ((xpt s2 l0 4 5 (.inl (v3 + (xk (-1))))).bind fun s5 => some (.inl none, s5)) else ((xpt s2 l0 4 5 (.inl (v3 + (xk 1)))).bind fun s4 => some (.inl none, s4))) else (some (.inl none, s0)))) := rfl
set_option maxRecDepth 100000 in
theorem E4_putOn (F : Nat) (l0 : Option Nat) (l1 : Option Nat) (l2 : Int32) (s0 : XH) : J4_putOn (F + 1) l0 l1 l2 s0 = ((xpt s0 l0 4 3 (.inr (.inr (l1)))).bind fun s1 => (xpt s1 l0 4 4 (.inl (l2))).bind fun s2 => xgd s2 l1 4 (xcv (J4_cover F l1 l2 l0 s2) fun s3 => some (.inl none, s3))) := rfl
set_option maxRecDepth 100000 in
theorem E4_takeOff (F : Nat) (l0 : Option Nat) (s0 : XH) : J4_takeOff (F + 1) l0 s0 = ((xgr s0 l0 4 3).bind fun v1 => if v1 = none then ((xpt s0 l0 4 3 (.inr (.inr ((none : Option Nat))))).bind fun s2 => (xpt s2 l0 4 4 (.inl (xk 0))).bind fun s3 => (xpt s3 l0 4 2 (.inr (.inr ((none : Option Nat))))).bind fun s4 => some (.inl none, s4)) else ((xgr s0 l0 4 3).bind fun v5 => (xgi s0 l0 4 4).bind fun v6 => xgd s0 v5 4 (xcv (J4_cover F v5 v6 (none : Option Nat) s0) fun s7 => (xpt s7 l0 4 3 (.inr (.inr ((none : Option Nat))))).bind fun s8 => (xpt s8 l0 4 4 (.inl (xk 0))).bind fun s9 => (xpt s9 l0 4 2 (.inr (.inr ((none : Option Nat))))).bind fun s10 => some (.inl none, s10)))) := rfl
set_option maxRecDepth 100000 in
theorem E4_tell (F : Nat) (l0 : Option Nat) (l1 : Int32) (s0 : XH) : J4_tell (F + 1) l0 l1 s0 = (if l1 = nI 0 then ((xgr s0 l0 4 2).bind fun v1 => if v1 = none then (some (.inl (some (.inl (xk (-1)))), s0)) else ((xgr s0 l0 4 2).bind fun v2 => (xgi s0 v2 10 0).bind fun v3 => some (.inl (some (.inl v3)), s0))) else if l1 = nI 1 then ((xgr s0 l0 4 3).bind fun v4 => if v4 = none then (some (.inl (some (.inl (xk (-1)))), s0)) else ((xgr s0 l0 4 3).bind fun v5 => (xgi s0 v5 4 0).bind fun v6 => some (.inl (some (.inl v6)), s0))) else if l1 = nI 2 then ((xgi s0 l0 4 4).bind fun v7 => some (.inl (some (.inl v7)), s0)) else if l1 = nI 3 then ((xgi s0 l0 4 6).bind fun v8 => some (.inl (some (.inl v8)), s0)) else ((xgi s0 l0 4 7).bind fun v9 => some (.inl (some (.inl v9)), s0))) := rfl
set_option maxRecDepth 100000 in
theorem E6_init (F : Nat) (l0 : Option Nat) (s0 : XH) : J6_init (F + 1) l0 s0 = (if l0 = none then none else some (.inl none, s0)) := rfl
set_option maxRecDepth 100000 in
theorem E5_init (F : Nat) (l0 : Option Nat) (s0 : XH) : J5_init (F + 1) l0 s0 = (if l0 = none then none else xnwa s0 106 (.inr (.inr none)) (xk 80) fun a1 s2 => (xpt s2 l0 5 0 (.inr (.inr (some a1)))).bind fun s3 => xnwa s3 107 (.inr (.inr none)) (xk 10) fun a4 s5 => (xpt s5 l0 5 1 (.inr (.inr (some a4)))).bind fun s6 => xnw s6 (6, xdf 6) fun a7 s8 => xcv (J6_init F (some a7) s8) fun s9 => (xpt s9 l0 5 2 (.inr (.inr (some a7)))).bind fun s10 => J5_init_35 F (l0) (xk 0) s10) := rfl
set_option maxRecDepth 100000 in
theorem E5_init_35 (F : Nat) (l0 : Option Nat) (l1 : Int32) (s0 : XH) : J5_init_35 (F + 1) l0 l1 s0 = (if l1 < (xk 80) then ((xgr s0 l0 5 0).bind fun v1 => xnw s0 (4, xdf 4) fun a2 s3 => xcv (J4_init F (some a2) l1 s3) fun s4 => (xsr s4 v1 l1 (some a2)).bind fun s5 => J5_init_35 F (l0) (l1 + xk 1) s5) else (some (.inl none, s0))) := rfl
set_option maxRecDepth 100000 in
theorem E5_viewAt (F : Nat) (l0 : Option Nat) (l1 : Int32) (s0 : XH) : J5_viewAt (F + 1) l0 l1 s0 = (if l1 < 0 then (some (.inl (some (.inr (.inr ((none : Option Nat))))), s0)) else ((xgi s0 l0 5 4).bind fun v1 => if l1 < v1 then (if l1 < (xk 10) then ((xgr s0 l0 5 1).bind fun v2 => (xar s0 v2 l1).bind fun v3 => some (.inl (some (.inr (.inr (v3)))), s0)) else (some (.inl (some (.inr (.inr ((none : Option Nat))))), s0))) else (some (.inl (some (.inr (.inr ((none : Option Nat))))), s0)))) := rfl
set_option maxRecDepth 100000 in
theorem E5_mountAt (F : Nat) (l0 : Option Nat) (l1 : Int32) (s0 : XH) : J5_mountAt (F + 1) l0 l1 s0 = (if l1 < 0 then (some (.inl (some (.inr (.inr ((none : Option Nat))))), s0)) else (if l1 < (xk 80) then ((xgr s0 l0 5 0).bind fun v1 => (xar s0 v1 l1).bind fun v2 => (xgr s0 v2 4 2).bind fun v3 => if v3 = none then (some (.inl (some (.inr (.inr ((none : Option Nat))))), s0)) else ((xgr s0 l0 5 0).bind fun v4 => (xar s0 v4 l1).bind fun v5 => some (.inl (some (.inr (.inr (v5)))), s0))) else (some (.inl (some (.inr (.inr ((none : Option Nat))))), s0)))) := rfl
set_option maxRecDepth 100000 in
theorem E10_init (F : Nat) (l0 : Option Nat) (l1 : Int32) (s0 : XH) : J10_init (F + 1) l0 l1 s0 = (if l0 = none then none else (xpt s0 l0 10 0 (.inl (l1))).bind fun s1 => some (.inl none, s1)) := rfl
set_option maxRecDepth 100000 in
theorem E5_addView (F : Nat) (l0 : Option Nat) (s0 : XH) : J5_addView (F + 1) l0 s0 = (xnw s0 (10, xdf 10) fun a1 s2 => (xgi s2 l0 5 4).bind fun v3 => xcv (J10_init F (some a1) v3 s2) fun s4 => (xgi s4 l0 5 4).bind fun v5 => if v5 < (xk 10) then ((xgr s4 l0 5 1).bind fun v6 => (xgi s4 l0 5 4).bind fun v7 => (xsr s4 v6 v7 (some a1)).bind fun s8 => (xgi s8 l0 5 4).bind fun v9 => (xpt s8 l0 5 4 (.inl (v9 + (xk 1)))).bind fun s10 => some (.inl (some (.inr (.inr (some a1)))), s10)) else (some (.inl (some (.inr (.inr (some a1)))), s4))) := rfl
set_option maxRecDepth 100000 in
theorem E5_occupy (F : Nat) (l0 : Option Nat) (l1 : Option Nat) (l2 : Int32) (l3 : Int32) (s0 : XH) : J5_occupy (F + 1) l0 l1 l2 l3 s0 = (J5_occupy_3 F (l0) (l1) (l2) (l3) (xk 0) s0) := rfl
set_option maxRecDepth 100000 in
theorem E5_occupy_3 (F : Nat) (l0 : Option Nat) (l1 : Option Nat) (l2 : Int32) (l3 : Int32) (l4 : Int32) (s0 : XH) : J5_occupy_3 (F + 1) l0 l1 l2 l3 l4 s0 = (if l4 < (xk 80) then ((xgr s0 l0 5 0).bind fun v1 => (xar s0 v1 l4).bind fun v2 => (xgr s0 v2 4 2).bind fun v3 => if v3 = none then ((xgr s0 l0 5 0).bind fun v4 => (xar s0 v4 l4).bind fun v5 => xgd s0 v5 4 (xcv (J4_begin F v5 l1 l2 l3 s0) fun s6 => (xgi s6 l0 5 3).bind fun v7 => (xpt s6 l0 5 3 (.inl (v7 + (xk 1)))).bind fun s8 => (xgr s8 l0 5 0).bind fun v9 => (xar s8 v9 l4).bind fun v10 => some (.inl (some (.inr (.inr (v10)))), s8))) else (J5_occupy_3 F (l0) (l1) (l2) (l3) (l4 + xk 1) s0)) else (some (.inl (some (.inr (.inr ((none : Option Nat))))), s0))) := rfl
set_option maxRecDepth 100000 in
theorem E5_openView (F : Nat) (l0 : Option Nat) (s0 : XH) : J5_openView (F + 1) l0 s0 = (xgd s0 l0 5 (xcr (J5_addView F l0 s0) fun v2 s1 => xgd s1 l0 5 (xcr (J5_occupy F l0 v2 (xk 0) (xk 0) s1) fun v4 s3 => (xpt s3 v2 10 1 (.inr (.inr (v4)))).bind fun s5 => some (.inl (some (.inr (.inr (v2)))), s5)))) := rfl
set_option maxRecDepth 100000 in
theorem E5_newPeer (F : Nat) (l0 : Option Nat) (l1 : Int32) (s0 : XH) : J5_newPeer (F + 1) l0 l1 s0 = (if l1 = 0 then (some (.inl (some (.inl (xk 0))), s0)) else ((xgi s0 l0 5 5).bind fun v1 => (xpt s0 l0 5 5 (.inl (v1 + (xk 1)))).bind fun s2 => (xgi s2 l0 5 5).bind fun v3 => some (.inl (some (.inl v3)), s2))) := rfl
set_option maxRecDepth 100000 in
theorem E5_changePeer (F : Nat) (l0 : Option Nat) (l1 : Option Nat) (l2 : Int32) (s0 : XH) : J5_changePeer (F + 1) l0 l1 l2 s0 = ((xgi s0 l1 4 7).bind fun v1 => xgd s0 l0 5 (xci (J5_newPeer F l0 l2 s0) fun v3 s2 => (xpt s2 l1 4 7 (.inl (v3))).bind fun s4 => some (.inl (some (.inl v1)), s4))) := rfl
set_option maxRecDepth 100000 in
theorem E5_canCopy (F : Nat) (l0 : Option Nat) (l1 : Option Nat) (s0 : XH) : J5_canCopy (F + 1) l0 l1 s0 = (J5_canCopy_4 F (l0) (l1) (xk 0) (xk 0) s0) := rfl
set_option maxRecDepth 100000 in
theorem E5_canCopy_4 (F : Nat) (l0 : Option Nat) (l1 : Option Nat) (l2 : Int32) (l3 : Int32) (s0 : XH) : J5_canCopy_4 (F + 1) l0 l1 l2 l3 s0 = (if l3 < (xk 80) then ((xgr s0 l0 5 0).bind fun v1 => (xar s0 v1 l3).bind fun v2 => (xgr s0 v2 4 2).bind fun v3 => if v3 = l1 then (J5_canCopy_4 F (l0) (l1) (l2 + xk 1) (l3 + xk 1) s0) else (J5_canCopy_4 F (l0) (l1) (l2) (l3 + xk 1) s0)) else ((xgi s0 l0 5 4).bind fun v4 => if v4 < (xk 10) then ((xgi s0 l0 5 3).bind fun v5 => if (xk 80) < (v5 + l2) then (if (xk 0) = 0 ∨ (xk 0) = 1 then some (.inl (some (.inl (xk 0))), s0) else none) else (if (xk 1) = 0 ∨ (xk 1) = 1 then some (.inl (some (.inl (xk 1))), s0) else none)) else (if (xk 0) = 0 ∨ (xk 0) = 1 then some (.inl (some (.inl (xk 0))), s0) else none))) := rfl
set_option maxRecDepth 100000 in
theorem E5_placeTwin (F : Nat) (l0 : Option Nat) (s0 : XH) : J5_placeTwin (F + 1) l0 s0 = ((xgr s0 l0 4 8).bind fun v1 => if v1 = none then (some (.inl none, s0)) else ((xgr s0 l0 4 3).bind fun v2 => if v2 = none then (some (.inl none, s0)) else ((xgr s0 l0 4 3).bind fun v3 => (xgr s0 v3 4 8).bind fun v4 => if v4 = none then (some (.inl none, s0)) else ((xgr s0 l0 4 8).bind fun v5 => (xgr s0 l0 4 3).bind fun v6 => (xgr s0 v6 4 8).bind fun v7 => (xgi s0 l0 4 4).bind fun v8 => xgd s0 v5 4 (xcv (J4_putOn F v5 v7 v8 s0) fun s9 => some (.inl none, s9)))))) := rfl
set_option maxRecDepth 100000 in
theorem E5_copyView (F : Nat) (l0 : Option Nat) (l1 : Option Nat) (s0 : XH) : J5_copyView (F + 1) l0 l1 s0 = (xgd s0 l0 5 (xcr (J5_addView F l0 s0) fun v2 s1 => J5_copyView_7 F (l0) (l1) (v2) (xk 0) s1)) := rfl
set_option maxRecDepth 100000 in
theorem E5_copyView_7 (F : Nat) (l0 : Option Nat) (l1 : Option Nat) (l2 : Option Nat) (l3 : Int32) (s0 : XH) : J5_copyView_7 (F + 1) l0 l1 l2 l3 s0 = (if l3 < (xk 80) then ((xgr s0 l0 5 0).bind fun v1 => (xar s0 v1 l3).bind fun v2 => (xgr s0 v2 4 2).bind fun v3 => if v3 = l1 then ((xgr s0 l0 5 0).bind fun v4 => (xar s0 v4 l3).bind fun v5 => (xgr s0 l0 5 0).bind fun v6 => (xar s0 v6 l3).bind fun v7 => (xgi s0 v7 4 6).bind fun v8 => (xgr s0 l0 5 0).bind fun v9 => (xar s0 v9 l3).bind fun v10 => (xgi s0 v10 4 7).bind fun v11 => xgd s0 l0 5 (xcr (J5_occupy F l0 l2 v8 v11 s0) fun v13 s12 => (xpt s12 v5 4 8 (.inr (.inr (v13)))).bind fun s14 => J5_copyView_7 F (l0) (l1) (l2) (l3 + xk 1) s14)) else (J5_copyView_7 F (l0) (l1) (l2) (l3 + xk 1) s0)) else (J5_copyView_66 F (l0) (l1) (l2) (xk 0) s0)) := rfl
set_option maxRecDepth 100000 in
theorem E5_copyView_66 (F : Nat) (l0 : Option Nat) (l1 : Option Nat) (l2 : Option Nat) (l3 : Int32) (s0 : XH) : J5_copyView_66 (F + 1) l0 l1 l2 l3 s0 = (if l3 < (xk 80) then ((xgr s0 l0 5 0).bind fun v1 => (xar s0 v1 l3).bind fun v2 => (xgr s0 v2 4 2).bind fun v3 => if v3 = l1 then ((xgr s0 l0 5 0).bind fun v4 => (xar s0 v4 l3).bind fun v5 => xcv (J5_placeTwin F v5 s0) fun s6 => J5_copyView_66 F (l0) (l1) (l2) (l3 + xk 1) s6) else (J5_copyView_66 F (l0) (l1) (l2) (l3 + xk 1) s0)) else ((xgr s0 l1 10 1).bind fun v7 => (xgr s0 v7 4 8).bind fun v8 => (xpt s0 l2 10 1 (.inr (.inr (v8)))).bind fun s9 => some (.inl (some (.inr (.inr (l2)))), s9))) := rfl
set_option maxRecDepth 100000 in
theorem E5_addOne (F : Nat) (l0 : Option Nat) (l1 : Option Nat) (l2 : Int32) (l3 : Int32) (l4 : Int32) (s0 : XH) : J5_addOne (F + 1) l0 l1 l2 l3 l4 s0 = ((xgr s0 l1 4 2).bind fun v1 => xgd s0 l0 5 (xcr (J5_occupy F l0 v1 l3 l4 s0) fun v3 s2 => if v3 = none then (some (.inl (some (.inl (xk (-2)))), s2)) else (xgd s2 v3 4 (xcv (J4_putOn F v3 l1 l2 s2) fun s4 => (xgi s4 v3 4 0).bind fun v5 => some (.inl (some (.inl v5)), s4))))) := rfl
set_option maxRecDepth 100000 in
theorem E5_isPeer (F : Nat) (l0 : Option Nat) (l1 : Option Nat) (s0 : XH) : J5_isPeer (F + 1) l0 l1 s0 = (if l0 = l1 then (if (xk 0) = 0 ∨ (xk 0) = 1 then some (.inl (some (.inl (xk 0))), s0) else none) else ((xgr s0 l0 4 2).bind fun v1 => if v1 = none then (if (xk 0) = 0 ∨ (xk 0) = 1 then some (.inl (some (.inl (xk 0))), s0) else none) else ((xgi s0 l0 4 7).bind fun v2 => if v2 = 0 then (if (xk 0) = 0 ∨ (xk 0) = 1 then some (.inl (some (.inl (xk 0))), s0) else none) else ((xgi s0 l0 4 7).bind fun v3 => (xgi s0 l1 4 7).bind fun v4 => if v3 = v4 then (if (xk 1) = 0 ∨ (xk 1) = 1 then some (.inl (some (.inl (xk 1))), s0) else none) else (if (xk 0) = 0 ∨ (xk 0) = 1 then some (.inl (some (.inl (xk 0))), s0) else none))))) := rfl
set_option maxRecDepth 100000 in
theorem E5_placesFor (F : Nat) (l0 : Option Nat) (l1 : Option Nat) (l2 : Int32) (s0 : XH) : J5_placesFor (F + 1) l0 l1 l2 s0 = (J5_placesFor_5 F (l0) (l1) (l2) (xk 1) (xk 0) s0) := rfl
set_option maxRecDepth 100000 in
theorem E5_placesFor_5 (F : Nat) (l0 : Option Nat) (l1 : Option Nat) (l2 : Int32) (l3 : Int32) (l4 : Int32) (s0 : XH) : J5_placesFor_5 (F + 1) l0 l1 l2 l3 l4 s0 = (if l4 < (xk 80) then ((xgr s0 l0 5 0).bind fun v1 => (xar s0 v1 l4).bind fun v2 => xci (J5_isPeer F v2 l1 s0) fun v4 s3 => if v4 = 0 then (J5_placesFor_5 F (l0) (l1) (l2) (l3) (l4 + xk 1) s3) else ((xgr s3 l0 5 0).bind fun v5 => (xar s3 v5 l4).bind fun v6 => xgd s3 v6 4 (xcr (J4_over F v6 l2 s3) fun v8 s7 => if v8 = none then (J5_placesFor_5 F (l0) (l1) (l2) (l3 + xk 1) (l4 + xk 1) s7) else (J5_placesFor_5 F (l0) (l1) (l2) (l3) (l4 + xk 1) s7)))) else (some (.inl (some (.inl l3)), s0))) := rfl
set_option maxRecDepth 100000 in
theorem E5_add (F : Nat) (l0 : Option Nat) (l1 : Option Nat) (l2 : Int32) (l3 : Int32) (l4 : Int32) (s0 : XH) : J5_add (F + 1) l0 l1 l2 l3 l4 s0 = ((xgi s0 l0 5 3).bind fun v1 => xgd s0 l0 5 (xci (J5_placesFor F l0 l1 l2 s0) fun v3 s2 => if (xk 80) < (v1 + v3) then (some (.inl (some (.inl (xk (-2)))), s2)) else (xgd s2 l0 5 (xci (J5_newPeer F l0 l4 s2) fun v5 s4 => xgd s4 l0 5 (xci (J5_addOne F l0 l1 l2 l3 v5 s4) fun v7 s6 => J5_add_41 F (l0) (l1) (l2) (l3) (v5) (v7) (xk 0) s6))))) := rfl
set_option maxRecDepth 100000 in
theorem E5_add_41 (F : Nat) (l0 : Option Nat) (l1 : Option Nat) (l2 : Int32) (l3 : Int32) (l5 : Int32) (l6 : Int32) (l7 : Int32) (s0 : XH) : J5_add_41 (F + 1) l0 l1 l2 l3 l5 l6 l7 s0 = (if l7 < (xk 80) then ((xgr s0 l0 5 0).bind fun v1 => (xar s0 v1 l7).bind fun v2 => xci (J5_isPeer F v2 l1 s0) fun v4 s3 => if v4 = 0 then (J5_add_41 F (l0) (l1) (l2) (l3) (l5) (l6) (l7 + xk 1) s3) else ((xgr s3 l0 5 0).bind fun v5 => (xar s3 v5 l7).bind fun v6 => xgd s3 v6 4 (xcr (J4_over F v6 l2 s3) fun v8 s7 => if v8 = none then ((xgr s7 l0 5 0).bind fun v9 => (xar s7 v9 l7).bind fun v10 => xgd s7 l0 5 (xci (J5_addOne F l0 v10 l2 l3 l5 s7) fun v12 s11 => J5_add_41 F (l0) (l1) (l2) (l3) (l5) (l6) (l7 + xk 1) s11)) else (J5_add_41 F (l0) (l1) (l2) (l3) (l5) (l6) (l7 + xk 1) s7)))) else (some (.inl (some (.inl l6)), s0))) := rfl
set_option maxRecDepth 100000 in
theorem E5_removeOne (F : Nat) (l0 : Option Nat) (l1 : Option Nat) (s0 : XH) : J5_removeOne (F + 1) l0 l1 s0 = (xgd s0 l1 4 (xcv (J4_takeOff F l1 s0) fun s1 => (xgi s1 l0 5 3).bind fun v2 => (xpt s1 l0 5 3 (.inl (v2 - (xk 1)))).bind fun s3 => some (.inl none, s3))) := rfl
set_option maxRecDepth 100000 in
theorem E5_remove (F : Nat) (l0 : Option Nat) (l1 : Option Nat) (s0 : XH) : J5_remove (F + 1) l0 l1 s0 = ((xgr s0 l1 4 3).bind fun v1 => if v1 = none then (some (.inl (some (.inl (xk (-1)))), s0)) else ((xgi s0 l1 4 5).bind fun v2 => if 0 < v2 then (some (.inl (some (.inl (xk (-4)))), s0)) else ((xgi s0 l1 4 4).bind fun v3 => xgd s0 l0 5 (xcv (J5_removeOne F l0 l1 s0) fun s4 => J5_remove_37 F (l0) (l1) (v1) (v3) (xk 1) (xk 0) s4)))) := rfl
set_option maxRecDepth 100000 in
theorem E5_remove_37 (F : Nat) (l0 : Option Nat) (l1 : Option Nat) (l2 : Option Nat) (l3 : Int32) (l4 : Int32) (l5 : Int32) (s0 : XH) : J5_remove_37 (F + 1) l0 l1 l2 l3 l4 l5 s0 = (if l5 < (xk 80) then ((xgr s0 l0 5 0).bind fun v1 => (xar s0 v1 l5).bind fun v2 => xci (J5_isPeer F v2 l2 s0) fun v4 s3 => if v4 = 0 then (if (none : Option Nat) = none then (J5_remove_37 F (l0) (l1) (l2) (l3) (l4) (l5 + xk 1) s3) else ((xgi s3 (none : Option Nat) 4 6).bind fun v5 => (xgi s3 l1 4 6).bind fun v6 => if v5 = v6 then ((xgi s3 (none : Option Nat) 4 5).bind fun v7 => if v7 = 0 then (xgd s3 l0 5 (xcv (J5_removeOne F l0 (none : Option Nat) s3) fun s8 => J5_remove_37 F (l0) (l1) (l2) (l3) (l4 + xk 1) (l5 + xk 1) s8)) else (J5_remove_37 F (l0) (l1) (l2) (l3) (l4) (l5 + xk 1) s3)) else (J5_remove_37 F (l0) (l1) (l2) (l3) (l4) (l5 + xk 1) s3))) else ((xgr s3 l0 5 0).bind fun v9 => (xar s3 v9 l5).bind fun v10 => xgd s3 v10 4 (xcr (J4_over F v10 l3 s3) fun v12 s11 => if v12 = none then (J5_remove_37 F (l0) (l1) (l2) (l3) (l4) (l5 + xk 1) s11) else ((xgi s11 v12 4 6).bind fun v13 => (xgi s11 l1 4 6).bind fun v14 => if v13 = v14 then ((xgi s11 v12 4 5).bind fun v15 => if v15 = 0 then (xgd s11 l0 5 (xcv (J5_removeOne F l0 v12 s11) fun s16 => J5_remove_37 F (l0) (l1) (l2) (l3) (l4 + xk 1) (l5 + xk 1) s16)) else (J5_remove_37 F (l0) (l1) (l2) (l3) (l4) (l5 + xk 1) s11)) else (J5_remove_37 F (l0) (l1) (l2) (l3) (l4) (l5 + xk 1) s11))))) else (some (.inl (some (.inl l4)), s0))) := rfl
set_option maxRecDepth 100000 in
theorem E6_highestBit (F : Nat) (l0 : Int32) (s0 : XH) : J6_highestBit (F + 1) l0 s0 = (J6_highestBit_3 F (l0) (xk 30) s0) := rfl
set_option maxRecDepth 100000 in
theorem E6_highestBit_3 (F : Nat) (l0 : Int32) (l1 : Int32) (s0 : XH) : J6_highestBit_3 (F + 1) l0 l1 s0 = (if 0 < l1 then (if (l0 >>> (l1 &&& 31)) = 0 then (J6_highestBit_3 F (l0) (l1 + xk (-1)) s0) else (some (.inl (some (.inl l1)), s0))) else (some (.inl (some (.inl l1)), s0))) := rfl
set_option maxRecDepth 100000 in
theorem E6_enter (F : Nat) (l0 : Option Nat) (l1 : Option Nat) (l2 : Int32) (s0 : XH) : J6_enter (F + 1) l0 l1 l2 s0 = ((xpt s0 l0 6 0 (.inr (.inr (l1)))).bind fun s1 => (xpt s1 l0 6 1 (.inl (l2))).bind fun s2 => xgd s2 l1 4 (xcr (J4_over F l1 l2 s2) fun v4 s3 => J6_enter_16 F (l0) (v4) s3)) := rfl
set_option maxRecDepth 100000 in
theorem E6_enter_16 (F : Nat) (l0 : Option Nat) (l3 : Option Nat) (s0 : XH) : J6_enter_16 (F + 1) l0 l3 s0 = (if l3 = none then (some (.inl none, s0)) else ((xpt s0 l0 6 0 (.inr (.inr (l3)))).bind fun s1 => (xpt s1 l0 6 1 (.inl (xk 0))).bind fun s2 => xgd s2 l3 4 (xcr (J4_over F l3 (xk 0) s2) fun v4 s3 => J6_enter_16 F (l0) (v4) s3))) := rfl
set_option maxRecDepth 100000 in
theorem E6_reach (F : Nat) (l0 : Option Nat) (l1 : Option Nat) (l2 : Int32) (s0 : XH) : J6_reach (F + 1) l0 l1 l2 s0 = (if l2 < (xk 1) then (if (xk 0) = 0 ∨ (xk 0) = 1 then some (.inl (some (.inl (xk 0))), s0) else none) else ((xgr s0 l1 10 1).bind fun v1 => xgd s0 l0 6 (xcv (J6_enter F l0 v1 (xk 0) s0) fun s2 => xci (J6_highestBit F l2 s2) fun v4 s3 => J6_reach_23 F (l0) (l2) (v4 - (xk 1)) s3))) := rfl
set_option maxRecDepth 100000 in
theorem E6_reach_23 (F : Nat) (l0 : Option Nat) (l2 : Int32) (l3 : Int32) (s0 : XH) : J6_reach_23 (F + 1) l0 l2 l3 s0 = (if l3 < 0 then (if (xk 1) = 0 ∨ (xk 1) = 1 then some (.inl (some (.inl (xk 1))), s0) else none) else ((xgi s0 l0 6 1).bind fun v1 => if v1 < (xk 7) then ((xgr s0 l0 6 0).bind fun v2 => (xgi s0 l0 6 1).bind fun v3 => xgd s0 l0 6 (xcv (J6_enter F l0 v2 ((((xk 2) * v3) + (xk 1)) + ((l2 >>> (l3 &&& 31)) &&& (xk 1))) s0) fun s4 => J6_reach_23 F (l0) (l2) (l3 + xk (-1)) s4)) else (if (xk 0) = 0 ∨ (xk 0) = 1 then some (.inl (some (.inl (xk 0))), s0) else none))) := rfl
set_option maxRecDepth 100000 in
theorem E6_code (F : Nat) (l0 : Option Nat) (s0 : XH) : J6_code (F + 1) l0 s0 = ((xgr s0 l0 6 0).bind fun v1 => (xgi s0 v1 4 0).bind fun v2 => (xgr s0 l0 6 0).bind fun v3 => (xgi s0 v3 4 6).bind fun v4 => (xgi s0 l0 6 1).bind fun v5 => some (.inl (some (.inl ((((xk 1000) * v2) + ((xk 20) * v4)) + v5))), s0)) := rfl
set_option maxRecDepth 100000 in
theorem E7_init (F : Nat) (l0 : Option Nat) (l1 : Int32) (l2 : Option Nat) (s0 : XH) : J7_init (F + 1) l0 l1 l2 s0 = (if l0 = none then none else xnwa s0 103 (.inr (.inr none)) (xk 41) fun a1 s2 => (xpt s2 l0 7 3 (.inr (.inr (some a1)))).bind fun s3 => (xpt s3 l0 7 0 (.inl (l1))).bind fun s4 => (xpt s4 l0 7 1 (.inr (.inr (l2)))).bind fun s5 => if l2 = none then ((xpt s5 l0 7 2 (.inl (xk 0))).bind fun s8 => some (.inl none, s8)) else ((xgi s5 l2 7 2).bind fun v6 => (xpt s5 l0 7 2 (.inl (v6 + (xk 1)))).bind fun s7 => some (.inl none, s7))) := rfl
set_option maxRecDepth 100000 in
theorem E7_nextNumber (F : Nat) (l0 : Option Nat) (s0 : XH) : J7_nextNumber (F + 1) l0 s0 = ((xgi s0 l0 7 5).bind fun v1 => J7_nextNumber_7 F (l0) (v1) (xk 0) s0) := rfl
set_option maxRecDepth 100000 in
theorem E7_nextNumber_7 (F : Nat) (l0 : Option Nat) (l1 : Int32) (l2 : Int32) (s0 : XH) : J7_nextNumber_7 (F + 1) l0 l1 l2 s0 = (if l2 < (xk 40) then (if l1 < (xk 40) then ((xgr s0 l0 7 3).bind fun v1 => (xar s0 v1 (l1 + (xk 1))).bind fun v2 => if v2 = none then (some (.inl (some (.inl (l1 + (xk 1)))), s0)) else (J7_nextNumber_7 F (l0) (l1 + (xk 1)) (l2 + xk 1) s0)) else ((xgr s0 l0 7 3).bind fun v3 => (xar s0 v3 (xk 1)).bind fun v4 => if v4 = none then (some (.inl (some (.inl (xk 1))), s0)) else (J7_nextNumber_7 F (l0) (xk 1) (l2 + xk 1) s0))) else (some (.inl (some (.inl (xk 0))), s0))) := rfl
set_option maxRecDepth 100000 in
theorem E7_take (F : Nat) (l0 : Option Nat) (l1 : Option Nat) (s0 : XH) : J7_take (F + 1) l0 l1 s0 = (xgd s0 l0 7 (xci (J7_nextNumber F l0 s0) fun v2 s1 => if v2 = 0 then (some (.inl none, s1)) else ((xgr s1 l0 7 3).bind fun v3 => (xsr s1 v3 v2 l1).bind fun s4 => (xpt s4 l0 7 5 (.inl (v2))).bind fun s5 => (xgr s5 l0 7 4).bind fun v6 => if v6 = none then ((xpt s5 l0 7 4 (.inr (.inr (l1)))).bind fun s7 => some (.inl none, s7)) else (some (.inl none, s5))))) := rfl
set_option maxRecDepth 100000 in
theorem E7_holder (F : Nat) (l0 : Option Nat) (l1 : Int32) (s0 : XH) : J7_holder (F + 1) l0 l1 s0 = (if l1 < (xk 1) then (some (.inl (some (.inr (.inr ((none : Option Nat))))), s0)) else (if (xk 40) < l1 then (some (.inl (some (.inr (.inr ((none : Option Nat))))), s0)) else ((xgr s0 l0 7 3).bind fun v1 => (xar s0 v1 l1).bind fun v2 => some (.inl (some (.inr (.inr (v2)))), s0)))) := rfl
set_option maxRecDepth 100000 in
theorem E7_numberOf (F : Nat) (l0 : Option Nat) (l1 : Option Nat) (s0 : XH) : J7_numberOf (F + 1) l0 l1 s0 = (J7_numberOf_2 F (l0) (l1) (xk 1) s0) := rfl
set_option maxRecDepth 100000 in
theorem E7_numberOf_2 (F : Nat) (l0 : Option Nat) (l1 : Option Nat) (l2 : Int32) (s0 : XH) : J7_numberOf_2 (F + 1) l0 l1 l2 s0 = (if (xk 40) < l2 then (some (.inl (some (.inl (xk 0))), s0)) else ((xgr s0 l0 7 3).bind fun v1 => (xar s0 v1 l2).bind fun v2 => if v2 = l1 then (some (.inl (some (.inl l2)), s0)) else (J7_numberOf_2 F (l0) (l1) (l2 + xk 1) s0))) := rfl
set_option maxRecDepth 100000 in
theorem E8_init (F : Nat) (l0 : Option Nat) (l1 : Int32) (l2 : Option Nat) (l3 : Option Nat) (l4 : Option Nat) (l5 : Option Nat) (s0 : XH) : J8_init (F + 1) l0 l1 l2 l3 l4 l5 s0 = (if l0 = none then none else (xpt s0 l0 8 0 (.inl (l1))).bind fun s1 => (xpt s1 l0 8 3 (.inr (.inr (l2)))).bind fun s2 => (xpt s2 l0 8 1 (.inr (.inr (l3)))).bind fun s3 => (xpt s3 l0 8 4 (.inr (.inr (l4)))).bind fun s4 => (xpt s4 l0 8 2 (.inr (.inr (l5)))).bind fun s5 => some (.inl none, s5)) := rfl
set_option maxRecDepth 100000 in
theorem E8_hold (F : Nat) (l0 : Option Nat) (l1 : Int32) (s0 : XH) : J8_hold (F + 1) l0 l1 s0 = ((xgi s0 l0 8 6).bind fun v1 => (xpt s0 l0 8 6 (.inl (v1 + l1))).bind fun s2 => (xgr s2 l0 8 4).bind fun v3 => xgd s2 v3 1 (xcv (J1_addUse F v3 l1 s2) fun s4 => some (.inl none, s4))) := rfl
set_option maxRecDepth 100000 in
theorem E8_changeGroup (F : Nat) (l0 : Option Nat) (l1 : Option Nat) (s0 : XH) : J8_changeGroup (F + 1) l0 l1 s0 = ((xgr s0 l0 8 4).bind fun v1 => (xgi s0 l0 8 6).bind fun v2 => xgd s0 v1 1 (xcv (J1_addUse F v1 (-v2) s0) fun s3 => (xgr s3 l0 8 4).bind fun v4 => xgd s3 v4 1 (xcv (J1_addLive F v4 (xk (-1)) s3) fun s5 => (xpt s5 l0 8 4 (.inr (.inr (l1)))).bind fun s6 => (xgr s6 l0 8 4).bind fun v7 => (xgi s6 l0 8 6).bind fun v8 => xgd s6 v7 1 (xcv (J1_addUse F v7 v8 s6) fun s9 => (xgr s9 l0 8 4).bind fun v10 => xgd s9 v10 1 (xcv (J1_addLive F v10 (xk 1) s9) fun s11 => some (.inl none, s11)))))) := rfl
set_option maxRecDepth 100000 in
theorem E8_tell (F : Nat) (l0 : Option Nat) (l1 : Int32) (s0 : XH) : J8_tell (F + 1) l0 l1 s0 = (if l1 = nI 0 then ((xgi s0 l0 8 5).bind fun v1 => some (.inl (some (.inl v1)), s0)) else if l1 = nI 1 then ((xgr s0 l0 8 3).bind fun v2 => if v2 = none then (some (.inl (some (.inl (xk (-1)))), s0)) else ((xgr s0 l0 8 3).bind fun v3 => (xgi s0 v3 8 0).bind fun v4 => some (.inl (some (.inl v4)), s0))) else if l1 = nI 2 then ((xgr s0 l0 8 1).bind fun v5 => (xgi s0 v5 7 0).bind fun v6 => some (.inl (some (.inl v6)), s0)) else if l1 = nI 3 then ((xgr s0 l0 8 4).bind fun v7 => (xgi s0 v7 1 0).bind fun v8 => some (.inl (some (.inl v8)), s0)) else if l1 = nI 4 then ((xgr s0 l0 8 2).bind fun v9 => (xgi s0 v9 10 0).bind fun v10 => some (.inl (some (.inl v10)), s0)) else if l1 = nI 5 then ((xgi s0 l0 8 6).bind fun v11 => some (.inl (some (.inl v11)), s0)) else if l1 = nI 6 then ((xgi s0 l0 8 7).bind fun v12 => some (.inl (some (.inl v12)), s0)) else ((xgi s0 l0 8 9).bind fun v13 => if v13 = 0 then (some (.inl (some (.inl (xk 0))), s0)) else (some (.inl (some (.inl (xk 1))), s0)))) := rfl
set_option maxRecDepth 100000 in
theorem E9_init (F : Nat) (l0 : Option Nat) (s0 : XH) : J9_init (F + 1) l0 s0 = (if l0 = none then none else xnwa s0 103 (.inr (.inr none)) (xk 150) fun a1 s2 => (xpt s2 l0 9 0 (.inr (.inr (some a1)))).bind fun s3 => xnwa s3 104 (.inr (.inr none)) (xk 20) fun a4 s5 => (xpt s5 l0 9 1 (.inr (.inr (some a4)))).bind fun s6 => some (.inl none, s6)) := rfl
set_option maxRecDepth 100000 in
theorem E9_everMade (F : Nat) (l0 : Option Nat) (l1 : Int32) (s0 : XH) : J9_everMade (F + 1) l0 l1 s0 = (if l1 < 0 then (some (.inl (some (.inr (.inr ((none : Option Nat))))), s0)) else ((xgi s0 l0 9 2).bind fun v1 => if l1 < v1 then (if l1 < (xk 150) then ((xgr s0 l0 9 0).bind fun v2 => (xar s0 v2 l1).bind fun v3 => some (.inl (some (.inr (.inr (v3)))), s0)) else (some (.inl (some (.inr (.inr ((none : Option Nat))))), s0))) else (some (.inl (some (.inr (.inr ((none : Option Nat))))), s0)))) := rfl
set_option maxRecDepth 100000 in
theorem E9_living (F : Nat) (l0 : Option Nat) (l1 : Int32) (s0 : XH) : J9_living (F + 1) l0 l1 s0 = (xgd s0 l0 9 (xcr (J9_everMade F l0 l1 s0) fun v2 s1 => if v2 = none then (some (.inl (some (.inr (.inr ((none : Option Nat))))), s1)) else ((xgi s1 v2 8 5).bind fun v3 => if v3 = 0 then (some (.inl (some (.inr (.inr (v2)))), s1)) else (some (.inl (some (.inr (.inr ((none : Option Nat))))), s1))))) := rfl
set_option maxRecDepth 100000 in
theorem E9_spaceAt (F : Nat) (l0 : Option Nat) (l1 : Int32) (s0 : XH) : J9_spaceAt (F + 1) l0 l1 s0 = (if l1 < 0 then (some (.inl (some (.inr (.inr ((none : Option Nat))))), s0)) else ((xgi s0 l0 9 3).bind fun v1 => if l1 < v1 then (if l1 < (xk 20) then ((xgr s0 l0 9 1).bind fun v2 => (xar s0 v2 l1).bind fun v3 => some (.inl (some (.inr (.inr (v3)))), s0)) else (some (.inl (some (.inr (.inr ((none : Option Nat))))), s0))) else (some (.inl (some (.inr (.inr ((none : Option Nat))))), s0)))) := rfl
set_option maxRecDepth 100000 in
theorem E9_inState (F : Nat) (l0 : Option Nat) (l1 : Int32) (s0 : XH) : J9_inState (F + 1) l0 l1 s0 = (J9_inState_4 F (l0) (l1) (xk 0) (xk 0) s0) := rfl
set_option maxRecDepth 100000 in
theorem E9_inState_4 (F : Nat) (l0 : Option Nat) (l1 : Int32) (l2 : Int32) (l3 : Int32) (s0 : XH) : J9_inState_4 (F + 1) l0 l1 l2 l3 s0 = ((xgi s0 l0 9 2).bind fun v1 => if l3 < v1 then ((xgr s0 l0 9 0).bind fun v2 => (xar s0 v2 l3).bind fun v3 => (xgi s0 v3 8 5).bind fun v4 => if v4 = l1 then (J9_inState_4 F (l0) (l1) (l2 + xk 1) (l3 + xk 1) s0) else (J9_inState_4 F (l0) (l1) (l2) (l3 + xk 1) s0)) else (some (.inl (some (.inl l2)), s0))) := rfl
set_option maxRecDepth 100000 in
theorem E9_hasRoom (F : Nat) (l0 : Option Nat) (l1 : Option Nat) (l2 : Int32) (s0 : XH) : J9_hasRoom (F + 1) l0 l1 l2 s0 = ((xgi s0 l0 9 2).bind fun v1 => if v1 < (xk 150) then (if l2 = 0 then (J9_hasRoom_37 F (l1) s0) else ((xgi s0 l0 9 3).bind fun v2 => if v2 < (xk 20) then ((xgi s0 l1 7 2).bind fun v3 => if v3 < (xk 4) then (J9_hasRoom_37 F (l1) s0) else (if (xk 0) = 0 ∨ (xk 0) = 1 then some (.inl (some (.inl (xk 0))), s0) else none)) else (if (xk 0) = 0 ∨ (xk 0) = 1 then some (.inl (some (.inl (xk 0))), s0) else none))) else (if (xk 0) = 0 ∨ (xk 0) = 1 then some (.inl (some (.inl (xk 0))), s0) else none)) := rfl
set_option maxRecDepth 100000 in
theorem E9_hasRoom_37 (F : Nat) (l3 : Option Nat) (s0 : XH) : J9_hasRoom_37 (F + 1) l3 s0 = (if l3 = none then (if (xk 1) = 0 ∨ (xk 1) = 1 then some (.inl (some (.inl (xk 1))), s0) else none) else (xgd s0 l3 7 (xci (J7_nextNumber F l3 s0) fun v2 s1 => if v2 = 0 then (if (xk 0) = 0 ∨ (xk 0) = 1 then some (.inl (some (.inl (xk 0))), s1) else none) else ((xgr s1 l3 7 1).bind fun v3 => J9_hasRoom_37 F (v3) s1)))) := rfl
set_option maxRecDepth 100000 in
theorem E9_openSpace (F : Nat) (l0 : Option Nat) (l1 : Option Nat) (s0 : XH) : J9_openSpace (F + 1) l0 l1 s0 = (xnw s0 (7, xdf 7) fun a1 s2 => (xgi s2 l0 9 3).bind fun v3 => xcv (J7_init F (some a1) v3 l1 s2) fun s4 => (xgi s4 l0 9 3).bind fun v5 => if v5 < (xk 20) then ((xgr s4 l0 9 1).bind fun v6 => (xgi s4 l0 9 3).bind fun v7 => (xsr s4 v6 v7 (some a1)).bind fun s8 => (xgi s8 l0 9 3).bind fun v9 => (xpt s8 l0 9 3 (.inl (v9 + (xk 1)))).bind fun s10 => some (.inl (some (.inr (.inr (some a1)))), s10)) else (some (.inl (some (.inr (.inr (some a1)))), s4))) := rfl
set_option maxRecDepth 100000 in
theorem E9_bear (F : Nat) (l0 : Option Nat) (l1 : Option Nat) (l2 : Option Nat) (l3 : Option Nat) (l4 : Option Nat) (s0 : XH) : J9_bear (F + 1) l0 l1 l2 l3 l4 s0 = (xnw s0 (8, xdf 8) fun a1 s2 => (xgi s2 l0 9 2).bind fun v3 => xcv (J8_init F (some a1) v3 l1 l2 l3 l4 s2) fun s4 => (xgi s4 l0 9 2).bind fun v5 => if v5 < (xk 150) then ((xgr s4 l0 9 0).bind fun v6 => (xgi s4 l0 9 2).bind fun v7 => (xsr s4 v6 v7 (some a1)).bind fun s8 => (xgi s8 l0 9 2).bind fun v9 => (xpt s8 l0 9 2 (.inl (v9 + (xk 1)))).bind fun s10 => J9_bear_52 F (l3) (some a1) (l2) s10) else (J9_bear_52 F (l3) (some a1) (l2) s4)) := rfl
set_option maxRecDepth 100000 in
theorem E9_bear_52 (F : Nat) (l3 : Option Nat) (l5 : Option Nat) (l6 : Option Nat) (s0 : XH) : J9_bear_52 (F + 1) l3 l5 l6 s0 = (if l6 = none then (xgd s0 l3 1 (xcv (J1_addLive F l3 (xk 1) s0) fun s1 => some (.inl (some (.inr (.inr (l5)))), s1))) else (xgd s0 l6 7 (xcv (J7_take F l6 l5 s0) fun s2 => (xgr s2 l6 7 1).bind fun v3 => J9_bear_52 F (l3) (l5) (v3) s2))) := rfl
set_option maxRecDepth 100000 in
theorem E9_bury (F : Nat) (l0 : Option Nat) (l1 : Option Nat) (s0 : XH) : J9_bury (F + 1) l0 l1 s0 = (J9_bury_2 F (l1) (xk 1) s0) := rfl
set_option maxRecDepth 100000 in
theorem E9_bury_2 (F : Nat) (l1 : Option Nat) (l2 : Int32) (s0 : XH) : J9_bury_2 (F + 1) l1 l2 s0 = (if (xk 40) < l2 then (some (.inl (some (.inl (xk 0))), s0)) else ((xgr s0 l1 8 1).bind fun v1 => xgd s0 v1 7 (xcr (J7_holder F v1 l2 s0) fun v3 s2 => if v3 = none then (J9_bury_2 F (l1) (l2 + xk 1) s2) else ((xgi s2 v3 8 5).bind fun v4 => if v4 = (xk 1) then ((xgr s2 v3 8 3).bind fun v5 => if v5 = l1 then (xgd s2 v3 8 (xcv (J8_vanish F v3 s2) fun s6 => some (.inl (some (.inl l2)), s6))) else (J9_bury_2 F (l1) (l2 + xk 1) s2)) else (J9_bury_2 F (l1) (l2 + xk 1) s2))))) := rfl
set_option maxRecDepth 100000 in
theorem E11_init (F : Nat) (l0 : Option Nat) (s0 : XH) : J11_init (F + 1) l0 s0 = (if l0 = none then none else xnw s0 (2, xdf 2) fun a1 s2 => xcv (J2_init F (some a1) s2) fun s3 => (xpt s3 l0 11 0 (.inr (.inr (some a1)))).bind fun s4 => xnw s4 (9, xdf 9) fun a5 s6 => xcv (J9_init F (some a5) s6) fun s7 => (xpt s7 l0 11 1 (.inr (.inr (some a5)))).bind fun s8 => xnw s8 (3, xdf 3) fun a9 s10 => (xgr s10 l0 11 1).bind fun v11 => (xgr s10 l0 11 0).bind fun v12 => xcv (J3_init F (some a9) v11 v12 s10) fun s13 => (xpt s13 l0 11 2 (.inr (.inr (some a9)))).bind fun s14 => xnw s14 (0, xdf 0) fun a15 s16 => (xgr s16 l0 11 1).bind fun v17 => (xgr s16 l0 11 0).bind fun v18 => xcv (J0_init F (some a15) v17 v18 s16) fun s19 => (xpt s19 l0 11 3 (.inr (.inr (some a15)))).bind fun s20 => xnw s20 (5, xdf 5) fun a21 s22 => xcv (J5_init F (some a21) s22) fun s23 => (xpt s23 l0 11 4 (.inr (.inr (some a21)))).bind fun s24 => (xgr s24 l0 11 1).bind fun v25 => (xgr s24 l0 11 1).bind fun v26 => xgd s24 v26 9 (xcr (J9_openSpace F v26 (none : Option Nat) s24) fun v28 s27 => (xgr s27 l0 11 0).bind fun v29 => xgd s27 v29 2 (xcr (J2_open F v29 (none : Option Nat) s27) fun v31 s30 => (xgr s30 l0 11 4).bind fun v32 => xgd s30 v32 5 (xcr (J5_openView F v32 s30) fun v34 s33 => xgd s33 v25 9 (xcr (J9_bear F v25 (none : Option Nat) v28 v31 v34 s33) fun v36 s35 => some (.inl none, s35)))))) := rfl
set_option maxRecDepth 100000 in
theorem E11_fork (F : Nat) (l0 : Option Nat) (l1 : Int32) (l2 : Int32) (l3 : Int32) (s0 : XH) : J11_fork (F + 1) l0 l1 l2 l3 s0 = ((xgr s0 l0 11 1).bind fun v1 => xgd s0 v1 9 (xcr (J9_living F v1 l1 s0) fun v3 s2 => if v3 = none then (some (.inl (some (.inl (xk (-1)))), s2)) else ((xgr s2 v3 8 4).bind fun v4 => xgd s2 v4 1 (xci (J1_takesTask F v4 s2) fun v6 s5 => if v6 = 0 then (some (.inl (some (.inl (xk (-3)))), s5)) else ((xgr s5 l0 11 1).bind fun v7 => (xgr s5 v3 8 1).bind fun v8 => xgd s5 v7 9 (xci (J9_hasRoom F v7 v8 l2 s5) fun v10 s9 => if v10 = 0 then (some (.inl (some (.inl (xk (-2)))), s9)) else (if l3 = 0 then (J11_fork_69 F (l0) (l2) (l3) (v3) s9) else ((xgr s9 l0 11 4).bind fun v11 => (xgr s9 v3 8 2).bind fun v12 => xgd s9 v11 5 (xci (J5_canCopy F v11 v12 s9) fun v14 s13 => if v14 = 0 then (some (.inl (some (.inl (xk (-2)))), s13)) else (J11_fork_69 F (l0) (l2) (l3) (v3) s13)))))))))) := rfl
set_option maxRecDepth 100000 in
theorem E11_fork_69 (F : Nat) (l0 : Option Nat) (l2 : Int32) (l3 : Int32) (l4 : Option Nat) (s0 : XH) : J11_fork_69 (F + 1) l0 l2 l3 l4 s0 = (if l2 = 0 then ((xgr s0 l4 8 1).bind fun v1 => if l3 = 0 then ((xgr s0 l4 8 2).bind fun v2 => (xgr s0 l0 11 1).bind fun v3 => (xgr s0 l4 8 4).bind fun v4 => xgd s0 v3 9 (xcr (J9_bear F v3 l4 v1 v4 v2 s0) fun v6 s5 => (xgr s5 l0 11 3).bind fun v7 => xgd s5 v7 0 (xcv (J0_admit F v7 v6 (xk 0) s5) fun s8 => (xgi s8 v6 8 0).bind fun v9 => some (.inl (some (.inl v9)), s8)))) else ((xgr s0 l0 11 4).bind fun v10 => (xgr s0 l4 8 2).bind fun v11 => xgd s0 v10 5 (xcr (J5_copyView F v10 v11 s0) fun v13 s12 => (xgr s12 l0 11 1).bind fun v14 => (xgr s12 l4 8 4).bind fun v15 => xgd s12 v14 9 (xcr (J9_bear F v14 l4 v1 v15 v13 s12) fun v17 s16 => (xgr s16 l0 11 3).bind fun v18 => xgd s16 v18 0 (xcv (J0_admit F v18 v17 (xk 0) s16) fun s19 => (xgi s19 v17 8 0).bind fun v20 => some (.inl (some (.inl v20)), s19)))))) else ((xgr s0 l0 11 1).bind fun v21 => (xgr s0 l4 8 1).bind fun v22 => xgd s0 v21 9 (xcr (J9_openSpace F v21 v22 s0) fun v24 s23 => if l3 = 0 then ((xgr s23 l4 8 2).bind fun v25 => (xgr s23 l0 11 1).bind fun v26 => (xgr s23 l4 8 4).bind fun v27 => xgd s23 v26 9 (xcr (J9_bear F v26 l4 v24 v27 v25 s23) fun v29 s28 => (xgr s28 l0 11 3).bind fun v30 => xgd s28 v30 0 (xcv (J0_admit F v30 v29 (xk 0) s28) fun s31 => (xgi s31 v29 8 0).bind fun v32 => some (.inl (some (.inl v32)), s31)))) else ((xgr s23 l0 11 4).bind fun v33 => (xgr s23 l4 8 2).bind fun v34 => xgd s23 v33 5 (xcr (J5_copyView F v33 v34 s23) fun v36 s35 => (xgr s35 l0 11 1).bind fun v37 => (xgr s35 l4 8 4).bind fun v38 => xgd s35 v37 9 (xcr (J9_bear F v37 l4 v24 v38 v36 s35) fun v40 s39 => (xgr s39 l0 11 3).bind fun v41 => xgd s39 v41 0 (xcv (J0_admit F v41 v40 (xk 0) s39) fun s42 => (xgi s42 v40 8 0).bind fun v43 => some (.inl (some (.inl v43)), s42)))))))) := rfl
set_option maxRecDepth 100000 in
theorem E11_exit (F : Nat) (l0 : Option Nat) (l1 : Int32) (s0 : XH) : J11_exit (F + 1) l0 l1 s0 = ((xgr s0 l0 11 1).bind fun v1 => xgd s0 v1 9 (xcr (J9_living F v1 l1 s0) fun v3 s2 => if v3 = none then (some (.inl (some (.inl (xk (-1)))), s2)) else ((xgi s2 v3 8 0).bind fun v4 => if v4 = 0 then (some (.inl (some (.inl (xk (-1)))), s2)) else ((xgr s2 l0 11 1).bind fun v5 => xgd s2 v5 9 (xci (J9_end F v5 v3 s2) fun v7 s6 => some (.inl (some (.inl v7)), s6)))))) := rfl
set_option maxRecDepth 100000 in
theorem E11_reap (F : Nat) (l0 : Option Nat) (l1 : Int32) (s0 : XH) : J11_reap (F + 1) l0 l1 s0 = ((xgr s0 l0 11 1).bind fun v1 => xgd s0 v1 9 (xcr (J9_living F v1 l1 s0) fun v3 s2 => if v3 = none then (some (.inl (some (.inl (xk (-1)))), s2)) else ((xgr s2 l0 11 1).bind fun v4 => xgd s2 v4 9 (xci (J9_bury F v4 v3 s2) fun v6 s5 => some (.inl (some (.inl v6)), s5))))) := rfl
end
section
set_option maxRecDepth 100000 in
theorem E11_kill (F : Nat) (l0 : Option Nat) (l1 : Int32) (l2 : Int32) (s0 : XH) : J11_kill (F + 1) l0 l1 l2 s0 = ((xgr s0 l0 11 1).bind fun v1 => xgd s0 v1 9 (xcr (J9_living F v1 l1 s0) fun v3 s2 => if v3 = none then (if (none : Option Nat) = none then (some (.inl (some (.inl (xk (-1)))), s2)) else ((xgr s2 v3 8 1).bind fun v14 => (xgr s2 v14 7 4).bind fun v15 => if (none : Option Nat) = v15 then (J11_kill_54 F (l0) ((none : Option Nat)) s2) else ((xgi s2 (none : Option Nat) 8 0).bind fun v16 => if v16 = 0 then (J11_kill_54 F (l0) ((none : Option Nat)) s2) else (if (xk 0) = 0 then ((xgi s2 (none : Option Nat) 8 5).bind fun v17 => if v17 = 0 then ((xgr s2 l0 11 1).bind fun v18 => xgd s2 v18 9 (xci (J9_end F v18 (none : Option Nat) s2) fun v20 s19 => some (.inl (some (.inl v20)), s19))) else (some (.inl (some (.inl (xk 0))), s2))) else (some (.inl (some (.inl (xk 0))), s2)))))) else ((xgr s2 v3 8 1).bind fun v4 => xgd s2 v4 7 (xcr (J7_holder F v4 l2 s2) fun v6 s5 => if v6 = none then (some (.inl (some (.inl (xk (-1)))), s5)) else ((xgr s5 v3 8 1).bind fun v7 => (xgr s5 v7 7 4).bind fun v8 => if v6 = v8 then (J11_kill_54 F (l0) (v6) s5) else ((xgi s5 v6 8 0).bind fun v9 => if v9 = 0 then (J11_kill_54 F (l0) (v6) s5) else (if (xk 0) = 0 then ((xgi s5 v6 8 5).bind fun v10 => if v10 = 0 then ((xgr s5 l0 11 1).bind fun v11 => xgd s5 v11 9 (xci (J9_end F v11 v6 s5) fun v13 s12 => some (.inl (some (.inl v13)), s12))) else (some (.inl (some (.inl (xk 0))), s5))) else (some (.inl (some (.inl (xk 0))), s5))))))))) := rfl
set_option maxRecDepth 100000 in
theorem E11_kill_54 (F : Nat) (l0 : Option Nat) (l4 : Option Nat) (s0 : XH) : J11_kill_54 (F + 1) l0 l4 s0 = (if (xk 1) = 0 then ((xgi s0 l4 8 5).bind fun v1 => if v1 = 0 then ((xgr s0 l0 11 1).bind fun v2 => xgd s0 v2 9 (xci (J9_end F v2 l4 s0) fun v4 s3 => some (.inl (some (.inl v4)), s3))) else (some (.inl (some (.inl (xk 0))), s0))) else (some (.inl (some (.inl (xk 0))), s0))) := rfl
set_option maxRecDepth 100000 in
theorem E11_number (F : Nat) (l0 : Option Nat) (l1 : Int32) (l2 : Int32) (s0 : XH) : J11_number (F + 1) l0 l1 l2 s0 = ((xgr s0 l0 11 1).bind fun v1 => xgd s0 v1 9 (xcr (J9_spaceAt F v1 l2 s0) fun v3 s2 => if v3 = none then (xthr s2 50) else ((xgr s2 l0 11 1).bind fun v4 => xgd s2 v4 9 (xcr (J9_everMade F v4 l1 s2) fun v6 s5 => if v6 = none then (some (.inl (some (.inl (xk (-1)))), s5)) else (xgd s5 v3 7 (xci (J7_numberOf F v3 v6 s5) fun v8 s7 => some (.inl (some (.inl v8)), s7))))))) := rfl
set_option maxRecDepth 100000 in
theorem E11_find (F : Nat) (l0 : Option Nat) (l1 : Int32) (l2 : Int32) (s0 : XH) : J11_find (F + 1) l0 l1 l2 s0 = ((xgr s0 l0 11 1).bind fun v1 => xgd s0 v1 9 (xcr (J9_spaceAt F v1 l1 s0) fun v3 s2 => if v3 = none then (xthr s2 50) else (xgd s2 v3 7 (xcr (J7_holder F v3 l2 s2) fun v5 s4 => if v5 = none then (some (.inl (some (.inl (xk (-1)))), s4)) else ((xgi s4 v5 8 0).bind fun v6 => some (.inl (some (.inl v6)), s4)))))) := rfl
set_option maxRecDepth 100000 in
theorem E11_task (F : Nat) (l0 : Option Nat) (l1 : Int32) (l2 : Int32) (s0 : XH) : J11_task (F + 1) l0 l1 l2 s0 = (if l2 < 0 then (xthr s0 50) else (if (xk 7) < l2 then (xthr s0 50) else ((xgr s0 l0 11 1).bind fun v1 => xgd s0 v1 9 (xcr (J9_everMade F v1 l1 s0) fun v3 s2 => if v3 = none then (some (.inl (some (.inl (xk (-1)))), s2)) else (xgd s2 v3 8 (xci (J8_tell F v3 l2 s2) fun v5 s4 => some (.inl (some (.inl v5)), s4))))))) := rfl
set_option maxRecDepth 100000 in
theorem E11_count (F : Nat) (l0 : Option Nat) (l1 : Int32) (s0 : XH) : J11_count (F + 1) l0 l1 s0 = (if l1 = nI 0 then ((xgr s0 l0 11 1).bind fun v1 => (xgi s0 v1 9 2).bind fun v2 => some (.inl (some (.inl v2)), s0)) else if l1 = nI 1 then ((xgr s0 l0 11 1).bind fun v3 => xgd s0 v3 9 (xci (J9_inState F v3 (xk 0) s0) fun v5 s4 => some (.inl (some (.inl v5)), s4))) else if l1 = nI 2 then ((xgr s0 l0 11 1).bind fun v6 => xgd s0 v6 9 (xci (J9_inState F v6 (xk 1) s0) fun v8 s7 => some (.inl (some (.inl v8)), s7))) else if l1 = nI 3 then ((xgr s0 l0 11 1).bind fun v9 => (xgi s0 v9 9 3).bind fun v10 => some (.inl (some (.inl v10)), s0)) else if l1 = nI 4 then ((xgr s0 l0 11 0).bind fun v11 => (xgi s0 v11 2 1).bind fun v12 => some (.inl (some (.inl v12)), s0)) else if l1 = nI 5 then ((xgr s0 l0 11 4).bind fun v13 => (xgi s0 v13 5 4).bind fun v14 => some (.inl (some (.inl v14)), s0)) else if l1 = nI 6 then ((xgr s0 l0 11 4).bind fun v15 => (xgi s0 v15 5 3).bind fun v16 => some (.inl (some (.inl v16)), s0)) else if l1 = nI 7 then ((xgr s0 l0 11 3).bind fun v17 => (xgi s0 v17 0 2).bind fun v18 => some (.inl (some (.inl v18)), s0)) else if l1 = nI 8 then ((xgr s0 l0 11 2).bind fun v19 => (xgi s0 v19 3 2).bind fun v20 => some (.inl (some (.inl v20)), s0)) else (xthr s0 50)) := rfl
set_option maxRecDepth 100000 in
theorem E11_group (F : Nat) (l0 : Option Nat) (l1 : Int32) (s0 : XH) : J11_group (F + 1) l0 l1 s0 = ((xgr s0 l0 11 0).bind fun v1 => xgd s0 v1 2 (xcr (J2_madeAt F v1 l1 s0) fun v3 s2 => if v3 = none then (some (.inl (some (.inl (xk (-1)))), s2)) else ((xgr s2 l0 11 0).bind fun v4 => xgd s2 v4 2 (xci (J2_hasRoom F v4 v3 s2) fun v6 s5 => if v6 = 0 then (some (.inl (some (.inl (xk (-2)))), s5)) else ((xgr s5 l0 11 0).bind fun v7 => xgd s5 v7 2 (xcr (J2_open F v7 v3 s5) fun v9 s8 => (xgr s8 l0 11 3).bind fun v10 => xgd s8 v10 0 (xcv (J0_admitGroup F v10 v9 s8) fun s11 => (xgi s11 v9 1 0).bind fun v12 => some (.inl (some (.inl v12)), s11)))))))) := rfl
set_option maxRecDepth 100000 in
theorem E11_set (F : Nat) (l0 : Option Nat) (l1 : Int32) (l2 : Int32) (l3 : Int32) (s0 : XH) : J11_set (F + 1) l0 l1 l2 l3 s0 = (if l2 < 0 then (xthr s0 50) else (if (xk 3) < l2 then (xthr s0 50) else ((xai s0 (some (xgs s0 0)) l2).bind fun v1 => if l3 < v1 then (xthr s0 51) else ((xai s0 (some (xgs s0 1)) l2).bind fun v2 => if v2 < l3 then (xthr s0 51) else ((xgr s0 l0 11 0).bind fun v3 => xgd s0 v3 2 (xcr (J2_madeAt F v3 l1 s0) fun v5 s4 => if v5 = none then (some (.inl (some (.inl (xk (-1)))), s4)) else (xgd s4 v5 1 (xci (J1_holdsMoreThan F v5 l2 l3 s4) fun v7 s6 => if v7 = 0 then (xgd s6 v5 1 (xci (J1_change F v5 l2 l3 s6) fun v9 s8 => some (.inl (some (.inl v9)), s8))) else (some (.inl (some (.inl (xk (-3)))), s6)))))))))) := rfl
set_option maxRecDepth 100000 in
theorem E11_told (F : Nat) (l0 : Option Nat) (l1 : Int32) (l2 : Int32) (s0 : XH) : J11_told (F + 1) l0 l1 l2 s0 = (if l2 < 0 then (xthr s0 50) else (if (xk 8) < l2 then (xthr s0 50) else ((xgr s0 l0 11 0).bind fun v1 => xgd s0 v1 2 (xcr (J2_madeAt F v1 l1 s0) fun v3 s2 => if v3 = none then (some (.inl (some (.inl (xk (-1)))), s2)) else (xgd s2 v3 1 (xci (J1_tell F v3 l2 s2) fun v5 s4 => some (.inl (some (.inl v5)), s4))))))) := rfl
set_option maxRecDepth 100000 in
theorem E11_charge (F : Nat) (l0 : Option Nat) (l1 : Int32) (l2 : Int32) (s0 : XH) : J11_charge (F + 1) l0 l1 l2 s0 = (if l2 < 0 then (xthr s0 51) else (if (1000000 : Int32) < l2 then (xthr s0 51) else ((xgr s0 l0 11 1).bind fun v1 => xgd s0 v1 9 (xcr (J9_living F v1 l1 s0) fun v3 s2 => if v3 = none then (some (.inl (some (.inl (xk (-1)))), s2)) else ((xgr s2 l0 11 2).bind fun v4 => xgd s2 v4 3 (xci (J3_makeRoom F v4 v3 l2 s2) fun v6 s5 => if v6 < 0 then (some (.inl (some (.inl v6)), s5)) else (xgd s5 v3 8 (xcv (J8_hold F v3 l2 s5) fun s7 => (xgi s7 v3 8 6).bind fun v8 => some (.inl (some (.inl v8)), s7))))))))) := rfl
set_option maxRecDepth 100000 in
theorem E11_release (F : Nat) (l0 : Option Nat) (l1 : Int32) (l2 : Int32) (s0 : XH) : J11_release (F + 1) l0 l1 l2 s0 = (if l2 < 0 then (xthr s0 51) else ((xgr s0 l0 11 1).bind fun v1 => xgd s0 v1 9 (xcr (J9_living F v1 l1 s0) fun v3 s2 => if v3 = none then (some (.inl (some (.inl (xk (-1)))), s2)) else ((xgi s2 v3 8 6).bind fun v4 => if v4 < l2 then (some (.inl (some (.inl (xk (-3)))), s2)) else (xgd s2 v3 8 (xcv (J8_hold F v3 (-l2) s2) fun s5 => (xgi s5 v3 8 6).bind fun v6 => some (.inl (some (.inl v6)), s5))))))) := rfl
set_option maxRecDepth 100000 in
theorem E11_cache (F : Nat) (l0 : Option Nat) (l1 : Int32) (l2 : Int32) (s0 : XH) : J11_cache (F + 1) l0 l1 l2 s0 = (if l2 < 0 then (xthr s0 51) else (if (1000000 : Int32) < l2 then (xthr s0 51) else ((xgr s0 l0 11 1).bind fun v1 => xgd s0 v1 9 (xcr (J9_living F v1 l1 s0) fun v3 s2 => if v3 = none then (some (.inl (some (.inl (xk (-1)))), s2)) else ((xgr s2 l0 11 2).bind fun v4 => xgd s2 v4 3 (xci (J3_makeRoom F v4 v3 l2 s2) fun v6 s5 => if v6 < 0 then (some (.inl (some (.inl v6)), s5)) else ((xgr s5 v3 8 4).bind fun v7 => xgd s5 v7 1 (xcv (J1_keepCached F v7 l2 s5) fun s8 => (xgr s8 v3 8 4).bind fun v9 => (xgi s8 v9 1 9).bind fun v10 => some (.inl (some (.inl v10)), s8))))))))) := rfl
set_option maxRecDepth 100000 in
theorem E11_move (F : Nat) (l0 : Option Nat) (l1 : Int32) (l2 : Int32) (s0 : XH) : J11_move (F + 1) l0 l1 l2 s0 = ((xgr s0 l0 11 1).bind fun v1 => xgd s0 v1 9 (xcr (J9_living F v1 l1 s0) fun v3 s2 => (xgr s2 l0 11 0).bind fun v4 => xgd s2 v4 2 (xcr (J2_madeAt F v4 l2 s2) fun v6 s5 => if v3 = none then (some (.inl (some (.inl (xk (-1)))), s5)) else (if v6 = none then (some (.inl (some (.inl (xk (-1)))), s5)) else ((xgr s5 v3 8 4).bind fun v7 => if v7 = v6 then (some (.inl (some (.inl (xk 0))), s5)) else (xgd s5 v6 1 (xci (J1_takesFrom F v6 v3 s5) fun v9 s8 => if v9 = 0 then (some (.inl (some (.inl (xk (-3)))), s8)) else (xgd s8 v3 8 (xcv (J8_changeGroup F v3 v6 s8) fun s10 => (xgr s10 l0 11 3).bind fun v11 => xgd s10 v11 0 (xcv (J0_admit F v11 v3 (xk 1) s10) fun s12 => some (.inl (some (.inl (xk 1))), s12))))))))))) := rfl
set_option maxRecDepth 100000 in
theorem E11_badness (F : Nat) (l0 : Option Nat) (l1 : Int32) (l2 : Int32) (s0 : XH) : J11_badness (F + 1) l0 l1 l2 s0 = (if l2 < (xk (-10)) then (xthr s0 51) else (if (xk 10) < l2 then (xthr s0 51) else ((xgr s0 l0 11 1).bind fun v1 => xgd s0 v1 9 (xcr (J9_living F v1 l1 s0) fun v3 s2 => if v3 = none then (some (.inl (some (.inl (xk (-1)))), s2)) else ((xpt s2 v3 8 7 (.inl (l2))).bind fun s4 => some (.inl (some (.inl (xk 1))), s4)))))) := rfl
set_option maxRecDepth 100000 in
theorem E11_ticks (F : Nat) (l0 : Option Nat) (l1 : Int32) (s0 : XH) : J11_ticks (F + 1) l0 l1 s0 = (if l1 < 0 then (xthr s0 51) else (if (xk 200) < l1 then (xthr s0 51) else (J11_ticks_25 F (l0) (l1) ((none : Option Nat)) (xk 0) s0))) := rfl
set_option maxRecDepth 100000 in
theorem E11_ticks_25 (F : Nat) (l0 : Option Nat) (l1 : Int32) (l2 : Option Nat) (l3 : Int32) (s0 : XH) : J11_ticks_25 (F + 1) l0 l1 l2 l3 s0 = (if l3 < l1 then ((xgr s0 l0 11 3).bind fun v1 => xgd s0 v1 0 (xcr (J0_tick F v1 s0) fun v3 s2 => J11_ticks_25 F (l0) (l1) (v3) (l3 + xk 1) s2)) else (if l2 = none then (some (.inl (some (.inl (xk (-1)))), s0)) else ((xgi s0 l2 8 0).bind fun v4 => some (.inl (some (.inl v4)), s0)))) := rfl
set_option maxRecDepth 100000 in
theorem E11_sleep (F : Nat) (l0 : Option Nat) (l1 : Int32) (l2 : Int32) (s0 : XH) : J11_sleep (F + 1) l0 l1 l2 s0 = ((xgr s0 l0 11 1).bind fun v1 => xgd s0 v1 9 (xcr (J9_living F v1 l1 s0) fun v3 s2 => if v3 = none then (some (.inl (some (.inl (xk (-1)))), s2)) else ((xgi s2 v3 8 9).bind fun v4 => if v4 = l2 then (some (.inl (some (.inl (xk 0))), s2)) else ((xpz s2 v3 8 9 l2).bind fun s5 => if l2 = 0 then ((xgr s5 l0 11 3).bind fun v6 => xgd s5 v6 0 (xcv (J0_admit F v6 v3 (xk 0) s5) fun s7 => some (.inl (some (.inl (xk 1))), s7))) else (some (.inl (some (.inl (xk 1))), s5)))))) := rfl
set_option maxRecDepth 100000 in
theorem E11_ran (F : Nat) (l0 : Option Nat) (l1 : Int32) (s0 : XH) : J11_ran (F + 1) l0 l1 s0 = ((xgr s0 l0 11 1).bind fun v1 => xgd s0 v1 9 (xcr (J9_everMade F v1 l1 s0) fun v3 s2 => if v3 = none then (some (.inl (some (.inl (xk (-1)))), s2)) else ((xgi s2 v3 8 8).bind fun v4 => some (.inl (some (.inl v4)), s2)))) := rfl
set_option maxRecDepth 100000 in
theorem E11_time (F : Nat) (l0 : Option Nat) (l1 : Int32) (l2 : Int32) (s0 : XH) : J11_time (F + 1) l0 l1 l2 s0 = (if l1 = 0 then ((xgr s0 l0 11 1).bind fun v1 => xgd s0 v1 9 (xcr (J9_everMade F v1 l2 s0) fun v3 s2 => if v3 = none then (some (.inl (some (.inr (.inl ((-1 : Int64))))), s2)) else ((xgl s2 v3 8 10).bind fun v4 => some (.inl (some (.inr (.inl (v4)))), s2)))) else ((xgr s0 l0 11 0).bind fun v5 => xgd s0 v5 2 (xcr (J2_madeAt F v5 l2 s0) fun v7 s6 => if v7 = none then (some (.inl (some (.inr (.inl ((-1 : Int64))))), s6)) else ((xgl s6 v7 1 11).bind fun v8 => some (.inl (some (.inr (.inl (v8)))), s6))))) := rfl
set_option maxRecDepth 100000 in
theorem E11_mount (F : Nat) (l0 : Option Nat) (l1 : Int32) (l2 : Int32) (l3 : Int32) (l4 : Int32) (s0 : XH) : J11_mount (F + 1) l0 l1 l2 l3 l4 s0 = (if l3 < 0 then (xthr s0 51) else (if l3 < (xk 10) then ((xgr s0 l0 11 1).bind fun v1 => xgd s0 v1 9 (xcr (J9_living F v1 l1 s0) fun v3 s2 => (xgr s2 l0 11 4).bind fun v4 => (xgr s2 v4 5 2).bind fun v5 => if v3 = none then (some (.inl (some (.inl (xk (-1)))), s2)) else ((xgr s2 v3 8 2).bind fun v6 => xgd s2 v5 6 (xci (J6_reach F v5 v6 l2 s2) fun v8 s7 => if v8 = 0 then (some (.inl (some (.inl (xk (-1)))), s7)) else ((xgr s7 l0 11 4).bind fun v9 => (xgr s7 v5 6 0).bind fun v10 => (xgi s7 v5 6 1).bind fun v11 => xgd s7 v9 5 (xci (J5_add F v9 v10 v11 l3 l4 s7) fun v13 s12 => some (.inl (some (.inl v13)), s12))))))) else (xthr s0 51))) := rfl
set_option maxRecDepth 100000 in
theorem E11_unmount (F : Nat) (l0 : Option Nat) (l1 : Int32) (l2 : Int32) (s0 : XH) : J11_unmount (F + 1) l0 l1 l2 s0 = ((xgr s0 l0 11 1).bind fun v1 => xgd s0 v1 9 (xcr (J9_living F v1 l1 s0) fun v3 s2 => (xgr s2 l0 11 4).bind fun v4 => (xgr s2 v4 5 2).bind fun v5 => if v3 = none then (some (.inl (some (.inl (xk (-1)))), s2)) else ((xgr s2 v3 8 2).bind fun v6 => xgd s2 v5 6 (xci (J6_reach F v5 v6 l2 s2) fun v8 s7 => if v8 = 0 then (some (.inl (some (.inl (xk (-1)))), s7)) else ((xgi s7 v5 6 1).bind fun v9 => if v9 = 0 then ((xgr s7 l0 11 4).bind fun v10 => (xgr s7 v5 6 0).bind fun v11 => xgd s7 v10 5 (xci (J5_remove F v10 v11 s7) fun v13 s12 => some (.inl (some (.inl v13)), s12))) else (some (.inl (some (.inl (xk (-1)))), s7))))))) := rfl
set_option maxRecDepth 100000 in
theorem E11_at (F : Nat) (l0 : Option Nat) (l1 : Int32) (l2 : Int32) (s0 : XH) : J11_at (F + 1) l0 l1 l2 s0 = ((xgr s0 l0 11 1).bind fun v1 => xgd s0 v1 9 (xcr (J9_living F v1 l1 s0) fun v3 s2 => (xgr s2 l0 11 4).bind fun v4 => (xgr s2 v4 5 2).bind fun v5 => if v3 = none then (some (.inl (some (.inl (xk (-1)))), s2)) else ((xgr s2 v3 8 2).bind fun v6 => xgd s2 v5 6 (xci (J6_reach F v5 v6 l2 s2) fun v8 s7 => if v8 = 0 then (some (.inl (some (.inl (xk (-1)))), s7)) else (xgd s7 v5 6 (xci (J6_code F v5 s7) fun v10 s9 => some (.inl (some (.inl v10)), s9))))))) := rfl
set_option maxRecDepth 100000 in
theorem E11_share (F : Nat) (l0 : Option Nat) (l1 : Int32) (l2 : Int32) (s0 : XH) : J11_share (F + 1) l0 l1 l2 s0 = ((xgr s0 l0 11 4).bind fun v1 => xgd s0 v1 5 (xcr (J5_viewAt F v1 l1 s0) fun v3 s2 => if v3 = none then (xthr s2 50) else ((xgr s2 l0 11 4).bind fun v4 => (xgr s2 v3 10 1).bind fun v5 => xgd s2 v4 5 (xci (J5_changePeer F v4 v5 l2 s2) fun v7 s6 => some (.inl (some (.inl v7)), s6))))) := rfl
set_option maxRecDepth 100000 in
theorem E11_mounted (F : Nat) (l0 : Option Nat) (l1 : Int32) (l2 : Int32) (s0 : XH) : J11_mounted (F + 1) l0 l1 l2 s0 = (if l2 < 0 then (xthr s0 50) else (if (xk 4) < l2 then (xthr s0 50) else ((xgr s0 l0 11 4).bind fun v1 => xgd s0 v1 5 (xcr (J5_mountAt F v1 l1 s0) fun v3 s2 => if v3 = none then (some (.inl (some (.inl (xk (-1)))), s2)) else (xgd s2 v3 4 (xci (J4_tell F v3 l2 s2) fun v5 s4 => some (.inl (some (.inl v5)), s4))))))) := rfl
set_option maxRecDepth 100000 in
theorem E12_newGroup (F : Nat) (l0 : Option Nat) (l1 : Int32) (s0 : XH) : J12_newGroup (F + 1) l0 l1 s0 = ((xgi s0 l0 12 17).bind fun v1 => (xpt s0 l0 12 17 (.inl (v1 + (xk 1)))).bind fun s2 => (xgr s2 l0 12 18).bind fun v3 => (xsi s2 v3 v1 l1).bind fun s4 => (xgr s4 l0 12 20).bind fun v5 => (xsi s4 v5 v1 (1000000 : Int32)).bind fun s6 => (xgr s6 l0 12 19).bind fun v7 => (xsi s6 v7 v1 (xk 150)).bind fun s8 => (xgr s8 l0 12 21).bind fun v9 => (xsi s8 v9 v1 (xk 100)).bind fun s10 => (xgr s10 l0 12 25).bind fun v11 => (xsl s10 v11 v1 (lN 0)).bind fun s12 => some (.inl (some (.inl v1)), s12)) := rfl
set_option maxRecDepth 100000 in
theorem E12_make (F : Nat) (l0 : Option Nat) (l1 : Int32) (l2 : Int32) (l3 : Int32) (l4 : Int32) (l5 : Int32) (s0 : XH) : J12_make (F + 1) l0 l1 l2 l3 l4 l5 s0 = (J12_make_3 F (l0) (l1) (l2) (l3) (l4) (l5) (xk 0) s0) := rfl
set_option maxRecDepth 100000 in
theorem E12_make_3 (F : Nat) (l0 : Option Nat) (l1 : Int32) (l2 : Int32) (l3 : Int32) (l4 : Int32) (l5 : Int32) (l6 : Int32) (s0 : XH) : J12_make_3 (F + 1) l0 l1 l2 l3 l4 l5 l6 s0 = ((xgr s0 l0 12 30).bind fun v1 => (xaz s0 v1 l6).bind fun v2 => if v2 = 0 then ((xgr s0 l0 12 30).bind fun v3 => (xsz s0 v3 l6 (xk 1)).bind fun s4 => (xgr s4 l0 12 31).bind fun v5 => (xsi s4 v5 l6 l1).bind fun s6 => (xgr s6 l0 12 32).bind fun v7 => (xsi s6 v7 l6 l2).bind fun s8 => (xgr s8 l0 12 33).bind fun v9 => (xsi s8 v9 l6 l3).bind fun s10 => (xgr s10 l0 12 34).bind fun v11 => (xsi s10 v11 l6 l4).bind fun s12 => (xgr s12 l0 12 35).bind fun v13 => (xsi s12 v13 l6 l5).bind fun s14 => if l2 = (xk (-1)) then ((xgr s14 l0 12 29).bind fun v15 => (xsi s14 v15 l1 l6).bind fun s16 => some (.inl (some (.inl l6)), s16)) else (some (.inl (some (.inl l6)), s14))) else (J12_make_3 F (l0) (l1) (l2) (l3) (l4) (l5) (l6 + xk 1) s0)) := rfl
set_option maxRecDepth 100000 in
theorem E12_init (F : Nat) (l0 : Option Nat) (s0 : XH) : J12_init (F + 1) l0 s0 = (if l0 = none then none else xnwa s0 100 (.inl 0) (xk 150) fun a1 s2 => (xpt s2 l0 12 2 (.inr (.inr (some a1)))).bind fun s3 => xnwa s3 100 (.inl 0) (xk 150) fun a4 s5 => (xpt s5 l0 12 3 (.inr (.inr (some a4)))).bind fun s6 => xnwa s6 100 (.inl 0) (xk 150) fun a7 s8 => (xpt s8 l0 12 4 (.inr (.inr (some a7)))).bind fun s9 => xnwa s9 100 (.inl 0) (xk 150) fun a10 s11 => (xpt s11 l0 12 5 (.inr (.inr (some a10)))).bind fun s12 => xnwa s12 100 (.inl 0) (xk 150) fun a13 s14 => (xpt s14 l0 12 6 (.inr (.inr (some a13)))).bind fun s15 => xnwa s15 100 (.inl 0) (xk 150) fun a16 s17 => (xpt s17 l0 12 7 (.inr (.inr (some a16)))).bind fun s18 => xnwa s18 100 (.inl 0) (xk 150) fun a19 s20 => (xpt s20 l0 12 8 (.inr (.inr (some a19)))).bind fun s21 => xnwa s21 102 (.inl 0) (xk 150) fun a22 s23 => (xpt s23 l0 12 9 (.inr (.inr (some a22)))).bind fun s24 => xnwa s24 101 (.inr (.inl 0)) (xk 150) fun a25 s26 => (xpt s26 l0 12 10 (.inr (.inr (some a25)))).bind fun s27 => xnwa s27 100 (.inl 0) (xk 150) fun a28 s29 => (xpt s29 l0 12 11 (.inr (.inr (some a28)))).bind fun s30 => xnwa s30 100 (.inl 0) (xk 3000) fun a31 s32 => (xpt s32 l0 12 12 (.inr (.inr (some a31)))).bind fun s33 => xnwa s33 100 (.inl 0) (xk 20) fun a34 s35 => (xpt s35 l0 12 14 (.inr (.inr (some a34)))).bind fun s36 => xnwa s36 100 (.inl 0) (xk 20) fun a37 s38 => (xpt s38 l0 12 15 (.inr (.inr (some a37)))).bind fun s39 => xnwa s39 100 (.inl 0) (xk 20) fun a40 s41 => (xpt s41 l0 12 16 (.inr (.inr (some a40)))).bind fun s42 => xnwa s42 100 (.inl 0) (xk 20) fun a43 s44 => (xpt s44 l0 12 18 (.inr (.inr (some a43)))).bind fun s45 => xnwa s45 100 (.inl 0) (xk 20) fun a46 s47 => (xpt s47 l0 12 19 (.inr (.inr (some a46)))).bind fun s48 => xnwa s48 100 (.inl 0) (xk 20) fun a49 s50 => (xpt s50 l0 12 20 (.inr (.inr (some a49)))).bind fun s51 => xnwa s51 100 (.inl 0) (xk 20) fun a52 s53 => (xpt s53 l0 12 21 (.inr (.inr (some a52)))).bind fun s54 => xnwa s54 100 (.inl 0) (xk 20) fun a55 s56 => (xpt s56 l0 12 22 (.inr (.inr (some a55)))).bind fun s57 => xnwa s57 100 (.inl 0) (xk 20) fun a58 s59 => (xpt s59 l0 12 23 (.inr (.inr (some a58)))).bind fun s60 => xnwa s60 100 (.inl 0) (xk 20) fun a61 s62 => (xpt s62 l0 12 24 (.inr (.inr (some a61)))).bind fun s63 => xnwa s63 101 (.inr (.inl 0)) (xk 20) fun a64 s65 => (xpt s65 l0 12 25 (.inr (.inr (some a64)))).bind fun s66 => xnwa s66 100 (.inl 0) (xk 10) fun a67 s68 => (xpt s68 l0 12 29 (.inr (.inr (some a67)))).bind fun s69 => xnwa s69 102 (.inl 0) (xk 80) fun a70 s71 => (xpt s71 l0 12 30 (.inr (.inr (some a70)))).bind fun s72 => xnwa s72 100 (.inl 0) (xk 80) fun a73 s74 => (xpt s74 l0 12 31 (.inr (.inr (some a73)))).bind fun s75 => xnwa s75 100 (.inl 0) (xk 80) fun a76 s77 => (xpt s77 l0 12 32 (.inr (.inr (some a76)))).bind fun s78 => xnwa s78 100 (.inl 0) (xk 80) fun a79 s80 => (xpt s80 l0 12 33 (.inr (.inr (some a79)))).bind fun s81 => xnwa s81 100 (.inl 0) (xk 80) fun a82 s83 => (xpt s83 l0 12 34 (.inr (.inr (some a82)))).bind fun s84 => xnwa s84 100 (.inl 0) (xk 80) fun a85 s86 => (xpt s86 l0 12 35 (.inr (.inr (some a85)))).bind fun s87 => xnwa s87 102 (.inl 0) (xk 20) fun a88 s89 => (xpt s89 l0 12 39 (.inr (.inr (some a88)))).bind fun s90 => xnwa s90 100 (.inl 0) (xk 80) fun a91 s92 => (xpt s92 l0 12 40 (.inr (.inr (some a91)))).bind fun s93 => (xpt s93 l0 12 13 (.inl (xk 1))).bind fun s94 => (xgr s94 l0 12 14).bind fun v95 => (xsi s94 v95 (xk 0) (xk (-1))).bind fun s96 => xgd s96 l0 12 (xci (J12_newGroup F l0 (xk (-1)) s96) fun v98 s97 => (xpt s97 l0 12 28 (.inl (xk 1))).bind fun s99 => xgd s99 l0 12 (xci (J12_make F l0 (xk 0) (xk (-1)) (xk 0) (xk 0) (xk 0) s99) fun v101 s100 => (xpt s100 l0 12 1 (.inl (xk 1))).bind fun s102 => (xgr s102 l0 12 3).bind fun v103 => (xsi s102 v103 (xk 0) (xk (-1))).bind fun s104 => (xgr s104 l0 12 16).bind fun v105 => (xsi s104 v105 (xk 0) (xk 1)).bind fun s106 => (xgr s106 l0 12 12).bind fun v107 => (xsi s106 v107 (xk 0) (xk 1)).bind fun s108 => some (.inl none, s108)))) := rfl
set_option maxRecDepth 100000 in
theorem E12_thrown (F : Nat) (l0 : Option Nat) (s0 : XH) : J12_thrown (F + 1) l0 s0 = ((xgi s0 l0 12 0).bind fun v1 => some (.inl (some (.inl v1)), s0)) := rfl
set_option maxRecDepth 100000 in
theorem E12_in (F : Nat) (l0 : Int64) (l2 : Int64) (l4 : Int64) (s0 : XH) : J12_in (F + 1) l0 l2 l4 s0 = (if (lg_cmp l0 l2) < 0 then (if (xk 0) = 0 ∨ (xk 0) = 1 then some (.inl (some (.inl (xk 0))), s0) else none) else (if 0 < (lg_cmp l0 l4) then (if (xk 0) = 0 ∨ (xk 0) = 1 then some (.inl (some (.inl (xk 0))), s0) else none) else (if (xk 1) = 0 ∨ (xk 1) = 1 then some (.inl (some (.inl (xk 1))), s0) else none))) := rfl
set_option maxRecDepth 100000 in
theorem E12_isTask (F : Nat) (l0 : Option Nat) (l1 : Int32) (s0 : XH) : J12_isTask (F + 1) l0 l1 s0 = ((xgi s0 l0 12 1).bind fun v1 => xci (J12_in F (Int32.toInt64 l1) (lN 0) (Int32.toInt64 (v1 - (xk 1))) s0) fun v3 s2 => if v3 = 0 ∨ v3 = 1 then some (.inl (some (.inl v3)), s2) else none) := rfl
set_option maxRecDepth 100000 in
theorem E12_isLive (F : Nat) (l0 : Option Nat) (l1 : Int32) (s0 : XH) : J12_isLive (F + 1) l0 l1 s0 = (xgd s0 l0 12 (xci (J12_isTask F l0 l1 s0) fun v2 s1 => if v2 = 0 then (if (xk 0) = 0 ∨ (xk 0) = 1 then some (.inl (some (.inl (xk 0))), s1) else none) else ((xgr s1 l0 12 2).bind fun v3 => (xai s1 v3 l1).bind fun v4 => if v4 = 0 then (if (xk 1) = 0 ∨ (xk 1) = 1 then some (.inl (some (.inl (xk 1))), s1) else none) else (if (xk 0) = 0 ∨ (xk 0) = 1 then some (.inl (some (.inl (xk 0))), s1) else none)))) := rfl
set_option maxRecDepth 100000 in
theorem E12_isGroup (F : Nat) (l0 : Option Nat) (l1 : Int32) (s0 : XH) : J12_isGroup (F + 1) l0 l1 s0 = ((xgi s0 l0 12 17).bind fun v1 => xci (J12_in F (Int32.toInt64 l1) (lN 0) (Int32.toInt64 (v1 - (xk 1))) s0) fun v3 s2 => if v3 = 0 ∨ v3 = 1 then some (.inl (some (.inl v3)), s2) else none) := rfl
set_option maxRecDepth 100000 in
theorem E12_liesIn (F : Nat) (l0 : Option Nat) (l1 : Int32) (l2 : Int32) (s0 : XH) : J12_liesIn (F + 1) l0 l1 l2 s0 = (J12_liesIn_2 F (l0) (l2) (l1) s0) := rfl
set_option maxRecDepth 100000 in
theorem E12_liesIn_2 (F : Nat) (l0 : Option Nat) (l2 : Int32) (l3 : Int32) (s0 : XH) : J12_liesIn_2 (F + 1) l0 l2 l3 s0 = (if l3 = (xk (-1)) then (if l3 = l2 then (if (xk 1) = 0 ∨ (xk 1) = 1 then some (.inl (some (.inl (xk 1))), s0) else none) else (if (xk 0) = 0 ∨ (xk 0) = 1 then some (.inl (some (.inl (xk 0))), s0) else none)) else (if l3 = l2 then (if l3 = l2 then (if (xk 1) = 0 ∨ (xk 1) = 1 then some (.inl (some (.inl (xk 1))), s0) else none) else (if (xk 0) = 0 ∨ (xk 0) = 1 then some (.inl (some (.inl (xk 0))), s0) else none)) else ((xgr s0 l0 12 14).bind fun v1 => (xai s0 v1 l3).bind fun v2 => J12_liesIn_2 F (l0) (l2) (v2) s0))) := rfl
set_option maxRecDepth 100000 in
theorem E12_isWithin (F : Nat) (l0 : Option Nat) (l1 : Int32) (l2 : Int32) (s0 : XH) : J12_isWithin (F + 1) l0 l1 l2 s0 = (J12_isWithin_2 F (l0) (l2) (l1) s0) := rfl
set_option maxRecDepth 100000 in
theorem E12_isWithin_2 (F : Nat) (l0 : Option Nat) (l2 : Int32) (l3 : Int32) (s0 : XH) : J12_isWithin_2 (F + 1) l0 l2 l3 s0 = (if l3 = (xk (-1)) then (if l3 = l2 then (if (xk 1) = 0 ∨ (xk 1) = 1 then some (.inl (some (.inl (xk 1))), s0) else none) else (if (xk 0) = 0 ∨ (xk 0) = 1 then some (.inl (some (.inl (xk 0))), s0) else none)) else (if l3 = l2 then (if l3 = l2 then (if (xk 1) = 0 ∨ (xk 1) = 1 then some (.inl (some (.inl (xk 1))), s0) else none) else (if (xk 0) = 0 ∨ (xk 0) = 1 then some (.inl (some (.inl (xk 0))), s0) else none)) else ((xgr s0 l0 12 18).bind fun v1 => (xai s0 v1 l3).bind fun v2 => J12_isWithin_2 F (l0) (l2) (v2) s0))) := rfl
set_option maxRecDepth 100000 in
theorem E12_holder (F : Nat) (l0 : Option Nat) (l1 : Int32) (l2 : Int32) (s0 : XH) : J12_holder (F + 1) l0 l1 l2 s0 = (J12_holder_2 F (l0) (l1) (l2) (xk 0) s0) := rfl
set_option maxRecDepth 100000 in
theorem E12_holder_2 (F : Nat) (l0 : Option Nat) (l1 : Int32) (l2 : Int32) (l3 : Int32) (s0 : XH) : J12_holder_2 (F + 1) l0 l1 l2 l3 s0 = ((xgi s0 l0 12 1).bind fun v1 => if l3 < v1 then ((xgr s0 l0 12 2).bind fun v2 => (xai s0 v2 l3).bind fun v3 => if v3 = (xk 2) then (J12_holder_2 F (l0) (l1) (l2) (l3 + xk 1) s0) else ((xgr s0 l0 12 12).bind fun v4 => (xai s0 v4 (((xk 20) * l3) + l1)).bind fun v5 => if v5 = l2 then (some (.inl (some (.inl l3)), s0)) else (J12_holder_2 F (l0) (l1) (l2) (l3 + xk 1) s0))) else (some (.inl (some (.inl (xk (-1)))), s0))) := rfl
set_option maxRecDepth 100000 in
theorem E12_nextNumber (F : Nat) (l0 : Option Nat) (l1 : Int32) (s0 : XH) : J12_nextNumber (F + 1) l0 l1 s0 = ((xgr s0 l0 12 16).bind fun v1 => (xai s0 v1 l1).bind fun v2 => J12_nextNumber_9 F (l0) (l1) (v2) (xk 0) s0) := rfl
set_option maxRecDepth 100000 in
theorem E12_nextNumber_9 (F : Nat) (l0 : Option Nat) (l1 : Int32) (l2 : Int32) (l3 : Int32) (s0 : XH) : J12_nextNumber_9 (F + 1) l0 l1 l2 l3 s0 = (if l3 < (xk 40) then (if l2 = (xk 40) then (xgd s0 l0 12 (xci (J12_holder F l0 l1 (xk 1) s0) fun v2 s1 => if v2 = (xk (-1)) then (some (.inl (some (.inl (xk 1))), s1)) else (J12_nextNumber_9 F (l0) (l1) (xk 1) (l3 + xk 1) s1))) else (xgd s0 l0 12 (xci (J12_holder F l0 l1 (l2 + (xk 1)) s0) fun v4 s3 => if v4 = (xk (-1)) then (some (.inl (some (.inl (l2 + (xk 1)))), s3)) else (J12_nextNumber_9 F (l0) (l1) (l2 + (xk 1)) (l3 + xk 1) s3)))) else (some (.inl (some (.inl (xk 0))), s0))) := rfl
set_option maxRecDepth 100000 in
theorem E12_depth (F : Nat) (l0 : Option Nat) (l1 : Int32) (s0 : XH) : J12_depth (F + 1) l0 l1 s0 = ((xgr s0 l0 12 14).bind fun v1 => (xai s0 v1 l1).bind fun v2 => J12_depth_9 F (l0) (xk 0) (v2) s0) := rfl
set_option maxRecDepth 100000 in
theorem E12_depth_9 (F : Nat) (l0 : Option Nat) (l2 : Int32) (l3 : Int32) (s0 : XH) : J12_depth_9 (F + 1) l0 l2 l3 s0 = (if l3 = (xk (-1)) then (some (.inl (some (.inl l2)), s0)) else ((xgr s0 l0 12 14).bind fun v1 => (xai s0 v1 l3).bind fun v2 => J12_depth_9 F (l0) (l2 + xk 1) (v2) s0)) := rfl
set_option maxRecDepth 100000 in
theorem E12_freeMounts (F : Nat) (l0 : Option Nat) (s0 : XH) : J12_freeMounts (F + 1) l0 s0 = (J12_freeMounts_4 F (l0) (xk 0) (xk 0) s0) := rfl
set_option maxRecDepth 100000 in
theorem E12_freeMounts_4 (F : Nat) (l0 : Option Nat) (l1 : Int32) (l2 : Int32) (s0 : XH) : J12_freeMounts_4 (F + 1) l0 l1 l2 s0 = (if l2 < (xk 80) then ((xgr s0 l0 12 30).bind fun v1 => (xaz s0 v1 l2).bind fun v2 => if v2 = 0 then (J12_freeMounts_4 F (l0) (l1 + (xk 1)) (l2 + xk 1) s0) else (J12_freeMounts_4 F (l0) (l1 + (xk 0)) (l2 + xk 1) s0)) else (some (.inl (some (.inl l1)), s0))) := rfl
set_option maxRecDepth 100000 in
theorem E12_mountsOf (F : Nat) (l0 : Option Nat) (l1 : Int32) (s0 : XH) : J12_mountsOf (F + 1) l0 l1 s0 = (J12_mountsOf_4 F (l0) (l1) (xk 0) (xk 0) s0) := rfl
set_option maxRecDepth 100000 in
theorem E12_mountsOf_4 (F : Nat) (l0 : Option Nat) (l1 : Int32) (l2 : Int32) (l3 : Int32) (s0 : XH) : J12_mountsOf_4 (F + 1) l0 l1 l2 l3 s0 = (if l3 < (xk 80) then ((xgr s0 l0 12 30).bind fun v1 => (xaz s0 v1 l3).bind fun v2 => if v2 = 0 then (J12_mountsOf_4 F (l0) (l1) (l2 + (xk 0)) (l3 + xk 1) s0) else ((xgr s0 l0 12 31).bind fun v3 => (xai s0 v3 l3).bind fun v4 => if v4 = l1 then (J12_mountsOf_4 F (l0) (l1) (l2 + (xk 1)) (l3 + xk 1) s0) else (J12_mountsOf_4 F (l0) (l1) (l2 + (xk 0)) (l3 + xk 1) s0))) else (some (.inl (some (.inl l2)), s0))) := rfl
set_option maxRecDepth 100000 in
theorem E12_liveIn (F : Nat) (l0 : Option Nat) (l1 : Int32) (s0 : XH) : J12_liveIn (F + 1) l0 l1 s0 = (J12_liveIn_4 F (l0) (l1) (xk 0) (xk 0) s0) := rfl
set_option maxRecDepth 100000 in
theorem E12_liveIn_4 (F : Nat) (l0 : Option Nat) (l1 : Int32) (l2 : Int32) (l3 : Int32) (s0 : XH) : J12_liveIn_4 (F + 1) l0 l1 l2 l3 s0 = ((xgi s0 l0 12 1).bind fun v1 => if l3 < v1 then ((xgr s0 l0 12 2).bind fun v2 => (xai s0 v2 l3).bind fun v3 => if v3 = 0 then ((xgr s0 l0 12 5).bind fun v4 => (xai s0 v4 l3).bind fun v5 => xgd s0 l0 12 (xci (J12_isWithin F l0 v5 l1 s0) fun v7 s6 => if v7 = 0 then (J12_liveIn_4 F (l0) (l1) (l2 + (xk 0)) (l3 + xk 1) s6) else (J12_liveIn_4 F (l0) (l1) (l2 + (xk 1)) (l3 + xk 1) s6))) else (J12_liveIn_4 F (l0) (l1) (l2 + (xk 0)) (l3 + xk 1) s0)) else (some (.inl (some (.inl l2)), s0))) := rfl
set_option maxRecDepth 100000 in
theorem E12_isReady (F : Nat) (l0 : Option Nat) (l1 : Int32) (s0 : XH) : J12_isReady (F + 1) l0 l1 s0 = ((xgr s0 l0 12 39).bind fun v1 => (xaz s0 v1 l1).bind fun v2 => if v2 = 0 then (if (xk 0) = 0 ∨ (xk 0) = 1 then some (.inl (some (.inl (xk 0))), s0) else none) else ((xgr s0 l0 12 22).bind fun v3 => (xai s0 v3 l1).bind fun v4 => if v4 = 0 then (if (xk 1) = 0 ∨ (xk 1) = 1 then some (.inl (some (.inl (xk 1))), s0) else none) else ((xgr s0 l0 12 24).bind fun v5 => (xai s0 v5 l1).bind fun v6 => (xgr s0 l0 12 22).bind fun v7 => (xai s0 v7 l1).bind fun v8 => if v6 < v8 then (if (xk 1) = 0 ∨ (xk 1) = 1 then some (.inl (some (.inl (xk 1))), s0) else none) else (if (xk 0) = 0 ∨ (xk 0) = 1 then some (.inl (some (.inl (xk 0))), s0) else none)))) := rfl
set_option maxRecDepth 100000 in
theorem E12_findReady (F : Nat) (l0 : Option Nat) (s0 : XH) : J12_findReady (F + 1) l0 s0 = ((xgi s0 l0 12 17).bind fun v1 => J12_findReady_7 F (l0) (v1 - (xk 1)) s0) := rfl
set_option maxRecDepth 100000 in
theorem E12_findReady_7 (F : Nat) (l0 : Option Nat) (l1 : Int32) (s0 : XH) : J12_findReady_7 (F + 1) l0 l1 s0 = (if l1 < 0 then (some (.inl none, s0)) else ((xgr s0 l0 12 39).bind fun v1 => (xsz s0 v1 l1 (xk 0)).bind fun s2 => J12_findReady_20 F (l0) (l1) (xk 0) s2)) := rfl
set_option maxRecDepth 100000 in
theorem E12_findReady_20 (F : Nat) (l0 : Option Nat) (l1 : Int32) (l2 : Int32) (s0 : XH) : J12_findReady_20 (F + 1) l0 l1 l2 s0 = ((xgi s0 l0 12 1).bind fun v1 => if l2 < v1 then ((xgr s0 l0 12 39).bind fun v2 => (xaz s0 v2 l1).bind fun v3 => (xgr s0 l0 12 2).bind fun v4 => (xai s0 v4 l2).bind fun v5 => if v5 = 0 then ((xgr s0 l0 12 9).bind fun v6 => (xaz s0 v6 l2).bind fun v7 => if v7 = 0 then ((xgr s0 l0 12 5).bind fun v8 => (xai s0 v8 l2).bind fun v9 => if v9 = l1 then ((xsz s0 v2 l1 (v3 ||| (xk 1))).bind fun s10 => J12_findReady_20 F (l0) (l1) (l2 + xk 1) s10) else ((xsz s0 v2 l1 (v3 ||| (xk 0))).bind fun s11 => J12_findReady_20 F (l0) (l1) (l2 + xk 1) s11)) else ((xsz s0 v2 l1 (v3 ||| (xk 0))).bind fun s12 => J12_findReady_20 F (l0) (l1) (l2 + xk 1) s12)) else ((xsz s0 v2 l1 (v3 ||| (xk 0))).bind fun s13 => J12_findReady_20 F (l0) (l1) (l2 + xk 1) s13)) else (J12_findReady_80 F (l0) (l1) (l1 + (xk 1)) s0)) := rfl
set_option maxRecDepth 100000 in
theorem E12_findReady_80 (F : Nat) (l0 : Option Nat) (l1 : Int32) (l2 : Int32) (s0 : XH) : J12_findReady_80 (F + 1) l0 l1 l2 s0 = ((xgi s0 l0 12 17).bind fun v1 => if l2 < v1 then ((xgr s0 l0 12 39).bind fun v2 => (xaz s0 v2 l1).bind fun v3 => (xgr s0 l0 12 18).bind fun v4 => (xai s0 v4 l2).bind fun v5 => if v5 = l1 then (xgd s0 l0 12 (xci (J12_isReady F l0 l2 s0) fun v7 s6 => if v7 = 0 then ((xsz s6 v2 l1 (v3 ||| (xk 0))).bind fun s8 => J12_findReady_80 F (l0) (l1) (l2 + xk 1) s8) else ((xsz s6 v2 l1 (v3 ||| (xk 1))).bind fun s9 => J12_findReady_80 F (l0) (l1) (l2 + xk 1) s9))) else ((xsz s0 v2 l1 (v3 ||| (xk 0))).bind fun s10 => J12_findReady_80 F (l0) (l1) (l2 + xk 1) s10)) else (J12_findReady_7 F (l0) (l1 + xk (-1)) s0)) := rfl
set_option maxRecDepth 100000 in
theorem E12_leastTime (F : Nat) (l0 : Option Nat) (l1 : Int32) (l2 : Int32) (l3 : Int32) (s0 : XH) : J12_leastTime (F + 1) l0 l1 l2 l3 s0 = (xgd s0 l0 12 (xcv (J12_findReady F l0 s0) fun s1 => J12_leastTime_12 F (l0) (l1) (l2) (l3) ((-1 : Int64)) (xk 0) s1)) := rfl
set_option maxRecDepth 100000 in
theorem E12_leastTime_12 (F : Nat) (l0 : Option Nat) (l1 : Int32) (l2 : Int32) (l3 : Int32) (l4 : Int64) (l6 : Int32) (s0 : XH) : J12_leastTime_12 (F + 1) l0 l1 l2 l3 l4 l6 s0 = ((xgi s0 l0 12 1).bind fun v1 => if l6 < v1 then ((xgr s0 l0 12 2).bind fun v2 => (xai s0 v2 l6).bind fun v3 => if v3 = 0 then ((xgr s0 l0 12 9).bind fun v4 => (xaz s0 v4 l6).bind fun v5 => if v5 = 0 then ((xgr s0 l0 12 5).bind fun v6 => (xai s0 v6 l6).bind fun v7 => if v7 = l1 then (if l2 = 0 then (if l6 = l3 then (J12_leastTime_12 F (l0) (l1) (l2) (l3) (l4) (l6 + xk 1) s0) else (J12_leastTime_65 F (l0) (l1) (l2) (l3) (l4) (l6) s0)) else (J12_leastTime_65 F (l0) (l1) (l2) (l3) (l4) (l6) s0)) else (J12_leastTime_12 F (l0) (l1) (l2) (l3) (l4) (l6 + xk 1) s0)) else (J12_leastTime_12 F (l0) (l1) (l2) (l3) (l4) (l6 + xk 1) s0)) else (J12_leastTime_12 F (l0) (l1) (l2) (l3) (l4) (l6 + xk 1) s0)) else (J12_leastTime_103 F (l0) (l1) (l2) (l3) (l4) (xk 1) s0)) := rfl
set_option maxRecDepth 100000 in
theorem E12_leastTime_103 (F : Nat) (l0 : Option Nat) (l1 : Int32) (l2 : Int32) (l3 : Int32) (l4 : Int64) (l6 : Int32) (s0 : XH) : J12_leastTime_103 (F + 1) l0 l1 l2 l3 l4 l6 s0 = ((xgi s0 l0 12 17).bind fun v1 => if l6 < v1 then ((xgr s0 l0 12 18).bind fun v2 => (xai s0 v2 l6).bind fun v3 => if v3 = l1 then (if l2 = 0 then (J12_leastTime_133 F (l0) (l1) (l2) (l3) (l4) (l6) s0) else (if l6 = l3 then (J12_leastTime_103 F (l0) (l1) (l2) (l3) (l4) (l6 + xk 1) s0) else (J12_leastTime_133 F (l0) (l1) (l2) (l3) (l4) (l6) s0))) else (J12_leastTime_103 F (l0) (l1) (l2) (l3) (l4) (l6 + xk 1) s0)) else (some (.inl (some (.inr (.inl (l4)))), s0))) := rfl
set_option maxRecDepth 100000 in
theorem E12_leastTime_133 (F : Nat) (l0 : Option Nat) (l1 : Int32) (l2 : Int32) (l3 : Int32) (l4 : Int64) (l6 : Int32) (s0 : XH) : J12_leastTime_133 (F + 1) l0 l1 l2 l3 l4 l6 s0 = (xgd s0 l0 12 (xci (J12_isReady F l0 l6 s0) fun v2 s1 => if v2 = 0 then (J12_leastTime_103 F (l0) (l1) (l2) (l3) (l4) (l6 + xk 1) s1) else (if (lg_cmp l4 (lN 0)) < 0 then ((xgr s1 l0 12 25).bind fun v3 => (xal s1 v3 l6).bind fun v4 => J12_leastTime_103 F (l0) (l1) (l2) (l3) (v4) (l6 + xk 1) s1) else ((xgr s1 l0 12 25).bind fun v5 => (xal s1 v5 l6).bind fun v6 => if (lg_cmp v6 l4) < 0 then ((xgr s1 l0 12 25).bind fun v7 => (xal s1 v7 l6).bind fun v8 => J12_leastTime_103 F (l0) (l1) (l2) (l3) (v8) (l6 + xk 1) s1) else (J12_leastTime_103 F (l0) (l1) (l2) (l3) (l4) (l6 + xk 1) s1))))) := rfl
set_option maxRecDepth 100000 in
theorem E12_leastTime_65 (F : Nat) (l0 : Option Nat) (l1 : Int32) (l2 : Int32) (l3 : Int32) (l4 : Int64) (l6 : Int32) (s0 : XH) : J12_leastTime_65 (F + 1) l0 l1 l2 l3 l4 l6 s0 = (if (lg_cmp l4 (lN 0)) < 0 then ((xgr s0 l0 12 10).bind fun v1 => (xal s0 v1 l6).bind fun v2 => J12_leastTime_12 F (l0) (l1) (l2) (l3) (v2) (l6 + xk 1) s0) else ((xgr s0 l0 12 10).bind fun v3 => (xal s0 v3 l6).bind fun v4 => if (lg_cmp v4 l4) < 0 then ((xgr s0 l0 12 10).bind fun v5 => (xal s0 v5 l6).bind fun v6 => J12_leastTime_12 F (l0) (l1) (l2) (l3) (v6) (l6 + xk 1) s0) else (J12_leastTime_12 F (l0) (l1) (l2) (l3) (l4) (l6 + xk 1) s0))) := rfl
set_option maxRecDepth 100000 in
theorem E12_come (F : Nat) (l0 : Option Nat) (l1 : Int32) (l2 : Int32) (s0 : XH) : J12_come (F + 1) l0 l1 l2 s0 = ((xgr s0 l0 12 5).bind fun v1 => (xai s0 v1 l1).bind fun v2 => xgd s0 l0 12 (xcl (J12_leastTime F l0 v2 (xk 0) l1 s0) fun v4 s3 => if l2 = 0 then ((xgr s3 l0 12 10).bind fun v5 => (xal s3 v5 l1).bind fun v6 => if 0 < (lg_cmp v4 v6) then ((xgr s3 l0 12 10).bind fun v7 => (xsl s3 v7 l1 v4).bind fun s8 => some (.inl none, s8)) else (some (.inl none, s3))) else ((xgr s3 l0 12 10).bind fun v9 => if (lg_cmp v4 (lN 0)) < 0 then ((xsl s3 v9 l1 (lN 0)).bind fun s10 => some (.inl none, s10)) else ((xsl s3 v9 l1 v4).bind fun s11 => some (.inl none, s11))))) := rfl
set_option maxRecDepth 100000 in
theorem E12_copyView (F : Nat) (l0 : Option Nat) (l1 : Int32) (s0 : XH) : J12_copyView (F + 1) l0 l1 s0 = ((xgi s0 l0 12 28).bind fun v1 => (xpt s0 l0 12 28 (.inl (v1 + (xk 1)))).bind fun s2 => J12_copyView_18 F (l0) (l1) (v1) (xk 80) (xk 0) s2) := rfl
set_option maxRecDepth 100000 in
theorem E12_copyView_18 (F : Nat) (l0 : Option Nat) (l1 : Int32) (l2 : Int32) (l3 : Int32) (l4 : Int32) (s0 : XH) : J12_copyView_18 (F + 1) l0 l1 l2 l3 l4 s0 = (if l4 < (xk 80) then ((xgr s0 l0 12 40).bind fun v1 => (xsi s0 v1 l4 (xk (-1))).bind fun s2 => J12_copyView_18 F (l0) (l1) (l2) (l3) (l4 + xk 1) s2) else (J12_copyView_42 F (l0) (l1) (l2) (l3) (xk 0) s0)) := rfl
set_option maxRecDepth 100000 in
theorem E12_copyView_42 (F : Nat) (l0 : Option Nat) (l1 : Int32) (l2 : Int32) (l3 : Int32) (l4 : Int32) (s0 : XH) : J12_copyView_42 (F + 1) l0 l1 l2 l3 l4 s0 = (if l4 < l3 then ((xgr s0 l0 12 30).bind fun v1 => (xaz s0 v1 l4).bind fun v2 => if v2 = 0 then (J12_copyView_42 F (l0) (l1) (l2) (l3) (l4 + xk 1) s0) else ((xgr s0 l0 12 31).bind fun v3 => (xai s0 v3 l4).bind fun v4 => if v4 = l1 then ((xgr s0 l0 12 40).bind fun v5 => (xgr s0 l0 12 32).bind fun v6 => (xai s0 v6 l4).bind fun v7 => (xgr s0 l0 12 33).bind fun v8 => (xai s0 v8 l4).bind fun v9 => (xgr s0 l0 12 34).bind fun v10 => (xai s0 v10 l4).bind fun v11 => (xgr s0 l0 12 35).bind fun v12 => (xai s0 v12 l4).bind fun v13 => xgd s0 l0 12 (xci (J12_make F l0 l2 v7 v9 v11 v13 s0) fun v15 s14 => (xsi s14 v5 l4 v15).bind fun s16 => J12_copyView_42 F (l0) (l1) (l2) (l3) (l4 + xk 1) s16)) else (J12_copyView_42 F (l0) (l1) (l2) (l3) (l4 + xk 1) s0))) else (J12_copyView_121 F (l0) (l2) (xk 0) s0)) := rfl
set_option maxRecDepth 100000 in
theorem E12_copyView_121 (F : Nat) (l0 : Option Nat) (l2 : Int32) (l4 : Int32) (s0 : XH) : J12_copyView_121 (F + 1) l0 l2 l4 s0 = (if l4 < (xk 80) then ((xgr s0 l0 12 40).bind fun v1 => (xai s0 v1 l4).bind fun v2 => if v2 = (xk (-1)) then (J12_copyView_121 F (l0) (l2) (l4 + xk 1) s0) else ((xgr s0 l0 12 32).bind fun v3 => (xai s0 v3 l4).bind fun v4 => if v4 = (xk (-1)) then (J12_copyView_121 F (l0) (l2) (l4 + xk 1) s0) else ((xgr s0 l0 12 32).bind fun v5 => (xgr s0 l0 12 40).bind fun v6 => (xai s0 v6 l4).bind fun v7 => (xgr s0 l0 12 40).bind fun v8 => (xgr s0 l0 12 32).bind fun v9 => (xai s0 v9 l4).bind fun v10 => (xai s0 v8 v10).bind fun v11 => (xsi s0 v5 v7 v11).bind fun s12 => J12_copyView_121 F (l0) (l2) (l4 + xk 1) s12))) else (some (.inl (some (.inl l2)), s0))) := rfl
set_option maxRecDepth 100000 in
theorem E12_fork (F : Nat) (l0 : Option Nat) (l1 : Int32) (l2 : Int32) (l3 : Int32) (s0 : XH) : J12_fork (F + 1) l0 l1 l2 l3 s0 = ((xpt s0 l0 12 0 (.inl (xk 0))).bind fun s1 => xgd s1 l0 12 (xci (J12_isLive F l0 l1 s1) fun v3 s2 => if v3 = 0 then (some (.inl (some (.inl (xk (-1)))), s2)) else ((xgr s2 l0 12 5).bind fun v4 => (xai s2 v4 l1).bind fun v5 => J12_fork_23 F (l0) (l1) (l2) (l3) (v5) s2))) := rfl
set_option maxRecDepth 100000 in
theorem E12_fork_23 (F : Nat) (l0 : Option Nat) (l1 : Int32) (l2 : Int32) (l3 : Int32) (l4 : Int32) (s0 : XH) : J12_fork_23 (F + 1) l0 l1 l2 l3 l4 s0 = (if l4 = (xk (-1)) then ((xgr s0 l0 12 4).bind fun v1 => (xai s0 v1 l1).bind fun v2 => (xgi s0 l0 12 1).bind fun v3 => if v3 = (xk 150) then (some (.inl (some (.inl (xk (-2)))), s0)) else (if l2 = 0 then (J12_fork_101 F (l0) (l1) (l2) (l3) (v2) s0) else ((xgi s0 l0 12 13).bind fun v4 => if v4 = (xk 20) then (some (.inl (some (.inl (xk (-2)))), s0)) else (xgd s0 l0 12 (xci (J12_depth F l0 v2 s0) fun v6 s5 => if v6 < (xk 4) then (J12_fork_101 F (l0) (l1) (l2) (l3) (v2) s5) else (some (.inl (some (.inl (xk (-2)))), s5))))))) else (xgd s0 l0 12 (xci (J12_liveIn F l0 l4 s0) fun v8 s7 => (xgr s7 l0 12 19).bind fun v9 => (xai s7 v9 l4).bind fun v10 => if v8 < v10 then ((xgr s7 l0 12 18).bind fun v11 => (xai s7 v11 l4).bind fun v12 => J12_fork_23 F (l0) (l1) (l2) (l3) (v12) s7) else (some (.inl (some (.inl (xk (-3)))), s7))))) := rfl
set_option maxRecDepth 100000 in
theorem E12_fork_101 (F : Nat) (l0 : Option Nat) (l1 : Int32) (l2 : Int32) (l3 : Int32) (l4 : Int32) (s0 : XH) : J12_fork_101 (F + 1) l0 l1 l2 l3 l4 s0 = (if l3 = 0 then (J12_fork_138 F (l0) (l1) (l2) (l3) (l4) (l4) s0) else ((xgi s0 l0 12 28).bind fun v1 => if v1 = (xk 10) then (some (.inl (some (.inl (xk (-2)))), s0)) else ((xgr s0 l0 12 6).bind fun v2 => (xai s0 v2 l1).bind fun v3 => xgd s0 l0 12 (xci (J12_mountsOf F l0 v3 s0) fun v5 s4 => xgd s4 l0 12 (xci (J12_freeMounts F l0 s4) fun v7 s6 => if v7 < v5 then (some (.inl (some (.inl (xk (-2)))), s6)) else (J12_fork_138 F (l0) (l1) (l2) (l3) (l4) (l4) s6)))))) := rfl
set_option maxRecDepth 100000 in
theorem E12_fork_138 (F : Nat) (l0 : Option Nat) (l1 : Int32) (l2 : Int32) (l3 : Int32) (l4 : Int32) (l5 : Int32) (s0 : XH) : J12_fork_138 (F + 1) l0 l1 l2 l3 l4 l5 s0 = (if l5 = (xk (-1)) then ((xgi s0 l0 12 1).bind fun v1 => (xpt s0 l0 12 1 (.inl (v1 + (xk 1)))).bind fun s2 => if l2 = 0 then ((xgr s2 l0 12 2).bind fun v3 => (xsi s2 v3 v1 (xk 2)).bind fun s4 => J12_fork_242 F (l0) (l1) (l3) (l4) (v1) (l4) s4) else ((xgr s2 l0 12 14).bind fun v5 => (xgi s2 l0 12 13).bind fun v6 => (xsi s2 v5 v6 l4).bind fun s7 => (xgr s7 l0 12 15).bind fun v8 => (xgi s7 l0 12 13).bind fun v9 => (xsi s7 v8 v9 v1).bind fun s10 => (xgr s10 l0 12 16).bind fun v11 => (xgi s10 l0 12 13).bind fun v12 => (xsi s10 v11 v12 (xk 0)).bind fun s13 => (xgi s13 l0 12 13).bind fun v14 => (xpt s13 l0 12 13 (.inl (v14 + (xk 1)))).bind fun s15 => (xgr s15 l0 12 2).bind fun v16 => (xsi s15 v16 v1 (xk 2)).bind fun s17 => J12_fork_242 F (l0) (l1) (l3) (v14) (v1) (v14) s17)) else (xgd s0 l0 12 (xci (J12_nextNumber F l0 l5 s0) fun v19 s18 => if v19 = 0 then (some (.inl (some (.inl (xk (-2)))), s18)) else ((xgr s18 l0 12 14).bind fun v20 => (xai s18 v20 l5).bind fun v21 => J12_fork_138 F (l0) (l1) (l2) (l3) (l4) (v21) s18)))) := rfl
set_option maxRecDepth 100000 in
theorem E12_fork_242 (F : Nat) (l0 : Option Nat) (l1 : Int32) (l3 : Int32) (l4 : Int32) (l5 : Int32) (l6 : Int32) (s0 : XH) : J12_fork_242 (F + 1) l0 l1 l3 l4 l5 l6 s0 = (if l6 = (xk (-1)) then ((xgr s0 l0 12 2).bind fun v1 => (xsi s0 v1 l5 (xk 0)).bind fun s2 => (xgr s2 l0 12 3).bind fun v3 => (xsi s2 v3 l5 l1).bind fun s4 => (xgr s4 l0 12 4).bind fun v5 => (xsi s4 v5 l5 l4).bind fun s6 => (xgr s6 l0 12 5).bind fun v7 => (xgr s6 l0 12 5).bind fun v8 => (xai s6 v8 l1).bind fun v9 => (xsi s6 v7 l5 v9).bind fun s10 => (xgr s10 l0 12 6).bind fun v11 => if l3 = 0 then ((xgr s10 l0 12 6).bind fun v12 => (xai s10 v12 l1).bind fun v13 => (xsi s10 v11 l5 v13).bind fun s14 => (xgr s14 l0 12 10).bind fun v15 => (xsl s14 v15 l5 (lN 0)).bind fun s16 => xgd s16 l0 12 (xcv (J12_come F l0 l5 (xk 0) s16) fun s17 => some (.inl (some (.inl l5)), s17))) else ((xgr s10 l0 12 6).bind fun v18 => (xai s10 v18 l1).bind fun v19 => xgd s10 l0 12 (xci (J12_copyView F l0 v19 s10) fun v21 s20 => (xsi s20 v11 l5 v21).bind fun s22 => (xgr s22 l0 12 10).bind fun v23 => (xsl s22 v23 l5 (lN 0)).bind fun s24 => xgd s24 l0 12 (xcv (J12_come F l0 l5 (xk 0) s24) fun s25 => some (.inl (some (.inl l5)), s25))))) else (xgd s0 l0 12 (xci (J12_nextNumber F l0 l6 s0) fun v27 s26 => (xgr s26 l0 12 16).bind fun v28 => (xsi s26 v28 l6 v27).bind fun s29 => (xgr s29 l0 12 12).bind fun v30 => (xsi s29 v30 (((xk 20) * l5) + l6) v27).bind fun s31 => (xgr s31 l0 12 14).bind fun v32 => (xai s31 v32 l6).bind fun v33 => J12_fork_242 F (l0) (l1) (l3) (l4) (l5) (v33) s31))) := rfl
set_option maxRecDepth 100000 in
theorem E12_forget (F : Nat) (l0 : Option Nat) (l1 : Int32) (s0 : XH) : J12_forget (F + 1) l0 l1 s0 = ((xgr s0 l0 12 2).bind fun v1 => (xsi s0 v1 l1 (xk 2)).bind fun s2 => (xgr s2 l0 12 3).bind fun v3 => (xsi s2 v3 l1 (xk (-1))).bind fun s4 => J12_forget_16 F (l0) (l1) (xk 0) s4) := rfl
end
section
set_option maxRecDepth 100000 in
theorem E12_forget_16 (F : Nat) (l0 : Option Nat) (l1 : Int32) (l2 : Int32) (s0 : XH) : J12_forget_16 (F + 1) l0 l1 l2 s0 = (if l2 < (xk 20) then ((xgr s0 l0 12 12).bind fun v1 => (xsi s0 v1 (((xk 20) * l1) + l2) (xk 0)).bind fun s2 => J12_forget_16 F (l0) (l1) (l2 + xk 1) s2) else (some (.inl none, s0))) := rfl
set_option maxRecDepth 100000 in
theorem E12_end (F : Nat) (l0 : Option Nat) (l1 : Int32) (s0 : XH) : J12_end (F + 1) l0 l1 s0 = ((xgr s0 l0 12 2).bind fun v1 => (xsi s0 v1 l1 (xk 1)).bind fun s2 => (xgr s2 l0 12 7).bind fun v3 => (xsi s2 v3 l1 (xk 0)).bind fun s4 => (xgr s4 l0 12 4).bind fun v5 => (xai s4 v5 l1).bind fun v6 => (xgr s4 l0 12 15).bind fun v7 => (xai s4 v7 v6).bind fun v8 => if v8 = l1 then ((xgr s4 l0 12 15).bind fun v9 => (xgr s4 l0 12 14).bind fun v10 => (xai s4 v10 v6).bind fun v11 => (xai s4 v9 v11).bind fun v12 => J12_end_55 F (l0) (l1) (v12) (xk 0) s4) else ((xgr s4 l0 12 15).bind fun v13 => (xai s4 v13 v6).bind fun v14 => J12_end_55 F (l0) (l1) (v14) (xk 0) s4)) := rfl
set_option maxRecDepth 100000 in
theorem E12_end_55 (F : Nat) (l0 : Option Nat) (l1 : Int32) (l3 : Int32) (l4 : Int32) (s0 : XH) : J12_end_55 (F + 1) l0 l1 l3 l4 s0 = ((xgi s0 l0 12 1).bind fun v1 => if l4 < v1 then ((xgr s0 l0 12 2).bind fun v2 => (xai s0 v2 l4).bind fun v3 => if v3 = (xk 2) then (J12_end_55 F (l0) (l1) (l3) (l4 + xk 1) s0) else ((xgr s0 l0 12 3).bind fun v4 => (xai s0 v4 l4).bind fun v5 => if v5 = l1 then ((xgr s0 l0 12 3).bind fun v6 => (xsi s0 v6 l4 l3).bind fun s7 => J12_end_55 F (l0) (l1) (l3) (l4 + xk 1) s7) else (J12_end_55 F (l0) (l1) (l3) (l4 + xk 1) s0))) else (some (.inl none, s0))) := rfl
set_option maxRecDepth 100000 in
theorem E12_leave (F : Nat) (l0 : Option Nat) (l1 : Int32) (s0 : XH) : J12_leave (F + 1) l0 l1 s0 = (xgd s0 l0 12 (xcv (J12_end F l0 l1 s0) fun s1 => (xgr s1 l0 12 15).bind fun v2 => (xgr s1 l0 12 4).bind fun v3 => (xai s1 v3 l1).bind fun v4 => (xai s1 v2 v4).bind fun v5 => if v5 = l1 then (J12_leave_24 F (l0) (l1) (xk 1) (xk 0) s1) else (J12_leave_149 F (l0) (xk 1) (xk 0) s1))) := rfl
set_option maxRecDepth 100000 in
theorem E12_leave_149 (F : Nat) (l0 : Option Nat) (l2 : Int32) (l3 : Int32) (s0 : XH) : J12_leave_149 (F + 1) l0 l2 l3 s0 = ((xgi s0 l0 12 1).bind fun v1 => if l3 < v1 then ((xgr s0 l0 12 2).bind fun v2 => (xai s0 v2 l3).bind fun v3 => if v3 = (xk 1) then ((xgr s0 l0 12 3).bind fun v4 => (xai s0 v4 l3).bind fun v5 => if 0 < v5 then ((xgr s0 l0 12 2).bind fun v6 => (xai s0 v6 v5).bind fun v7 => if v7 = 0 then (J12_leave_149 F (l0) (l2) (l3 + xk 1) s0) else (xgd s0 l0 12 (xcv (J12_forget F l0 l3 s0) fun s8 => J12_leave_149 F (l0) (l2) (l3 + xk 1) s8))) else (xgd s0 l0 12 (xcv (J12_forget F l0 l3 s0) fun s9 => J12_leave_149 F (l0) (l2) (l3 + xk 1) s9))) else (J12_leave_149 F (l0) (l2) (l3 + xk 1) s0)) else (some (.inl (some (.inl l2)), s0))) := rfl
set_option maxRecDepth 100000 in
theorem E12_leave_24 (F : Nat) (l0 : Option Nat) (l1 : Int32) (l2 : Int32) (l3 : Int32) (s0 : XH) : J12_leave_24 (F + 1) l0 l1 l2 l3 s0 = ((xgi s0 l0 12 1).bind fun v1 => if l3 < v1 then (if l3 = l1 then (J12_leave_24 F (l0) (l1) (l2) (l3 + xk 1) s0) else ((xgr s0 l0 12 2).bind fun v2 => (xai s0 v2 l3).bind fun v3 => if v3 = (xk 2) then (J12_leave_24 F (l0) (l1) (l2) (l3 + xk 1) s0) else ((xgr s0 l0 12 4).bind fun v4 => (xai s0 v4 l3).bind fun v5 => (xgr s0 l0 12 4).bind fun v6 => (xai s0 v6 l1).bind fun v7 => xgd s0 l0 12 (xci (J12_liesIn F l0 v5 v7 s0) fun v9 s8 => if v9 = 0 then (J12_leave_24 F (l0) (l1) (l2) (l3 + xk 1) s8) else ((xgr s8 l0 12 2).bind fun v10 => (xai s8 v10 l3).bind fun v11 => if v11 = 0 then (xgd s8 l0 12 (xcv (J12_end F l0 l3 s8) fun s12 => J12_leave_24 F (l0) (l1) (l2 + xk 1) (l3 + xk 1) s12)) else (J12_leave_24 F (l0) (l1) (l2) (l3 + xk 1) s8)))))) else (J12_leave_94 F (l0) (l1) (l2) (xk 0) s0)) := rfl
set_option maxRecDepth 100000 in
theorem E12_leave_94 (F : Nat) (l0 : Option Nat) (l1 : Int32) (l2 : Int32) (l3 : Int32) (s0 : XH) : J12_leave_94 (F + 1) l0 l1 l2 l3 s0 = ((xgi s0 l0 12 1).bind fun v1 => if l3 < v1 then (if l3 = l1 then (J12_leave_94 F (l0) (l1) (l2) (l3 + xk 1) s0) else ((xgr s0 l0 12 2).bind fun v2 => (xai s0 v2 l3).bind fun v3 => if v3 = (xk 1) then ((xgr s0 l0 12 4).bind fun v4 => (xai s0 v4 l3).bind fun v5 => (xgr s0 l0 12 4).bind fun v6 => (xai s0 v6 l1).bind fun v7 => xgd s0 l0 12 (xci (J12_liesIn F l0 v5 v7 s0) fun v9 s8 => if v9 = 0 then (J12_leave_94 F (l0) (l1) (l2) (l3 + xk 1) s8) else (xgd s8 l0 12 (xcv (J12_forget F l0 l3 s8) fun s10 => J12_leave_94 F (l0) (l1) (l2) (l3 + xk 1) s10)))) else (J12_leave_94 F (l0) (l1) (l2) (l3 + xk 1) s0))) else (J12_leave_149 F (l0) (l2) (xk 0) s0)) := rfl
set_option maxRecDepth 100000 in
theorem E12_exit (F : Nat) (l0 : Option Nat) (l1 : Int32) (s0 : XH) : J12_exit (F + 1) l0 l1 s0 = ((xpt s0 l0 12 0 (.inl (xk 0))).bind fun s1 => xgd s1 l0 12 (xci (J12_isLive F l0 l1 s1) fun v3 s2 => if v3 = 0 then (some (.inl (some (.inl (xk (-1)))), s2)) else (if l1 = 0 then (some (.inl (some (.inl (xk (-1)))), s2)) else (xgd s2 l0 12 (xci (J12_leave F l0 l1 s2) fun v5 s4 => some (.inl (some (.inl v5)), s4)))))) := rfl
set_option maxRecDepth 100000 in
theorem E12_reap (F : Nat) (l0 : Option Nat) (l1 : Int32) (s0 : XH) : J12_reap (F + 1) l0 l1 s0 = ((xpt s0 l0 12 0 (.inl (xk 0))).bind fun s1 => xgd s1 l0 12 (xci (J12_isLive F l0 l1 s1) fun v3 s2 => if v3 = 0 then (some (.inl (some (.inl (xk (-1)))), s2)) else ((xgr s2 l0 12 4).bind fun v4 => (xai s2 v4 l1).bind fun v5 => J12_reap_27 F (l0) (l1) (xk (-1)) (v5) (xk 0) s2))) := rfl
set_option maxRecDepth 100000 in
theorem E12_reap_27 (F : Nat) (l0 : Option Nat) (l1 : Int32) (l2 : Int32) (l3 : Int32) (l4 : Int32) (s0 : XH) : J12_reap_27 (F + 1) l0 l1 l2 l3 l4 s0 = ((xgi s0 l0 12 1).bind fun v1 => if l4 < v1 then ((xgr s0 l0 12 2).bind fun v2 => (xai s0 v2 l4).bind fun v3 => if v3 = (xk 1) then ((xgr s0 l0 12 3).bind fun v4 => (xai s0 v4 l4).bind fun v5 => if v5 = l1 then (if l2 = (xk (-1)) then (J12_reap_27 F (l0) (l1) (l4) (l3) (l4 + xk 1) s0) else ((xgr s0 l0 12 12).bind fun v6 => (xai s0 v6 (((xk 20) * l4) + l3)).bind fun v7 => (xgr s0 l0 12 12).bind fun v8 => (xai s0 v8 (((xk 20) * l2) + l3)).bind fun v9 => if v7 < v9 then (J12_reap_27 F (l0) (l1) (l4) (l3) (l4 + xk 1) s0) else (J12_reap_27 F (l0) (l1) (l2) (l3) (l4 + xk 1) s0))) else (J12_reap_27 F (l0) (l1) (l2) (l3) (l4 + xk 1) s0)) else (J12_reap_27 F (l0) (l1) (l2) (l3) (l4 + xk 1) s0)) else (if l2 = (xk (-1)) then (some (.inl (some (.inl (xk 0))), s0)) else ((xgr s0 l0 12 12).bind fun v10 => (xai s0 v10 (((xk 20) * l2) + l3)).bind fun v11 => xgd s0 l0 12 (xcv (J12_forget F l0 l2 s0) fun s12 => some (.inl (some (.inl v11)), s12))))) := rfl
set_option maxRecDepth 100000 in
theorem E12_kill (F : Nat) (l0 : Option Nat) (l1 : Int32) (l2 : Int32) (s0 : XH) : J12_kill (F + 1) l0 l1 l2 s0 = ((xpt s0 l0 12 0 (.inl (xk 0))).bind fun s1 => xgd s1 l0 12 (xci (J12_isLive F l0 l1 s1) fun v3 s2 => if v3 = 0 then (some (.inl (some (.inl (xk (-1)))), s2)) else (xci (J12_in F (Int32.toInt64 l2) (lN 1) (40 : Int64) s2) fun v5 s4 => if v5 = 0 then (if (xk (-1)) = (xk (-1)) then (some (.inl (some (.inl (xk (-1)))), s4)) else ((xgr s4 l0 12 2).bind fun v6 => (xai s4 v6 (xk (-1))).bind fun v7 => if v7 = 0 then (if (xk (-1)) = 0 then (some (.inl (some (.inl (xk 0))), s4)) else ((xgr s4 l0 12 15).bind fun v8 => (xgr s4 l0 12 4).bind fun v9 => (xai s4 v9 l1).bind fun v10 => (xai s4 v8 v10).bind fun v11 => if (xk (-1)) = v11 then (some (.inl (some (.inl (xk 0))), s4)) else (xgd s4 l0 12 (xci (J12_leave F l0 (xk (-1)) s4) fun v13 s12 => some (.inl (some (.inl v13)), s12))))) else (some (.inl (some (.inl (xk 0))), s4)))) else ((xgr s4 l0 12 4).bind fun v14 => (xai s4 v14 l1).bind fun v15 => xgd s4 l0 12 (xci (J12_holder F l0 v15 l2 s4) fun v17 s16 => if v17 = (xk (-1)) then (some (.inl (some (.inl (xk (-1)))), s16)) else ((xgr s16 l0 12 2).bind fun v18 => (xai s16 v18 v17).bind fun v19 => if v19 = 0 then (if v17 = 0 then (some (.inl (some (.inl (xk 0))), s16)) else ((xgr s16 l0 12 15).bind fun v20 => (xgr s16 l0 12 4).bind fun v21 => (xai s16 v21 l1).bind fun v22 => (xai s16 v20 v22).bind fun v23 => if v17 = v23 then (some (.inl (some (.inl (xk 0))), s16)) else (xgd s16 l0 12 (xci (J12_leave F l0 v17 s16) fun v25 s24 => some (.inl (some (.inl v25)), s24))))) else (some (.inl (some (.inl (xk 0))), s16)))))))) := rfl
set_option maxRecDepth 100000 in
theorem E12_number (F : Nat) (l0 : Option Nat) (l1 : Int32) (l2 : Int32) (s0 : XH) : J12_number (F + 1) l0 l1 l2 s0 = ((xgi s0 l0 12 13).bind fun v1 => xci (J12_in F (Int32.toInt64 l2) (lN 0) (Int32.toInt64 (v1 - (xk 1))) s0) fun v3 s2 => if v3 = 0 then ((xpt s2 l0 12 0 (.inl (xk 1))).bind fun s4 => (xgi s4 l0 12 0).bind fun v5 => if 0 < v5 then (some (.inl (some (.inl (xk 0))), s4)) else (xgd s4 l0 12 (xci (J12_isTask F l0 l1 s4) fun v7 s6 => if v7 = 0 then (some (.inl (some (.inl (xk (-1)))), s6)) else ((xgr s6 l0 12 12).bind fun v8 => (xai s6 v8 (((xk 20) * l1) + l2)).bind fun v9 => some (.inl (some (.inl v9)), s6))))) else ((xpt s2 l0 12 0 (.inl (xk 0))).bind fun s10 => (xgi s10 l0 12 0).bind fun v11 => if 0 < v11 then (some (.inl (some (.inl (xk 0))), s10)) else (xgd s10 l0 12 (xci (J12_isTask F l0 l1 s10) fun v13 s12 => if v13 = 0 then (some (.inl (some (.inl (xk (-1)))), s12)) else ((xgr s12 l0 12 12).bind fun v14 => (xai s12 v14 (((xk 20) * l1) + l2)).bind fun v15 => some (.inl (some (.inl v15)), s12)))))) := rfl
set_option maxRecDepth 100000 in
theorem E12_find (F : Nat) (l0 : Option Nat) (l1 : Int32) (l2 : Int32) (s0 : XH) : J12_find (F + 1) l0 l1 l2 s0 = ((xgi s0 l0 12 13).bind fun v1 => xci (J12_in F (Int32.toInt64 l1) (lN 0) (Int32.toInt64 (v1 - (xk 1))) s0) fun v3 s2 => if v3 = 0 then ((xpt s2 l0 12 0 (.inl (xk 1))).bind fun s4 => (xgi s4 l0 12 0).bind fun v5 => if 0 < v5 then (some (.inl (some (.inl (xk 0))), s4)) else (xci (J12_in F (Int32.toInt64 l2) (lN 1) (40 : Int64) s4) fun v7 s6 => if v7 = 0 then (some (.inl (some (.inl (xk (-1)))), s6)) else (xgd s6 l0 12 (xci (J12_holder F l0 l1 l2 s6) fun v9 s8 => some (.inl (some (.inl v9)), s8))))) else ((xpt s2 l0 12 0 (.inl (xk 0))).bind fun s10 => (xgi s10 l0 12 0).bind fun v11 => if 0 < v11 then (some (.inl (some (.inl (xk 0))), s10)) else (xci (J12_in F (Int32.toInt64 l2) (lN 1) (40 : Int64) s10) fun v13 s12 => if v13 = 0 then (some (.inl (some (.inl (xk (-1)))), s12)) else (xgd s12 l0 12 (xci (J12_holder F l0 l1 l2 s12) fun v15 s14 => some (.inl (some (.inl v15)), s14)))))) := rfl
set_option maxRecDepth 100000 in
theorem E12_task (F : Nat) (l0 : Option Nat) (l1 : Int32) (l2 : Int32) (s0 : XH) : J12_task (F + 1) l0 l1 l2 s0 = (xci (J12_in F (Int32.toInt64 l2) (lN 0) (7 : Int64) s0) fun v2 s1 => if v2 = 0 then ((xpt s1 l0 12 0 (.inl (xk 1))).bind fun s3 => (xgi s3 l0 12 0).bind fun v4 => if 0 < v4 then (some (.inl (some (.inl (xk 0))), s3)) else (xgd s3 l0 12 (xci (J12_isTask F l0 l1 s3) fun v6 s5 => if v6 = 0 then (some (.inl (some (.inl (xk (-1)))), s5)) else (if l2 = nI 0 then ((xgr s5 l0 12 2).bind fun v7 => (xai s5 v7 l1).bind fun v8 => some (.inl (some (.inl v8)), s5)) else if l2 = nI 1 then ((xgr s5 l0 12 3).bind fun v9 => (xai s5 v9 l1).bind fun v10 => some (.inl (some (.inl v10)), s5)) else if l2 = nI 2 then ((xgr s5 l0 12 4).bind fun v11 => (xai s5 v11 l1).bind fun v12 => some (.inl (some (.inl v12)), s5)) else if l2 = nI 3 then ((xgr s5 l0 12 5).bind fun v13 => (xai s5 v13 l1).bind fun v14 => some (.inl (some (.inl v14)), s5)) else if l2 = nI 4 then ((xgr s5 l0 12 6).bind fun v15 => (xai s5 v15 l1).bind fun v16 => some (.inl (some (.inl v16)), s5)) else if l2 = nI 5 then ((xgr s5 l0 12 7).bind fun v17 => (xai s5 v17 l1).bind fun v18 => some (.inl (some (.inl v18)), s5)) else if l2 = nI 6 then ((xgr s5 l0 12 8).bind fun v19 => (xai s5 v19 l1).bind fun v20 => some (.inl (some (.inl v20)), s5)) else ((xgr s5 l0 12 9).bind fun v21 => (xaz s5 v21 l1).bind fun v22 => if v22 = 0 then (some (.inl (some (.inl (xk 0))), s5)) else (some (.inl (some (.inl (xk 1))), s5))))))) else ((xpt s1 l0 12 0 (.inl (xk 0))).bind fun s23 => (xgi s23 l0 12 0).bind fun v24 => if 0 < v24 then (some (.inl (some (.inl (xk 0))), s23)) else (xgd s23 l0 12 (xci (J12_isTask F l0 l1 s23) fun v26 s25 => if v26 = 0 then (some (.inl (some (.inl (xk (-1)))), s25)) else (if l2 = nI 0 then ((xgr s25 l0 12 2).bind fun v27 => (xai s25 v27 l1).bind fun v28 => some (.inl (some (.inl v28)), s25)) else if l2 = nI 1 then ((xgr s25 l0 12 3).bind fun v29 => (xai s25 v29 l1).bind fun v30 => some (.inl (some (.inl v30)), s25)) else if l2 = nI 2 then ((xgr s25 l0 12 4).bind fun v31 => (xai s25 v31 l1).bind fun v32 => some (.inl (some (.inl v32)), s25)) else if l2 = nI 3 then ((xgr s25 l0 12 5).bind fun v33 => (xai s25 v33 l1).bind fun v34 => some (.inl (some (.inl v34)), s25)) else if l2 = nI 4 then ((xgr s25 l0 12 6).bind fun v35 => (xai s25 v35 l1).bind fun v36 => some (.inl (some (.inl v36)), s25)) else if l2 = nI 5 then ((xgr s25 l0 12 7).bind fun v37 => (xai s25 v37 l1).bind fun v38 => some (.inl (some (.inl v38)), s25)) else if l2 = nI 6 then ((xgr s25 l0 12 8).bind fun v39 => (xai s25 v39 l1).bind fun v40 => some (.inl (some (.inl v40)), s25)) else ((xgr s25 l0 12 9).bind fun v41 => (xaz s25 v41 l1).bind fun v42 => if v42 = 0 then (some (.inl (some (.inl (xk 0))), s25)) else (some (.inl (some (.inl (xk 1))), s25)))))))) := rfl
set_option maxRecDepth 100000 in
theorem E12_count (F : Nat) (l0 : Option Nat) (l1 : Int32) (s0 : XH) : J12_count (F + 1) l0 l1 s0 = (xci (J12_in F (Int32.toInt64 l1) (lN 0) (8 : Int64) s0) fun v2 s1 => if v2 = 0 then ((xpt s1 l0 12 0 (.inl (xk 1))).bind fun s3 => if l1 = nI 0 then ((xgi s3 l0 12 1).bind fun v4 => some (.inl (some (.inl v4)), s3)) else if l1 = nI 1 then (J12_count_83 F (l0) (l1) (xk 0) (xk 0) s3) else if l1 = nI 2 then (J12_count_83 F (l0) (l1) (xk 0) (xk 0) s3) else if l1 = nI 3 then ((xgi s3 l0 12 13).bind fun v5 => some (.inl (some (.inl v5)), s3)) else if l1 = nI 4 then ((xgi s3 l0 12 17).bind fun v6 => some (.inl (some (.inl v6)), s3)) else if l1 = nI 5 then ((xgi s3 l0 12 28).bind fun v7 => some (.inl (some (.inl v7)), s3)) else if l1 = nI 6 then (xgd s3 l0 12 (xci (J12_freeMounts F l0 s3) fun v9 s8 => some (.inl (some (.inl ((xk 80) - v9))), s8))) else if l1 = nI 7 then ((xgi s3 l0 12 26).bind fun v10 => some (.inl (some (.inl v10)), s3)) else if l1 = nI 8 then ((xgi s3 l0 12 27).bind fun v11 => some (.inl (some (.inl v11)), s3)) else (some (.inl (some (.inl (xk 0))), s3))) else ((xpt s1 l0 12 0 (.inl (xk 0))).bind fun s12 => if l1 = nI 0 then ((xgi s12 l0 12 1).bind fun v13 => some (.inl (some (.inl v13)), s12)) else if l1 = nI 1 then (J12_count_83 F (l0) (l1) (xk 0) (xk 0) s12) else if l1 = nI 2 then (J12_count_83 F (l0) (l1) (xk 0) (xk 0) s12) else if l1 = nI 3 then ((xgi s12 l0 12 13).bind fun v14 => some (.inl (some (.inl v14)), s12)) else if l1 = nI 4 then ((xgi s12 l0 12 17).bind fun v15 => some (.inl (some (.inl v15)), s12)) else if l1 = nI 5 then ((xgi s12 l0 12 28).bind fun v16 => some (.inl (some (.inl v16)), s12)) else if l1 = nI 6 then (xgd s12 l0 12 (xci (J12_freeMounts F l0 s12) fun v18 s17 => some (.inl (some (.inl ((xk 80) - v18))), s17))) else if l1 = nI 7 then ((xgi s12 l0 12 26).bind fun v19 => some (.inl (some (.inl v19)), s12)) else if l1 = nI 8 then ((xgi s12 l0 12 27).bind fun v20 => some (.inl (some (.inl v20)), s12)) else (some (.inl (some (.inl (xk 0))), s12)))) := rfl
set_option maxRecDepth 100000 in
theorem E12_count_83 (F : Nat) (l0 : Option Nat) (l1 : Int32) (l2 : Int32) (l3 : Int32) (s0 : XH) : J12_count_83 (F + 1) l0 l1 l2 l3 s0 = ((xgi s0 l0 12 1).bind fun v1 => if l3 < v1 then ((xgr s0 l0 12 2).bind fun v2 => (xai s0 v2 l3).bind fun v3 => if v3 = (l1 - (xk 1)) then (J12_count_83 F (l0) (l1) (l2 + (xk 1)) (l3 + xk 1) s0) else (J12_count_83 F (l0) (l1) (l2 + (xk 0)) (l3 + xk 1) s0)) else (some (.inl (some (.inl l2)), s0))) := rfl
set_option maxRecDepth 100000 in
theorem E12_uses (F : Nat) (l0 : Option Nat) (l1 : Int32) (s0 : XH) : J12_uses (F + 1) l0 l1 s0 = (J12_uses_4 F (l0) (l1) (xk 0) (xk 0) s0) := rfl
set_option maxRecDepth 100000 in
theorem E12_uses_4 (F : Nat) (l0 : Option Nat) (l1 : Int32) (l2 : Int32) (l3 : Int32) (s0 : XH) : J12_uses_4 (F + 1) l0 l1 l2 l3 s0 = ((xgi s0 l0 12 1).bind fun v1 => if l3 < v1 then ((xgr s0 l0 12 2).bind fun v2 => (xai s0 v2 l3).bind fun v3 => if v3 = 0 then ((xgr s0 l0 12 5).bind fun v4 => (xai s0 v4 l3).bind fun v5 => xgd s0 l0 12 (xci (J12_isWithin F l0 v5 l1 s0) fun v7 s6 => if v7 = 0 then (J12_uses_4 F (l0) (l1) (l2 + (xk 0)) (l3 + xk 1) s6) else ((xgr s6 l0 12 7).bind fun v8 => (xai s6 v8 l3).bind fun v9 => J12_uses_4 F (l0) (l1) (l2 + v9) (l3 + xk 1) s6))) else (J12_uses_4 F (l0) (l1) (l2 + (xk 0)) (l3 + xk 1) s0)) else (J12_uses_56 F (l0) (l1) (l2) (xk 0) s0)) := rfl
set_option maxRecDepth 100000 in
theorem E12_uses_56 (F : Nat) (l0 : Option Nat) (l1 : Int32) (l2 : Int32) (l3 : Int32) (s0 : XH) : J12_uses_56 (F + 1) l0 l1 l2 l3 s0 = ((xgi s0 l0 12 17).bind fun v1 => if l3 < v1 then (xgd s0 l0 12 (xci (J12_isWithin F l0 l3 l1 s0) fun v3 s2 => if v3 = 0 then (J12_uses_56 F (l0) (l1) (l2 + (xk 0)) (l3 + xk 1) s2) else ((xgr s2 l0 12 23).bind fun v4 => (xai s2 v4 l3).bind fun v5 => J12_uses_56 F (l0) (l1) (l2 + v5) (l3 + xk 1) s2))) else (some (.inl (some (.inl l2)), s0))) := rfl
set_option maxRecDepth 100000 in
theorem E12_group (F : Nat) (l0 : Option Nat) (l1 : Int32) (s0 : XH) : J12_group (F + 1) l0 l1 s0 = ((xpt s0 l0 12 0 (.inl (xk 0))).bind fun s1 => xgd s1 l0 12 (xci (J12_isGroup F l0 l1 s1) fun v3 s2 => if v3 = 0 then (some (.inl (some (.inl (xk (-1)))), s2)) else ((xgr s2 l0 12 18).bind fun v4 => (xai s2 v4 l1).bind fun v5 => J12_group_24 F (l0) (l1) (xk 1) (v5) s2))) := rfl
set_option maxRecDepth 100000 in
theorem E12_group_24 (F : Nat) (l0 : Option Nat) (l1 : Int32) (l2 : Int32) (l3 : Int32) (s0 : XH) : J12_group_24 (F + 1) l0 l1 l2 l3 s0 = (if l3 = (xk (-1)) then ((xgi s0 l0 12 17).bind fun v1 => if v1 = (xk 20) then (some (.inl (some (.inl (xk (-2)))), s0)) else (if (xk 5) < l2 then (some (.inl (some (.inl (xk (-2)))), s0)) else (xgd s0 l0 12 (xci (J12_newGroup F l0 l1 s0) fun v3 s2 => xgd s2 l0 12 (xcl (J12_leastTime F l0 l1 (xk 1) v3 s2) fun v5 s4 => if 0 < (lg_cmp v5 (lN 0)) then ((xgr s4 l0 12 25).bind fun v6 => (xsl s4 v6 v3 v5).bind fun s7 => some (.inl (some (.inl v3)), s7)) else (some (.inl (some (.inl v3)), s4))))))) else ((xgr s0 l0 12 18).bind fun v8 => (xai s0 v8 l3).bind fun v9 => J12_group_24 F (l0) (l1) (l2 + xk 1) (v9) s0)) := rfl
set_option maxRecDepth 100000 in
theorem E12_set (F : Nat) (l0 : Option Nat) (l1 : Int32) (l2 : Int32) (l3 : Int32) (s0 : XH) : J12_set (F + 1) l0 l1 l2 l3 s0 = (if l2 = 0 then (xci (J12_in F (Int32.toInt64 l3) (lN 0) (1000000 : Int64) s0) fun v2 s1 => xci (J12_in F (Int32.toInt64 l2) (lN 0) (3 : Int64) s1) fun v4 s3 => if v4 = 0 then ((xpt s3 l0 12 0 (.inl (xk 1))).bind fun s5 => (xgi s5 l0 12 0).bind fun v6 => if 0 < v6 then (some (.inl (some (.inl (xk 0))), s5)) else (xgd s5 l0 12 (xci (J12_isGroup F l0 l1 s5) fun v8 s7 => if v8 = 0 then (some (.inl (some (.inl (xk (-1)))), s7)) else (if l2 = 0 then (xgd s7 l0 12 (xci (J12_uses F l0 l1 s7) fun v10 s9 => if l3 < v10 then (some (.inl (some (.inl (xk (-3)))), s9)) else (if l2 = (xk 1) then (xgd s9 l0 12 (xci (J12_liveIn F l0 l1 s9) fun v12 s11 => if l3 < v12 then (some (.inl (some (.inl (xk (-3)))), s11)) else (J12_set_140 F (l0) (l1) (l2) (l3) s11))) else (J12_set_140 F (l0) (l1) (l2) (l3) s9)))) else (if l2 = (xk 1) then (xgd s7 l0 12 (xci (J12_liveIn F l0 l1 s7) fun v14 s13 => if l3 < v14 then (some (.inl (some (.inl (xk (-3)))), s13)) else (J12_set_140 F (l0) (l1) (l2) (l3) s13))) else (J12_set_140 F (l0) (l1) (l2) (l3) s7)))))) else (if v2 = 0 then ((xpt s3 l0 12 0 (.inl (xk 2))).bind fun s15 => (xgi s15 l0 12 0).bind fun v16 => if 0 < v16 then (some (.inl (some (.inl (xk 0))), s15)) else (xgd s15 l0 12 (xci (J12_isGroup F l0 l1 s15) fun v18 s17 => if v18 = 0 then (some (.inl (some (.inl (xk (-1)))), s17)) else (if l2 = 0 then (xgd s17 l0 12 (xci (J12_uses F l0 l1 s17) fun v20 s19 => if l3 < v20 then (some (.inl (some (.inl (xk (-3)))), s19)) else (if l2 = (xk 1) then (xgd s19 l0 12 (xci (J12_liveIn F l0 l1 s19) fun v22 s21 => if l3 < v22 then (some (.inl (some (.inl (xk (-3)))), s21)) else (J12_set_140 F (l0) (l1) (l2) (l3) s21))) else (J12_set_140 F (l0) (l1) (l2) (l3) s19)))) else (if l2 = (xk 1) then (xgd s17 l0 12 (xci (J12_liveIn F l0 l1 s17) fun v24 s23 => if l3 < v24 then (some (.inl (some (.inl (xk (-3)))), s23)) else (J12_set_140 F (l0) (l1) (l2) (l3) s23))) else (J12_set_140 F (l0) (l1) (l2) (l3) s17)))))) else ((xpt s3 l0 12 0 (.inl (xk 0))).bind fun s25 => (xgi s25 l0 12 0).bind fun v26 => if 0 < v26 then (some (.inl (some (.inl (xk 0))), s25)) else (xgd s25 l0 12 (xci (J12_isGroup F l0 l1 s25) fun v28 s27 => if v28 = 0 then (some (.inl (some (.inl (xk (-1)))), s27)) else (if l2 = 0 then (xgd s27 l0 12 (xci (J12_uses F l0 l1 s27) fun v30 s29 => if l3 < v30 then (some (.inl (some (.inl (xk (-3)))), s29)) else (if l2 = (xk 1) then (xgd s29 l0 12 (xci (J12_liveIn F l0 l1 s29) fun v32 s31 => if l3 < v32 then (some (.inl (some (.inl (xk (-3)))), s31)) else (J12_set_140 F (l0) (l1) (l2) (l3) s31))) else (J12_set_140 F (l0) (l1) (l2) (l3) s29)))) else (if l2 = (xk 1) then (xgd s27 l0 12 (xci (J12_liveIn F l0 l1 s27) fun v34 s33 => if l3 < v34 then (some (.inl (some (.inl (xk (-3)))), s33)) else (J12_set_140 F (l0) (l1) (l2) (l3) s33))) else (J12_set_140 F (l0) (l1) (l2) (l3) s27)))))))) else (if l2 = (xk 1) then (xci (J12_in F (Int32.toInt64 l3) (lN 0) (150 : Int64) s0) fun v36 s35 => xci (J12_in F (Int32.toInt64 l2) (lN 0) (3 : Int64) s35) fun v38 s37 => if v38 = 0 then ((xpt s37 l0 12 0 (.inl (xk 1))).bind fun s39 => (xgi s39 l0 12 0).bind fun v40 => if 0 < v40 then (some (.inl (some (.inl (xk 0))), s39)) else (xgd s39 l0 12 (xci (J12_isGroup F l0 l1 s39) fun v42 s41 => if v42 = 0 then (some (.inl (some (.inl (xk (-1)))), s41)) else (if l2 = 0 then (xgd s41 l0 12 (xci (J12_uses F l0 l1 s41) fun v44 s43 => if l3 < v44 then (some (.inl (some (.inl (xk (-3)))), s43)) else (if l2 = (xk 1) then (xgd s43 l0 12 (xci (J12_liveIn F l0 l1 s43) fun v46 s45 => if l3 < v46 then (some (.inl (some (.inl (xk (-3)))), s45)) else (J12_set_140 F (l0) (l1) (l2) (l3) s45))) else (J12_set_140 F (l0) (l1) (l2) (l3) s43)))) else (if l2 = (xk 1) then (xgd s41 l0 12 (xci (J12_liveIn F l0 l1 s41) fun v48 s47 => if l3 < v48 then (some (.inl (some (.inl (xk (-3)))), s47)) else (J12_set_140 F (l0) (l1) (l2) (l3) s47))) else (J12_set_140 F (l0) (l1) (l2) (l3) s41)))))) else (if v36 = 0 then ((xpt s37 l0 12 0 (.inl (xk 2))).bind fun s49 => (xgi s49 l0 12 0).bind fun v50 => if 0 < v50 then (some (.inl (some (.inl (xk 0))), s49)) else (xgd s49 l0 12 (xci (J12_isGroup F l0 l1 s49) fun v52 s51 => if v52 = 0 then (some (.inl (some (.inl (xk (-1)))), s51)) else (if l2 = 0 then (xgd s51 l0 12 (xci (J12_uses F l0 l1 s51) fun v54 s53 => if l3 < v54 then (some (.inl (some (.inl (xk (-3)))), s53)) else (if l2 = (xk 1) then (xgd s53 l0 12 (xci (J12_liveIn F l0 l1 s53) fun v56 s55 => if l3 < v56 then (some (.inl (some (.inl (xk (-3)))), s55)) else (J12_set_140 F (l0) (l1) (l2) (l3) s55))) else (J12_set_140 F (l0) (l1) (l2) (l3) s53)))) else (if l2 = (xk 1) then (xgd s51 l0 12 (xci (J12_liveIn F l0 l1 s51) fun v58 s57 => if l3 < v58 then (some (.inl (some (.inl (xk (-3)))), s57)) else (J12_set_140 F (l0) (l1) (l2) (l3) s57))) else (J12_set_140 F (l0) (l1) (l2) (l3) s51)))))) else ((xpt s37 l0 12 0 (.inl (xk 0))).bind fun s59 => (xgi s59 l0 12 0).bind fun v60 => if 0 < v60 then (some (.inl (some (.inl (xk 0))), s59)) else (xgd s59 l0 12 (xci (J12_isGroup F l0 l1 s59) fun v62 s61 => if v62 = 0 then (some (.inl (some (.inl (xk (-1)))), s61)) else (if l2 = 0 then (xgd s61 l0 12 (xci (J12_uses F l0 l1 s61) fun v64 s63 => if l3 < v64 then (some (.inl (some (.inl (xk (-3)))), s63)) else (if l2 = (xk 1) then (xgd s63 l0 12 (xci (J12_liveIn F l0 l1 s63) fun v66 s65 => if l3 < v66 then (some (.inl (some (.inl (xk (-3)))), s65)) else (J12_set_140 F (l0) (l1) (l2) (l3) s65))) else (J12_set_140 F (l0) (l1) (l2) (l3) s63)))) else (if l2 = (xk 1) then (xgd s61 l0 12 (xci (J12_liveIn F l0 l1 s61) fun v68 s67 => if l3 < v68 then (some (.inl (some (.inl (xk (-3)))), s67)) else (J12_set_140 F (l0) (l1) (l2) (l3) s67))) else (J12_set_140 F (l0) (l1) (l2) (l3) s61)))))))) else (if l2 = (xk 2) then (xci (J12_in F (Int32.toInt64 l3) (lN 1) (1000 : Int64) s0) fun v70 s69 => xci (J12_in F (Int32.toInt64 l2) (lN 0) (3 : Int64) s69) fun v72 s71 => if v72 = 0 then ((xpt s71 l0 12 0 (.inl (xk 1))).bind fun s73 => (xgi s73 l0 12 0).bind fun v74 => if 0 < v74 then (some (.inl (some (.inl (xk 0))), s73)) else (xgd s73 l0 12 (xci (J12_isGroup F l0 l1 s73) fun v76 s75 => if v76 = 0 then (some (.inl (some (.inl (xk (-1)))), s75)) else (if l2 = 0 then (xgd s75 l0 12 (xci (J12_uses F l0 l1 s75) fun v78 s77 => if l3 < v78 then (some (.inl (some (.inl (xk (-3)))), s77)) else (if l2 = (xk 1) then (xgd s77 l0 12 (xci (J12_liveIn F l0 l1 s77) fun v80 s79 => if l3 < v80 then (some (.inl (some (.inl (xk (-3)))), s79)) else (J12_set_140 F (l0) (l1) (l2) (l3) s79))) else (J12_set_140 F (l0) (l1) (l2) (l3) s77)))) else (if l2 = (xk 1) then (xgd s75 l0 12 (xci (J12_liveIn F l0 l1 s75) fun v82 s81 => if l3 < v82 then (some (.inl (some (.inl (xk (-3)))), s81)) else (J12_set_140 F (l0) (l1) (l2) (l3) s81))) else (J12_set_140 F (l0) (l1) (l2) (l3) s75)))))) else (if v70 = 0 then ((xpt s71 l0 12 0 (.inl (xk 2))).bind fun s83 => (xgi s83 l0 12 0).bind fun v84 => if 0 < v84 then (some (.inl (some (.inl (xk 0))), s83)) else (xgd s83 l0 12 (xci (J12_isGroup F l0 l1 s83) fun v86 s85 => if v86 = 0 then (some (.inl (some (.inl (xk (-1)))), s85)) else (if l2 = 0 then (xgd s85 l0 12 (xci (J12_uses F l0 l1 s85) fun v88 s87 => if l3 < v88 then (some (.inl (some (.inl (xk (-3)))), s87)) else (if l2 = (xk 1) then (xgd s87 l0 12 (xci (J12_liveIn F l0 l1 s87) fun v90 s89 => if l3 < v90 then (some (.inl (some (.inl (xk (-3)))), s89)) else (J12_set_140 F (l0) (l1) (l2) (l3) s89))) else (J12_set_140 F (l0) (l1) (l2) (l3) s87)))) else (if l2 = (xk 1) then (xgd s85 l0 12 (xci (J12_liveIn F l0 l1 s85) fun v92 s91 => if l3 < v92 then (some (.inl (some (.inl (xk (-3)))), s91)) else (J12_set_140 F (l0) (l1) (l2) (l3) s91))) else (J12_set_140 F (l0) (l1) (l2) (l3) s85)))))) else ((xpt s71 l0 12 0 (.inl (xk 0))).bind fun s93 => (xgi s93 l0 12 0).bind fun v94 => if 0 < v94 then (some (.inl (some (.inl (xk 0))), s93)) else (xgd s93 l0 12 (xci (J12_isGroup F l0 l1 s93) fun v96 s95 => if v96 = 0 then (some (.inl (some (.inl (xk (-1)))), s95)) else (if l2 = 0 then (xgd s95 l0 12 (xci (J12_uses F l0 l1 s95) fun v98 s97 => if l3 < v98 then (some (.inl (some (.inl (xk (-3)))), s97)) else (if l2 = (xk 1) then (xgd s97 l0 12 (xci (J12_liveIn F l0 l1 s97) fun v100 s99 => if l3 < v100 then (some (.inl (some (.inl (xk (-3)))), s99)) else (J12_set_140 F (l0) (l1) (l2) (l3) s99))) else (J12_set_140 F (l0) (l1) (l2) (l3) s97)))) else (if l2 = (xk 1) then (xgd s95 l0 12 (xci (J12_liveIn F l0 l1 s95) fun v102 s101 => if l3 < v102 then (some (.inl (some (.inl (xk (-3)))), s101)) else (J12_set_140 F (l0) (l1) (l2) (l3) s101))) else (J12_set_140 F (l0) (l1) (l2) (l3) s95)))))))) else (xci (J12_in F (Int32.toInt64 l3) (lN 0) (20 : Int64) s0) fun v104 s103 => xci (J12_in F (Int32.toInt64 l2) (lN 0) (3 : Int64) s103) fun v106 s105 => if v106 = 0 then ((xpt s105 l0 12 0 (.inl (xk 1))).bind fun s107 => (xgi s107 l0 12 0).bind fun v108 => if 0 < v108 then (some (.inl (some (.inl (xk 0))), s107)) else (xgd s107 l0 12 (xci (J12_isGroup F l0 l1 s107) fun v110 s109 => if v110 = 0 then (some (.inl (some (.inl (xk (-1)))), s109)) else (if l2 = 0 then (xgd s109 l0 12 (xci (J12_uses F l0 l1 s109) fun v112 s111 => if l3 < v112 then (some (.inl (some (.inl (xk (-3)))), s111)) else (if l2 = (xk 1) then (xgd s111 l0 12 (xci (J12_liveIn F l0 l1 s111) fun v114 s113 => if l3 < v114 then (some (.inl (some (.inl (xk (-3)))), s113)) else (J12_set_140 F (l0) (l1) (l2) (l3) s113))) else (J12_set_140 F (l0) (l1) (l2) (l3) s111)))) else (if l2 = (xk 1) then (xgd s109 l0 12 (xci (J12_liveIn F l0 l1 s109) fun v116 s115 => if l3 < v116 then (some (.inl (some (.inl (xk (-3)))), s115)) else (J12_set_140 F (l0) (l1) (l2) (l3) s115))) else (J12_set_140 F (l0) (l1) (l2) (l3) s109)))))) else (if v104 = 0 then ((xpt s105 l0 12 0 (.inl (xk 2))).bind fun s117 => (xgi s117 l0 12 0).bind fun v118 => if 0 < v118 then (some (.inl (some (.inl (xk 0))), s117)) else (xgd s117 l0 12 (xci (J12_isGroup F l0 l1 s117) fun v120 s119 => if v120 = 0 then (some (.inl (some (.inl (xk (-1)))), s119)) else (if l2 = 0 then (xgd s119 l0 12 (xci (J12_uses F l0 l1 s119) fun v122 s121 => if l3 < v122 then (some (.inl (some (.inl (xk (-3)))), s121)) else (if l2 = (xk 1) then (xgd s121 l0 12 (xci (J12_liveIn F l0 l1 s121) fun v124 s123 => if l3 < v124 then (some (.inl (some (.inl (xk (-3)))), s123)) else (J12_set_140 F (l0) (l1) (l2) (l3) s123))) else (J12_set_140 F (l0) (l1) (l2) (l3) s121)))) else (if l2 = (xk 1) then (xgd s119 l0 12 (xci (J12_liveIn F l0 l1 s119) fun v126 s125 => if l3 < v126 then (some (.inl (some (.inl (xk (-3)))), s125)) else (J12_set_140 F (l0) (l1) (l2) (l3) s125))) else (J12_set_140 F (l0) (l1) (l2) (l3) s119)))))) else ((xpt s105 l0 12 0 (.inl (xk 0))).bind fun s127 => (xgi s127 l0 12 0).bind fun v128 => if 0 < v128 then (some (.inl (some (.inl (xk 0))), s127)) else (xgd s127 l0 12 (xci (J12_isGroup F l0 l1 s127) fun v130 s129 => if v130 = 0 then (some (.inl (some (.inl (xk (-1)))), s129)) else (if l2 = 0 then (xgd s129 l0 12 (xci (J12_uses F l0 l1 s129) fun v132 s131 => if l3 < v132 then (some (.inl (some (.inl (xk (-3)))), s131)) else (if l2 = (xk 1) then (xgd s131 l0 12 (xci (J12_liveIn F l0 l1 s131) fun v134 s133 => if l3 < v134 then (some (.inl (some (.inl (xk (-3)))), s133)) else (J12_set_140 F (l0) (l1) (l2) (l3) s133))) else (J12_set_140 F (l0) (l1) (l2) (l3) s131)))) else (if l2 = (xk 1) then (xgd s129 l0 12 (xci (J12_liveIn F l0 l1 s129) fun v136 s135 => if l3 < v136 then (some (.inl (some (.inl (xk (-3)))), s135)) else (J12_set_140 F (l0) (l1) (l2) (l3) s135))) else (J12_set_140 F (l0) (l1) (l2) (l3) s129))))))))))) := rfl
set_option maxRecDepth 100000 in
theorem E12_set_140 (F : Nat) (l0 : Option Nat) (l1 : Int32) (l2 : Int32) (l3 : Int32) (s0 : XH) : J12_set_140 (F + 1) l0 l1 l2 l3 s0 = (if l2 = 0 then ((xgr s0 l0 12 20).bind fun v1 => (xai s0 v1 l1).bind fun v2 => if l2 = 0 then ((xgr s0 l0 12 20).bind fun v3 => (xsi s0 v3 l1 l3).bind fun s4 => some (.inl (some (.inl v2)), s4)) else (if l2 = (xk 1) then ((xgr s0 l0 12 19).bind fun v5 => (xsi s0 v5 l1 l3).bind fun s6 => some (.inl (some (.inl v2)), s6)) else (if l2 = (xk 2) then ((xgr s0 l0 12 21).bind fun v7 => (xsi s0 v7 l1 l3).bind fun s8 => some (.inl (some (.inl v2)), s8)) else ((xgr s0 l0 12 22).bind fun v9 => (xsi s0 v9 l1 l3).bind fun s10 => some (.inl (some (.inl v2)), s10))))) else (if l2 = (xk 1) then ((xgr s0 l0 12 19).bind fun v11 => (xai s0 v11 l1).bind fun v12 => if l2 = 0 then ((xgr s0 l0 12 20).bind fun v13 => (xsi s0 v13 l1 l3).bind fun s14 => some (.inl (some (.inl v12)), s14)) else (if l2 = (xk 1) then ((xgr s0 l0 12 19).bind fun v15 => (xsi s0 v15 l1 l3).bind fun s16 => some (.inl (some (.inl v12)), s16)) else (if l2 = (xk 2) then ((xgr s0 l0 12 21).bind fun v17 => (xsi s0 v17 l1 l3).bind fun s18 => some (.inl (some (.inl v12)), s18)) else ((xgr s0 l0 12 22).bind fun v19 => (xsi s0 v19 l1 l3).bind fun s20 => some (.inl (some (.inl v12)), s20))))) else (if l2 = (xk 2) then ((xgr s0 l0 12 21).bind fun v21 => (xai s0 v21 l1).bind fun v22 => if l2 = 0 then ((xgr s0 l0 12 20).bind fun v23 => (xsi s0 v23 l1 l3).bind fun s24 => some (.inl (some (.inl v22)), s24)) else (if l2 = (xk 1) then ((xgr s0 l0 12 19).bind fun v25 => (xsi s0 v25 l1 l3).bind fun s26 => some (.inl (some (.inl v22)), s26)) else (if l2 = (xk 2) then ((xgr s0 l0 12 21).bind fun v27 => (xsi s0 v27 l1 l3).bind fun s28 => some (.inl (some (.inl v22)), s28)) else ((xgr s0 l0 12 22).bind fun v29 => (xsi s0 v29 l1 l3).bind fun s30 => some (.inl (some (.inl v22)), s30))))) else ((xgr s0 l0 12 22).bind fun v31 => (xai s0 v31 l1).bind fun v32 => if l2 = 0 then ((xgr s0 l0 12 20).bind fun v33 => (xsi s0 v33 l1 l3).bind fun s34 => some (.inl (some (.inl v32)), s34)) else (if l2 = (xk 1) then ((xgr s0 l0 12 19).bind fun v35 => (xsi s0 v35 l1 l3).bind fun s36 => some (.inl (some (.inl v32)), s36)) else (if l2 = (xk 2) then ((xgr s0 l0 12 21).bind fun v37 => (xsi s0 v37 l1 l3).bind fun s38 => some (.inl (some (.inl v32)), s38)) else ((xgr s0 l0 12 22).bind fun v39 => (xsi s0 v39 l1 l3).bind fun s40 => some (.inl (some (.inl v32)), s40)))))))) := rfl
set_option maxRecDepth 100000 in
theorem E12_told (F : Nat) (l0 : Option Nat) (l1 : Int32) (l2 : Int32) (s0 : XH) : J12_told (F + 1) l0 l1 l2 s0 = (xci (J12_in F (Int32.toInt64 l2) (lN 0) (8 : Int64) s0) fun v2 s1 => if v2 = 0 then ((xpt s1 l0 12 0 (.inl (xk 1))).bind fun s3 => (xgi s3 l0 12 0).bind fun v4 => if 0 < v4 then (some (.inl (some (.inl (xk 0))), s3)) else (xgd s3 l0 12 (xci (J12_isGroup F l0 l1 s3) fun v6 s5 => if v6 = 0 then (some (.inl (some (.inl (xk (-1)))), s5)) else (if l2 = nI 0 then (xgd s5 l0 12 (xci (J12_uses F l0 l1 s5) fun v8 s7 => some (.inl (some (.inl v8)), s7))) else if l2 = nI 1 then (xgd s5 l0 12 (xci (J12_liveIn F l0 l1 s5) fun v10 s9 => some (.inl (some (.inl v10)), s9))) else if l2 = nI 2 then ((xgr s5 l0 12 23).bind fun v11 => (xai s5 v11 l1).bind fun v12 => some (.inl (some (.inl v12)), s5)) else if l2 = nI 3 then ((xgr s5 l0 12 20).bind fun v13 => (xai s5 v13 l1).bind fun v14 => some (.inl (some (.inl v14)), s5)) else if l2 = nI 4 then ((xgr s5 l0 12 19).bind fun v15 => (xai s5 v15 l1).bind fun v16 => some (.inl (some (.inl v16)), s5)) else if l2 = nI 5 then ((xgr s5 l0 12 21).bind fun v17 => (xai s5 v17 l1).bind fun v18 => some (.inl (some (.inl v18)), s5)) else if l2 = nI 6 then ((xgr s5 l0 12 22).bind fun v19 => (xai s5 v19 l1).bind fun v20 => some (.inl (some (.inl v20)), s5)) else if l2 = nI 7 then ((xgr s5 l0 12 24).bind fun v21 => (xai s5 v21 l1).bind fun v22 => some (.inl (some (.inl v22)), s5)) else ((xgr s5 l0 12 18).bind fun v23 => (xai s5 v23 l1).bind fun v24 => some (.inl (some (.inl v24)), s5)))))) else ((xpt s1 l0 12 0 (.inl (xk 0))).bind fun s25 => (xgi s25 l0 12 0).bind fun v26 => if 0 < v26 then (some (.inl (some (.inl (xk 0))), s25)) else (xgd s25 l0 12 (xci (J12_isGroup F l0 l1 s25) fun v28 s27 => if v28 = 0 then (some (.inl (some (.inl (xk (-1)))), s27)) else (if l2 = nI 0 then (xgd s27 l0 12 (xci (J12_uses F l0 l1 s27) fun v30 s29 => some (.inl (some (.inl v30)), s29))) else if l2 = nI 1 then (xgd s27 l0 12 (xci (J12_liveIn F l0 l1 s27) fun v32 s31 => some (.inl (some (.inl v32)), s31))) else if l2 = nI 2 then ((xgr s27 l0 12 23).bind fun v33 => (xai s27 v33 l1).bind fun v34 => some (.inl (some (.inl v34)), s27)) else if l2 = nI 3 then ((xgr s27 l0 12 20).bind fun v35 => (xai s27 v35 l1).bind fun v36 => some (.inl (some (.inl v36)), s27)) else if l2 = nI 4 then ((xgr s27 l0 12 19).bind fun v37 => (xai s27 v37 l1).bind fun v38 => some (.inl (some (.inl v38)), s27)) else if l2 = nI 5 then ((xgr s27 l0 12 21).bind fun v39 => (xai s27 v39 l1).bind fun v40 => some (.inl (some (.inl v40)), s27)) else if l2 = nI 6 then ((xgr s27 l0 12 22).bind fun v41 => (xai s27 v41 l1).bind fun v42 => some (.inl (some (.inl v42)), s27)) else if l2 = nI 7 then ((xgr s27 l0 12 24).bind fun v43 => (xai s27 v43 l1).bind fun v44 => some (.inl (some (.inl v44)), s27)) else ((xgr s27 l0 12 18).bind fun v45 => (xai s27 v45 l1).bind fun v46 => some (.inl (some (.inl v46)), s27))))))) := rfl
set_option maxRecDepth 100000 in
theorem E12_tooFull (F : Nat) (l0 : Option Nat) (l1 : Int32) (l2 : Int32) (s0 : XH) : J12_tooFull (F + 1) l0 l1 l2 s0 = (J12_tooFull_2 F (l0) (l2) (l1) s0) := rfl
set_option maxRecDepth 100000 in
theorem E12_tooFull_2 (F : Nat) (l0 : Option Nat) (l2 : Int32) (l3 : Int32) (s0 : XH) : J12_tooFull_2 (F + 1) l0 l2 l3 s0 = (if l3 = (xk (-1)) then (some (.inl (some (.inl l3)), s0)) else (xgd s0 l0 12 (xci (J12_uses F l0 l3 s0) fun v2 s1 => (xgr s1 l0 12 20).bind fun v3 => (xai s1 v3 l3).bind fun v4 => if v4 < (v2 + l2) then (some (.inl (some (.inl l3)), s1)) else ((xgr s1 l0 12 18).bind fun v5 => (xai s1 v5 l3).bind fun v6 => J12_tooFull_2 F (l0) (l2) (v6) s1)))) := rfl
set_option maxRecDepth 100000 in
theorem E12_takeCache (F : Nat) (l0 : Option Nat) (l1 : Int32) (l2 : Int32) (s0 : XH) : J12_takeCache (F + 1) l0 l1 l2 s0 = (xgd s0 l0 12 (xci (J12_uses F l0 l1 s0) fun v2 s1 => (xgr s1 l0 12 20).bind fun v3 => (xai s1 v3 l1).bind fun v4 => J12_takeCache_15 F (l0) (l1) ((v2 + l2) - v4) s1)) := rfl
set_option maxRecDepth 100000 in
theorem E12_takeCache_15 (F : Nat) (l0 : Option Nat) (l1 : Int32) (l3 : Int32) (s0 : XH) : J12_takeCache_15 (F + 1) l0 l1 l3 s0 = (if 0 < l3 then (J12_takeCache_25 F (l0) (l1) (l3) (xk (-1)) (xk 0) s0) else (some (.inl none, s0))) := rfl
set_option maxRecDepth 100000 in
theorem E12_takeCache_25 (F : Nat) (l0 : Option Nat) (l1 : Int32) (l3 : Int32) (l4 : Int32) (l5 : Int32) (s0 : XH) : J12_takeCache_25 (F + 1) l0 l1 l3 l4 l5 s0 = ((xgi s0 l0 12 17).bind fun v1 => if l5 < v1 then (xgd s0 l0 12 (xci (J12_isWithin F l0 l5 l1 s0) fun v3 s2 => if v3 = 0 then (J12_takeCache_25 F (l0) (l1) (l3) (l4) (l5 + xk 1) s2) else ((xgr s2 l0 12 23).bind fun v4 => (xai s2 v4 l5).bind fun v5 => if 0 < v5 then (if l4 = (xk (-1)) then (J12_takeCache_25 F (l0) (l1) (l3) (l5) (l5 + xk 1) s2) else ((xgr s2 l0 12 23).bind fun v6 => (xai s2 v6 l5).bind fun v7 => (xgr s2 l0 12 23).bind fun v8 => (xai s2 v8 l4).bind fun v9 => if v9 < v7 then (J12_takeCache_25 F (l0) (l1) (l3) (l5) (l5 + xk 1) s2) else (J12_takeCache_25 F (l0) (l1) (l3) (l4) (l5 + xk 1) s2))) else (J12_takeCache_25 F (l0) (l1) (l3) (l4) (l5 + xk 1) s2)))) else (if l4 = (xk (-1)) then (some (.inl none, s0)) else ((xgr s0 l0 12 23).bind fun v10 => (xai s0 v10 l4).bind fun v11 => if v11 < l3 then ((xgr s0 l0 12 23).bind fun v12 => (xai s0 v12 l4).bind fun v13 => (xgr s0 l0 12 23).bind fun v14 => (xai s0 v14 l4).bind fun v15 => (xsi s0 v14 l4 (v15 - v13)).bind fun s16 => J12_takeCache_15 F (l0) (l1) (l3 - v13) s16) else ((xgr s0 l0 12 23).bind fun v17 => (xai s0 v17 l4).bind fun v18 => (xsi s0 v17 l4 (v18 - l3)).bind fun s19 => J12_takeCache_15 F (l0) (l1) (l3 - l3) s19)))) := rfl
set_option maxRecDepth 100000 in
theorem E12_victim (F : Nat) (l0 : Option Nat) (l1 : Int32) (s0 : XH) : J12_victim (F + 1) l0 l1 s0 = (J12_victim_4 F (l0) (l1) (xk (-1)) (xk 1) s0) := rfl
set_option maxRecDepth 100000 in
theorem E12_victim_4 (F : Nat) (l0 : Option Nat) (l1 : Int32) (l2 : Int32) (l3 : Int32) (s0 : XH) : J12_victim_4 (F + 1) l0 l1 l2 l3 s0 = ((xgi s0 l0 12 1).bind fun v1 => if l3 < v1 then ((xgr s0 l0 12 2).bind fun v2 => (xai s0 v2 l3).bind fun v3 => if v3 = 0 then ((xgr s0 l0 12 8).bind fun v4 => (xai s0 v4 l3).bind fun v5 => if v5 = (xk (-10)) then (J12_victim_4 F (l0) (l1) (l2) (l3 + xk 1) s0) else ((xgr s0 l0 12 5).bind fun v6 => (xai s0 v6 l3).bind fun v7 => xgd s0 l0 12 (xci (J12_isWithin F l0 v7 l1 s0) fun v9 s8 => if v9 = 0 then (J12_victim_4 F (l0) (l1) (l2) (l3 + xk 1) s8) else (if l2 = (xk (-1)) then (J12_victim_4 F (l0) (l1) (l3) (l3 + xk 1) s8) else ((xgr s8 l0 12 7).bind fun v10 => (xai s8 v10 l3).bind fun v11 => (xgr s8 l0 12 8).bind fun v12 => (xai s8 v12 l3).bind fun v13 => (xgr s8 l0 12 7).bind fun v14 => (xai s8 v14 l2).bind fun v15 => (xgr s8 l0 12 8).bind fun v16 => (xai s8 v16 l2).bind fun v17 => if (v11 + ((xk 100) * v13)) < (v15 + ((xk 100) * v17)) then (J12_victim_4 F (l0) (l1) (l2) (l3 + xk 1) s8) else (J12_victim_4 F (l0) (l1) (l3) (l3 + xk 1) s8)))))) else (J12_victim_4 F (l0) (l1) (l2) (l3 + xk 1) s0)) else (some (.inl (some (.inl l2)), s0))) := rfl
set_option maxRecDepth 100000 in
theorem E12_makeRoom (F : Nat) (l0 : Option Nat) (l1 : Int32) (l2 : Int32) (s0 : XH) : J12_makeRoom (F + 1) l0 l1 l2 s0 = ((xgr s0 l0 12 5).bind fun v1 => (xai s0 v1 l1).bind fun v2 => xgd s0 l0 12 (xci (J12_tooFull F l0 v2 l2 s0) fun v4 s3 => J12_makeRoom_15 F (l0) (l1) (l2) (v2) (v4) s3)) := rfl
set_option maxRecDepth 100000 in
theorem E12_makeRoom_15 (F : Nat) (l0 : Option Nat) (l1 : Int32) (l2 : Int32) (l3 : Int32) (l4 : Int32) (s0 : XH) : J12_makeRoom_15 (F + 1) l0 l1 l2 l3 l4 s0 = (if l4 = (xk (-1)) then (some (.inl (some (.inl (xk 0))), s0)) else (xgd s0 l0 12 (xcv (J12_takeCache F l0 l4 l2 s0) fun s1 => J12_makeRoom_28 F (l0) (l1) (l2) (l3) (l4) s1))) := rfl
set_option maxRecDepth 100000 in
theorem E12_makeRoom_28 (F : Nat) (l0 : Option Nat) (l1 : Int32) (l2 : Int32) (l3 : Int32) (l4 : Int32) (s0 : XH) : J12_makeRoom_28 (F + 1) l0 l1 l2 l3 l4 s0 = (xgd s0 l0 12 (xci (J12_uses F l0 l4 s0) fun v2 s1 => (xgr s1 l0 12 20).bind fun v3 => (xai s1 v3 l4).bind fun v4 => if v4 < (v2 + l2) then (xgd s1 l0 12 (xci (J12_victim F l0 l4 s1) fun v6 s5 => if v6 = (xk (-1)) then (some (.inl (some (.inl (xk (-3)))), s5)) else ((xgi s5 l0 12 27).bind fun v7 => (xpt s5 l0 12 27 (.inl (v7 + (xk 1)))).bind fun s8 => xgd s8 l0 12 (xci (J12_leave F l0 v6 s8) fun v10 s9 => (xgr s9 l0 12 2).bind fun v11 => (xai s9 v11 l1).bind fun v12 => if v12 = 0 then (J12_makeRoom_28 F (l0) (l1) (l2) (l3) (l4) s9) else (some (.inl (some (.inl (xk (-5)))), s9)))))) else (xgd s1 l0 12 (xci (J12_tooFull F l0 l3 l2 s1) fun v14 s13 => J12_makeRoom_15 F (l0) (l1) (l2) (l3) (v14) s13)))) := rfl
set_option maxRecDepth 100000 in
theorem E12_charge (F : Nat) (l0 : Option Nat) (l1 : Int32) (l2 : Int32) (s0 : XH) : J12_charge (F + 1) l0 l1 l2 s0 = (xci (J12_in F (Int32.toInt64 l2) (lN 0) (1000000 : Int64) s0) fun v2 s1 => if v2 = 0 then ((xpt s1 l0 12 0 (.inl (xk 1))).bind fun s3 => (xgi s3 l0 12 0).bind fun v4 => if 0 < v4 then (some (.inl (some (.inl (xk 0))), s3)) else (xgd s3 l0 12 (xci (J12_isLive F l0 l1 s3) fun v6 s5 => if v6 = 0 then (some (.inl (some (.inl (xk (-1)))), s5)) else (xgd s5 l0 12 (xci (J12_makeRoom F l0 l1 l2 s5) fun v8 s7 => if v8 < 0 then (some (.inl (some (.inl v8)), s7)) else ((xgr s7 l0 12 7).bind fun v9 => (xai s7 v9 l1).bind fun v10 => (xsi s7 v9 l1 (v10 + l2)).bind fun s11 => (xgr s11 l0 12 7).bind fun v12 => (xai s11 v12 l1).bind fun v13 => some (.inl (some (.inl v13)), s11))))))) else ((xpt s1 l0 12 0 (.inl (xk 0))).bind fun s14 => (xgi s14 l0 12 0).bind fun v15 => if 0 < v15 then (some (.inl (some (.inl (xk 0))), s14)) else (xgd s14 l0 12 (xci (J12_isLive F l0 l1 s14) fun v17 s16 => if v17 = 0 then (some (.inl (some (.inl (xk (-1)))), s16)) else (xgd s16 l0 12 (xci (J12_makeRoom F l0 l1 l2 s16) fun v19 s18 => if v19 < 0 then (some (.inl (some (.inl v19)), s18)) else ((xgr s18 l0 12 7).bind fun v20 => (xai s18 v20 l1).bind fun v21 => (xsi s18 v20 l1 (v21 + l2)).bind fun s22 => (xgr s22 l0 12 7).bind fun v23 => (xai s22 v23 l1).bind fun v24 => some (.inl (some (.inl v24)), s22)))))))) := rfl
set_option maxRecDepth 100000 in
theorem E12_release (F : Nat) (l0 : Option Nat) (l1 : Int32) (l2 : Int32) (s0 : XH) : J12_release (F + 1) l0 l1 l2 s0 = (if l2 < 0 then ((xpt s0 l0 12 0 (.inl (xk 1))).bind fun s1 => (xgi s1 l0 12 0).bind fun v2 => if 0 < v2 then (some (.inl (some (.inl (xk 0))), s1)) else (xgd s1 l0 12 (xci (J12_isLive F l0 l1 s1) fun v4 s3 => if v4 = 0 then (some (.inl (some (.inl (xk (-1)))), s3)) else ((xgr s3 l0 12 7).bind fun v5 => (xai s3 v5 l1).bind fun v6 => if v6 < l2 then (some (.inl (some (.inl (xk (-3)))), s3)) else ((xgr s3 l0 12 7).bind fun v7 => (xai s3 v7 l1).bind fun v8 => (xsi s3 v7 l1 (v8 - l2)).bind fun s9 => (xgr s9 l0 12 7).bind fun v10 => (xai s9 v10 l1).bind fun v11 => some (.inl (some (.inl v11)), s9)))))) else ((xpt s0 l0 12 0 (.inl (xk 0))).bind fun s12 => (xgi s12 l0 12 0).bind fun v13 => if 0 < v13 then (some (.inl (some (.inl (xk 0))), s12)) else (xgd s12 l0 12 (xci (J12_isLive F l0 l1 s12) fun v15 s14 => if v15 = 0 then (some (.inl (some (.inl (xk (-1)))), s14)) else ((xgr s14 l0 12 7).bind fun v16 => (xai s14 v16 l1).bind fun v17 => if v17 < l2 then (some (.inl (some (.inl (xk (-3)))), s14)) else ((xgr s14 l0 12 7).bind fun v18 => (xai s14 v18 l1).bind fun v19 => (xsi s14 v18 l1 (v19 - l2)).bind fun s20 => (xgr s20 l0 12 7).bind fun v21 => (xai s20 v21 l1).bind fun v22 => some (.inl (some (.inl v22)), s20))))))) := rfl
set_option maxRecDepth 100000 in
theorem E12_cache (F : Nat) (l0 : Option Nat) (l1 : Int32) (l2 : Int32) (s0 : XH) : J12_cache (F + 1) l0 l1 l2 s0 = (xci (J12_in F (Int32.toInt64 l2) (lN 0) (1000000 : Int64) s0) fun v2 s1 => if v2 = 0 then ((xpt s1 l0 12 0 (.inl (xk 1))).bind fun s3 => (xgi s3 l0 12 0).bind fun v4 => if 0 < v4 then (some (.inl (some (.inl (xk 0))), s3)) else (xgd s3 l0 12 (xci (J12_isLive F l0 l1 s3) fun v6 s5 => if v6 = 0 then (some (.inl (some (.inl (xk (-1)))), s5)) else (xgd s5 l0 12 (xci (J12_makeRoom F l0 l1 l2 s5) fun v8 s7 => if v8 < 0 then (some (.inl (some (.inl v8)), s7)) else ((xgr s7 l0 12 23).bind fun v9 => (xgr s7 l0 12 5).bind fun v10 => (xai s7 v10 l1).bind fun v11 => (xai s7 v9 v11).bind fun v12 => (xsi s7 v9 v11 (v12 + l2)).bind fun s13 => (xgr s13 l0 12 23).bind fun v14 => (xgr s13 l0 12 5).bind fun v15 => (xai s13 v15 l1).bind fun v16 => (xai s13 v14 v16).bind fun v17 => some (.inl (some (.inl v17)), s13))))))) else ((xpt s1 l0 12 0 (.inl (xk 0))).bind fun s18 => (xgi s18 l0 12 0).bind fun v19 => if 0 < v19 then (some (.inl (some (.inl (xk 0))), s18)) else (xgd s18 l0 12 (xci (J12_isLive F l0 l1 s18) fun v21 s20 => if v21 = 0 then (some (.inl (some (.inl (xk (-1)))), s20)) else (xgd s20 l0 12 (xci (J12_makeRoom F l0 l1 l2 s20) fun v23 s22 => if v23 < 0 then (some (.inl (some (.inl v23)), s22)) else ((xgr s22 l0 12 23).bind fun v24 => (xgr s22 l0 12 5).bind fun v25 => (xai s22 v25 l1).bind fun v26 => (xai s22 v24 v26).bind fun v27 => (xsi s22 v24 v26 (v27 + l2)).bind fun s28 => (xgr s28 l0 12 23).bind fun v29 => (xgr s28 l0 12 5).bind fun v30 => (xai s28 v30 l1).bind fun v31 => (xai s28 v29 v31).bind fun v32 => some (.inl (some (.inl v32)), s28)))))))) := rfl
set_option maxRecDepth 100000 in
theorem E12_move (F : Nat) (l0 : Option Nat) (l1 : Int32) (l2 : Int32) (s0 : XH) : J12_move (F + 1) l0 l1 l2 s0 = ((xpt s0 l0 12 0 (.inl (xk 0))).bind fun s1 => xgd s1 l0 12 (xci (J12_isLive F l0 l1 s1) fun v3 s2 => if v3 = 0 then (some (.inl (some (.inl (xk (-1)))), s2)) else (xgd s2 l0 12 (xci (J12_isGroup F l0 l2 s2) fun v5 s4 => if v5 = 0 then (some (.inl (some (.inl (xk (-1)))), s4)) else ((xgr s4 l0 12 5).bind fun v6 => (xai s4 v6 l1).bind fun v7 => if v7 = l2 then (some (.inl (some (.inl (xk 0))), s4)) else (J12_move_40 F (l0) (l1) (l2) (v7) (l2) s4)))))) := rfl
set_option maxRecDepth 100000 in
theorem E12_move_40 (F : Nat) (l0 : Option Nat) (l1 : Int32) (l2 : Int32) (l3 : Int32) (l4 : Int32) (s0 : XH) : J12_move_40 (F + 1) l0 l1 l2 l3 l4 s0 = (if l4 = (xk (-1)) then ((xgr s0 l0 12 5).bind fun v1 => (xsi s0 v1 l1 l2).bind fun s2 => xgd s2 l0 12 (xcv (J12_come F l0 l1 (xk 1) s2) fun s3 => some (.inl (some (.inl (xk 1))), s3))) else (xgd s0 l0 12 (xci (J12_isWithin F l0 l3 l4 s0) fun v5 s4 => if v5 = 0 then (xgd s4 l0 12 (xci (J12_liveIn F l0 l4 s4) fun v7 s6 => (xgr s6 l0 12 19).bind fun v8 => (xai s6 v8 l4).bind fun v9 => if v9 < (v7 + (xk 1)) then (some (.inl (some (.inl (xk (-3)))), s6)) else (xgd s6 l0 12 (xci (J12_uses F l0 l4 s6) fun v11 s10 => (xgr s10 l0 12 7).bind fun v12 => (xai s10 v12 l1).bind fun v13 => (xgr s10 l0 12 20).bind fun v14 => (xai s10 v14 l4).bind fun v15 => if v15 < (v11 + v13) then (some (.inl (some (.inl (xk (-3)))), s10)) else ((xgr s10 l0 12 18).bind fun v16 => (xai s10 v16 l4).bind fun v17 => J12_move_40 F (l0) (l1) (l2) (l3) (v17) s10))))) else ((xgr s4 l0 12 18).bind fun v18 => (xai s4 v18 l4).bind fun v19 => J12_move_40 F (l0) (l1) (l2) (l3) (v19) s4)))) := rfl
set_option maxRecDepth 100000 in
theorem E12_badness (F : Nat) (l0 : Option Nat) (l1 : Int32) (l2 : Int32) (s0 : XH) : J12_badness (F + 1) l0 l1 l2 s0 = (xci (J12_in F (Int32.toInt64 l2) (-10 : Int64) (10 : Int64) s0) fun v2 s1 => if v2 = 0 then ((xpt s1 l0 12 0 (.inl (xk 1))).bind fun s3 => (xgi s3 l0 12 0).bind fun v4 => if 0 < v4 then (some (.inl (some (.inl (xk 0))), s3)) else (xgd s3 l0 12 (xci (J12_isLive F l0 l1 s3) fun v6 s5 => if v6 = 0 then (some (.inl (some (.inl (xk (-1)))), s5)) else ((xgr s5 l0 12 8).bind fun v7 => (xsi s5 v7 l1 l2).bind fun s8 => some (.inl (some (.inl (xk 1))), s8))))) else ((xpt s1 l0 12 0 (.inl (xk 0))).bind fun s9 => (xgi s9 l0 12 0).bind fun v10 => if 0 < v10 then (some (.inl (some (.inl (xk 0))), s9)) else (xgd s9 l0 12 (xci (J12_isLive F l0 l1 s9) fun v12 s11 => if v12 = 0 then (some (.inl (some (.inl (xk (-1)))), s11)) else ((xgr s11 l0 12 8).bind fun v13 => (xsi s11 v13 l1 l2).bind fun s14 => some (.inl (some (.inl (xk 1))), s14)))))) := rfl
set_option maxRecDepth 100000 in
theorem E12_tick (F : Nat) (l0 : Option Nat) (s0 : XH) : J12_tick (F + 1) l0 s0 = ((xgi s0 l0 12 26).bind fun v1 => (xpt s0 l0 12 26 (.inl (v1 + (xk 1)))).bind fun s2 => xgd s2 l0 12 (xcv (J12_findReady F l0 s2) fun s3 => (xgr s3 l0 12 39).bind fun v4 => (xaz s3 v4 (xk 0)).bind fun v5 => J12_tick_25 F (l0) (xk (-1)) (xk 0) (v5) s3)) := rfl
set_option maxRecDepth 100000 in
theorem E12_tick_25 (F : Nat) (l0 : Option Nat) (l1 : Int32) (l2 : Int32) (l3 : Int32) (s0 : XH) : J12_tick_25 (F + 1) l0 l1 l2 l3 s0 = (if l3 = 0 then (if l1 = (xk (-1)) then ((xgi s0 l0 12 26).bind fun v1 => if (xk 20) = 0 then none else if (v1 - v1 / (xk 20) * (xk 20)) = 0 then (J12_tick_328 F (l0) (l1) (xk 0) s0) else (some (.inl (some (.inl l1)), s0))) else ((xgr s0 l0 12 10).bind fun v2 => (xal s0 v2 l1).bind fun v3 => (xsl s0 v2 l1 (v3 + (10000 : Int64))).bind fun s4 => (xgr s4 l0 12 11).bind fun v5 => (xai s4 v5 l1).bind fun v6 => (xsi s4 v5 l1 (v6 + (xk 1))).bind fun s7 => J12_tick_260 F (l0) (l1) (l2) s7)) else (J12_tick_38 F (l0) (l1) (l2) (xk (-1)) (xk (-1)) (xk 0) s0)) := rfl
set_option maxRecDepth 100000 in
theorem E12_tick_38 (F : Nat) (l0 : Option Nat) (l1 : Int32) (l2 : Int32) (l4 : Int32) (l5 : Int32) (l6 : Int32) (s0 : XH) : J12_tick_38 (F + 1) l0 l1 l2 l4 l5 l6 s0 = ((xgi s0 l0 12 1).bind fun v1 => if l6 < v1 then ((xgr s0 l0 12 2).bind fun v2 => (xai s0 v2 l6).bind fun v3 => if v3 = 0 then ((xgr s0 l0 12 9).bind fun v4 => (xaz s0 v4 l6).bind fun v5 => if v5 = 0 then ((xgr s0 l0 12 5).bind fun v6 => (xai s0 v6 l6).bind fun v7 => if v7 = l2 then (if l4 = (xk (-1)) then (J12_tick_38 F (l0) (l1) (l2) (l6) (l5) (l6 + xk 1) s0) else ((xgr s0 l0 12 10).bind fun v8 => (xal s0 v8 l6).bind fun v9 => (xgr s0 l0 12 10).bind fun v10 => (xal s0 v10 l4).bind fun v11 => if (lg_cmp v9 v11) < 0 then (J12_tick_38 F (l0) (l1) (l2) (l6) (l5) (l6 + xk 1) s0) else (J12_tick_38 F (l0) (l1) (l2) (l4) (l5) (l6 + xk 1) s0))) else (J12_tick_38 F (l0) (l1) (l2) (l4) (l5) (l6 + xk 1) s0)) else (J12_tick_38 F (l0) (l1) (l2) (l4) (l5) (l6 + xk 1) s0)) else (J12_tick_38 F (l0) (l1) (l2) (l4) (l5) (l6 + xk 1) s0)) else (J12_tick_115 F (l0) (l1) (l2) (l4) (l5) (xk 1) s0)) := rfl
set_option maxRecDepth 100000 in
theorem E12_tick_115 (F : Nat) (l0 : Option Nat) (l1 : Int32) (l2 : Int32) (l4 : Int32) (l5 : Int32) (l6 : Int32) (s0 : XH) : J12_tick_115 (F + 1) l0 l1 l2 l4 l5 l6 s0 = ((xgi s0 l0 12 17).bind fun v1 => if l6 < v1 then ((xgr s0 l0 12 18).bind fun v2 => (xai s0 v2 l6).bind fun v3 => if v3 = l2 then (xgd s0 l0 12 (xci (J12_isReady F l0 l6 s0) fun v5 s4 => if v5 = 0 then (J12_tick_115 F (l0) (l1) (l2) (l4) (l5) (l6 + xk 1) s4) else (if l5 = (xk (-1)) then (J12_tick_115 F (l0) (l1) (l2) (l4) (l6) (l6 + xk 1) s4) else ((xgr s4 l0 12 25).bind fun v6 => (xal s4 v6 l6).bind fun v7 => (xgr s4 l0 12 25).bind fun v8 => (xal s4 v8 l5).bind fun v9 => if (lg_cmp v7 v9) < 0 then (J12_tick_115 F (l0) (l1) (l2) (l4) (l6) (l6 + xk 1) s4) else (J12_tick_115 F (l0) (l1) (l2) (l4) (l5) (l6 + xk 1) s4))))) else (J12_tick_115 F (l0) (l1) (l2) (l4) (l5) (l6 + xk 1) s0)) else (if l4 = (xk (-1)) then (if (xk 1) = 0 then (J12_tick_25 F (l0) (l4) (l2) (xk 1) s0) else (J12_tick_25 F (l0) (l1) (l5) (xk 1) s0)) else (if l5 = (xk (-1)) then (if (xk 0) = 0 then (J12_tick_25 F (l0) (l4) (l2) (xk 0) s0) else (J12_tick_25 F (l0) (l1) (l5) (xk 0) s0)) else ((xgr s0 l0 12 25).bind fun v10 => (xal s0 v10 l5).bind fun v11 => (xgr s0 l0 12 10).bind fun v12 => (xal s0 v12 l4).bind fun v13 => if (lg_cmp v11 v13) < 0 then (if (xk 1) = 0 then (J12_tick_25 F (l0) (l4) (l2) (xk 1) s0) else (J12_tick_25 F (l0) (l1) (l5) (xk 1) s0)) else (if (xk 0) = 0 then (J12_tick_25 F (l0) (l4) (l2) (xk 0) s0) else (J12_tick_25 F (l0) (l1) (l5) (xk 0) s0)))))) := rfl
set_option maxRecDepth 100000 in
theorem E12_tick_260 (F : Nat) (l0 : Option Nat) (l1 : Int32) (l4 : Int32) (s0 : XH) : J12_tick_260 (F + 1) l0 l1 l4 s0 = (if l4 = (xk (-1)) then ((xgi s0 l0 12 26).bind fun v1 => if (xk 20) = 0 then none else if (v1 - v1 / (xk 20) * (xk 20)) = 0 then (J12_tick_328 F (l0) (l1) (xk 0) s0) else (some (.inl (some (.inl l1)), s0))) else ((xgr s0 l0 12 24).bind fun v2 => (xai s0 v2 l4).bind fun v3 => (xsi s0 v2 l4 (v3 + (xk 1))).bind fun s4 => if 0 < l4 then ((xgr s4 l0 12 25).bind fun v5 => (xal s4 v5 l4).bind fun v6 => (xgr s4 l0 12 21).bind fun v7 => (xai s4 v7 l4).bind fun v8 => if v8 = 0 then none else (xsl s4 v5 l4 (v6 + (Int32.toInt64 ((1000000 : Int32) / v8)))).bind fun s9 => (xgr s9 l0 12 18).bind fun v10 => (xai s9 v10 l4).bind fun v11 => J12_tick_260 F (l0) (l1) (v11) s9) else ((xgr s4 l0 12 18).bind fun v12 => (xai s4 v12 l4).bind fun v13 => J12_tick_260 F (l0) (l1) (v13) s4))) := rfl
set_option maxRecDepth 100000 in
theorem E12_tick_328 (F : Nat) (l0 : Option Nat) (l1 : Int32) (l4 : Int32) (s0 : XH) : J12_tick_328 (F + 1) l0 l1 l4 s0 = ((xgi s0 l0 12 17).bind fun v1 => if l4 < v1 then ((xgr s0 l0 12 24).bind fun v2 => (xsi s0 v2 l4 (xk 0)).bind fun s3 => J12_tick_328 F (l0) (l1) (l4 + xk 1) s3) else (some (.inl (some (.inl l1)), s0))) := rfl
set_option maxRecDepth 100000 in
theorem E12_ticks (F : Nat) (l0 : Option Nat) (l1 : Int32) (s0 : XH) : J12_ticks (F + 1) l0 l1 s0 = (xci (J12_in F (Int32.toInt64 l1) (lN 0) (200 : Int64) s0) fun v2 s1 => if v2 = 0 then ((xpt s1 l0 12 0 (.inl (xk 1))).bind fun s3 => (xgi s3 l0 12 0).bind fun v4 => if 0 < v4 then (some (.inl (some (.inl (xk 0))), s3)) else (J12_ticks_34 F (l0) (l1) (xk (-1)) (xk 0) s3)) else ((xpt s1 l0 12 0 (.inl (xk 0))).bind fun s5 => (xgi s5 l0 12 0).bind fun v6 => if 0 < v6 then (some (.inl (some (.inl (xk 0))), s5)) else (J12_ticks_34 F (l0) (l1) (xk (-1)) (xk 0) s5))) := rfl
set_option maxRecDepth 100000 in
theorem E12_ticks_34 (F : Nat) (l0 : Option Nat) (l1 : Int32) (l2 : Int32) (l3 : Int32) (s0 : XH) : J12_ticks_34 (F + 1) l0 l1 l2 l3 s0 = (if l3 < l1 then (xgd s0 l0 12 (xci (J12_tick F l0 s0) fun v2 s1 => J12_ticks_34 F (l0) (l1) (v2) (l3 + xk 1) s1)) else (some (.inl (some (.inl l2)), s0))) := rfl
set_option maxRecDepth 100000 in
theorem E12_sleep (F : Nat) (l0 : Option Nat) (l1 : Int32) (l2 : Int32) (s0 : XH) : J12_sleep (F + 1) l0 l1 l2 s0 = ((xpt s0 l0 12 0 (.inl (xk 0))).bind fun s1 => xgd s1 l0 12 (xci (J12_isLive F l0 l1 s1) fun v3 s2 => if v3 = 0 then (some (.inl (some (.inl (xk (-1)))), s2)) else ((xgr s2 l0 12 9).bind fun v4 => (xaz s2 v4 l1).bind fun v5 => if v5 = l2 then (some (.inl (some (.inl (xk 0))), s2)) else ((xgr s2 l0 12 9).bind fun v6 => (xsz s2 v6 l1 l2).bind fun s7 => if l2 = 0 then (xgd s7 l0 12 (xcv (J12_come F l0 l1 (xk 0) s7) fun s8 => some (.inl (some (.inl (xk 1))), s8))) else (some (.inl (some (.inl (xk 1))), s7)))))) := rfl
set_option maxRecDepth 100000 in
theorem E12_ran (F : Nat) (l0 : Option Nat) (l1 : Int32) (s0 : XH) : J12_ran (F + 1) l0 l1 s0 = ((xpt s0 l0 12 0 (.inl (xk 0))).bind fun s1 => xgd s1 l0 12 (xci (J12_isTask F l0 l1 s1) fun v3 s2 => if v3 = 0 then (some (.inl (some (.inl (xk (-1)))), s2)) else ((xgr s2 l0 12 11).bind fun v4 => (xai s2 v4 l1).bind fun v5 => some (.inl (some (.inl v5)), s2)))) := rfl
set_option maxRecDepth 100000 in
theorem E12_time (F : Nat) (l0 : Option Nat) (l1 : Int32) (l2 : Int32) (s0 : XH) : J12_time (F + 1) l0 l1 l2 s0 = ((xpt s0 l0 12 0 (.inl (xk 0))).bind fun s1 => if l1 = 0 then (xgd s1 l0 12 (xci (J12_isTask F l0 l2 s1) fun v3 s2 => if v3 = 0 then (some (.inl (some (.inr (.inl ((-1 : Int64))))), s2)) else ((xgr s2 l0 12 10).bind fun v4 => (xal s2 v4 l2).bind fun v5 => some (.inl (some (.inr (.inl (v5)))), s2)))) else (xgd s1 l0 12 (xci (J12_isGroup F l0 l2 s1) fun v7 s6 => if v7 = 0 then (some (.inl (some (.inr (.inl ((-1 : Int64))))), s6)) else ((xgr s6 l0 12 25).bind fun v8 => (xal s6 v8 l2).bind fun v9 => some (.inl (some (.inr (.inl (v9)))), s6))))) := rfl
set_option maxRecDepth 100000 in
theorem E12_mountAt (F : Nat) (l0 : Option Nat) (l1 : Int32) (l2 : Int32) (s0 : XH) : J12_mountAt (F + 1) l0 l1 l2 s0 = (J12_mountAt_2 F (l0) (l1) (l2) (xk 0) s0) := rfl
set_option maxRecDepth 100000 in
theorem E12_mountAt_2 (F : Nat) (l0 : Option Nat) (l1 : Int32) (l2 : Int32) (l3 : Int32) (s0 : XH) : J12_mountAt_2 (F + 1) l0 l1 l2 l3 s0 = (if l3 < (xk 80) then ((xgr s0 l0 12 30).bind fun v1 => (xaz s0 v1 l3).bind fun v2 => if v2 = 0 then (J12_mountAt_2 F (l0) (l1) (l2) (l3 + xk 1) s0) else ((xgr s0 l0 12 32).bind fun v3 => (xai s0 v3 l3).bind fun v4 => if v4 = l1 then ((xgr s0 l0 12 33).bind fun v5 => (xai s0 v5 l3).bind fun v6 => if v6 = l2 then (some (.inl (some (.inl l3)), s0)) else (J12_mountAt_2 F (l0) (l1) (l2) (l3 + xk 1) s0)) else (J12_mountAt_2 F (l0) (l1) (l2) (l3 + xk 1) s0))) else (some (.inl (some (.inl (xk (-1)))), s0))) := rfl
set_option maxRecDepth 100000 in
theorem E12_rise (F : Nat) (l0 : Option Nat) (s0 : XH) : J12_rise (F + 1) l0 s0 = ((xgi s0 l0 12 37).bind fun v1 => (xgi s0 l0 12 38).bind fun v2 => xgd s0 l0 12 (xci (J12_mountAt F l0 v1 v2 s0) fun v4 s3 => J12_rise_13 F (l0) (v4) s3)) := rfl
set_option maxRecDepth 100000 in
theorem E12_rise_13 (F : Nat) (l0 : Option Nat) (l1 : Int32) (s0 : XH) : J12_rise_13 (F + 1) l0 l1 s0 = (if l1 = (xk (-1)) then (some (.inl none, s0)) else ((xpt s0 l0 12 37 (.inl (l1))).bind fun s1 => (xpt s1 l0 12 38 (.inl (xk 0))).bind fun s2 => (xgi s2 l0 12 37).bind fun v3 => (xgi s2 l0 12 38).bind fun v4 => xgd s2 l0 12 (xci (J12_mountAt F l0 v3 v4 s2) fun v6 s5 => J12_rise_13 F (l0) (v6) s5))) := rfl
set_option maxRecDepth 100000 in
theorem E12_walk (F : Nat) (l0 : Option Nat) (l1 : Int32) (l2 : Int32) (s0 : XH) : J12_walk (F + 1) l0 l1 l2 s0 = (xgd s0 l0 12 (xci (J12_isLive F l0 l1 s0) fun v2 s1 => if v2 = 0 then (if (xk 0) = 0 ∨ (xk 0) = 1 then some (.inl (some (.inl (xk 0))), s1) else none) else (if l2 < (xk 1) then (if (xk 0) = 0 ∨ (xk 0) = 1 then some (.inl (some (.inl (xk 0))), s1) else none) else ((xgr s1 l0 12 29).bind fun v3 => (xgr s1 l0 12 6).bind fun v4 => (xai s1 v4 l1).bind fun v5 => (xai s1 v3 v5).bind fun v6 => (xpt s1 l0 12 37 (.inl (v6))).bind fun s7 => (xpt s7 l0 12 38 (.inl (xk 0))).bind fun s8 => xgd s8 l0 12 (xcv (J12_rise F l0 s8) fun s9 => J12_walk_42 F (l0) (l2) (xk 30) s9))))) := rfl
set_option maxRecDepth 100000 in
theorem E12_walk_42 (F : Nat) (l0 : Option Nat) (l2 : Int32) (l3 : Int32) (s0 : XH) : J12_walk_42 (F + 1) l0 l2 l3 s0 = (if ((l2 >>> (l3 &&& 31)) &&& (xk 1)) = 0 then (J12_walk_42 F (l0) (l2) (l3 + xk (-1)) s0) else (J12_walk_59 F (l0) (l2) (l3 + xk (-1)) s0)) := rfl
set_option maxRecDepth 100000 in
theorem E12_walk_59 (F : Nat) (l0 : Option Nat) (l2 : Int32) (l3 : Int32) (s0 : XH) : J12_walk_59 (F + 1) l0 l2 l3 s0 = (if l3 < 0 then (if (xk 1) = 0 ∨ (xk 1) = 1 then some (.inl (some (.inl (xk 1))), s0) else none) else ((xgi s0 l0 12 38).bind fun v1 => if v1 < (xk 7) then ((xgi s0 l0 12 38).bind fun v2 => (xpt s0 l0 12 38 (.inl ((((xk 2) * v2) + (xk 1)) + ((l2 >>> (l3 &&& 31)) &&& (xk 1))))).bind fun s3 => xgd s3 l0 12 (xcv (J12_rise F l0 s3) fun s4 => J12_walk_59 F (l0) (l2) (l3 + xk (-1)) s4)) else (if (xk 0) = 0 ∨ (xk 0) = 1 then some (.inl (some (.inl (xk 0))), s0) else none))) := rfl
set_option maxRecDepth 100000 in
theorem E12_isPeer (F : Nat) (l0 : Option Nat) (l1 : Int32) (l2 : Int32) (l3 : Int32) (s0 : XH) : J12_isPeer (F + 1) l0 l1 l2 l3 s0 = (if l1 = l2 then (if (xk 0) = 0 ∨ (xk 0) = 1 then some (.inl (some (.inl (xk 0))), s0) else none) else ((xgr s0 l0 12 30).bind fun v1 => (xaz s0 v1 l1).bind fun v2 => if v2 = 0 then (if (xk 0) = 0 ∨ (xk 0) = 1 then some (.inl (some (.inl (xk 0))), s0) else none) else (if 0 < l3 then ((xgr s0 l0 12 35).bind fun v3 => (xai s0 v3 l1).bind fun v4 => if v4 = l3 then (if (xk 1) = 0 ∨ (xk 1) = 1 then some (.inl (some (.inl (xk 1))), s0) else none) else (if (xk 0) = 0 ∨ (xk 0) = 1 then some (.inl (some (.inl (xk 0))), s0) else none)) else (if (xk 0) = 0 ∨ (xk 0) = 1 then some (.inl (some (.inl (xk 0))), s0) else none)))) := rfl
set_option maxRecDepth 100000 in
theorem E12_mount (F : Nat) (l0 : Option Nat) (l1 : Int32) (l2 : Int32) (l3 : Int32) (l4 : Int32) (s0 : XH) : J12_mount (F + 1) l0 l1 l2 l3 l4 s0 = (xci (J12_in F (Int32.toInt64 l3) (lN 0) (9 : Int64) s0) fun v2 s1 => if v2 = 0 then ((xpt s1 l0 12 0 (.inl (xk 1))).bind fun s3 => (xgi s3 l0 12 0).bind fun v4 => if 0 < v4 then (some (.inl (some (.inl (xk 0))), s3)) else (xgd s3 l0 12 (xci (J12_walk F l0 l1 l2 s3) fun v6 s5 => if v6 = 0 then (some (.inl (some (.inl (xk (-1)))), s5)) else ((xgi s5 l0 12 37).bind fun v7 => (xgi s5 l0 12 38).bind fun v8 => (xgr s5 l0 12 35).bind fun v9 => (xai s5 v9 v7).bind fun v10 => J12_mount_68 F (l0) (l3) (l4) (v7) (v8) (v10) (xk 1) (xk 0) s5)))) else ((xpt s1 l0 12 0 (.inl (xk 0))).bind fun s11 => (xgi s11 l0 12 0).bind fun v12 => if 0 < v12 then (some (.inl (some (.inl (xk 0))), s11)) else (xgd s11 l0 12 (xci (J12_walk F l0 l1 l2 s11) fun v14 s13 => if v14 = 0 then (some (.inl (some (.inl (xk (-1)))), s13)) else ((xgi s13 l0 12 37).bind fun v15 => (xgi s13 l0 12 38).bind fun v16 => (xgr s13 l0 12 35).bind fun v17 => (xai s13 v17 v15).bind fun v18 => J12_mount_68 F (l0) (l3) (l4) (v15) (v16) (v18) (xk 1) (xk 0) s13))))) := rfl
set_option maxRecDepth 100000 in
theorem E12_mount_68 (F : Nat) (l0 : Option Nat) (l3 : Int32) (l4 : Int32) (l5 : Int32) (l6 : Int32) (l7 : Int32) (l8 : Int32) (l9 : Int32) (s0 : XH) : J12_mount_68 (F + 1) l0 l3 l4 l5 l6 l7 l8 l9 s0 = (if l9 < (xk 80) then (xgd s0 l0 12 (xci (J12_isPeer F l0 l9 l5 l7 s0) fun v2 s1 => if v2 = 0 then (J12_mount_68 F (l0) (l3) (l4) (l5) (l6) (l7) (l8 + (xk 0)) (l9 + xk 1) s1) else (xgd s1 l0 12 (xci (J12_mountAt F l0 l9 l6 s1) fun v4 s3 => if v4 = (xk (-1)) then (J12_mount_68 F (l0) (l3) (l4) (l5) (l6) (l7) (l8 + (xk 1)) (l9 + xk 1) s3) else (J12_mount_68 F (l0) (l3) (l4) (l5) (l6) (l7) (l8 + (xk 0)) (l9 + xk 1) s3))))) else (xgd s0 l0 12 (xci (J12_freeMounts F l0 s0) fun v6 s5 => if v6 < l8 then (some (.inl (some (.inl (xk (-2)))), s5)) else (if l4 = 0 then (J12_mount_155 F (l0) (l3) (l5) (l6) (l7) (xk 0) (xk 0) s5) else ((xgi s5 l0 12 36).bind fun v7 => (xpt s5 l0 12 36 (.inl (v7 + (xk 1)))).bind fun s8 => (xgi s8 l0 12 36).bind fun v9 => J12_mount_155 F (l0) (l3) (l5) (l6) (l7) (v9) (xk 0) s8))))) := rfl
set_option maxRecDepth 100000 in
theorem E12_mount_155 (F : Nat) (l0 : Option Nat) (l3 : Int32) (l5 : Int32) (l6 : Int32) (l7 : Int32) (l9 : Int32) (l10 : Int32) (s0 : XH) : J12_mount_155 (F + 1) l0 l3 l5 l6 l7 l9 l10 s0 = (if l10 < (xk 80) then ((xgr s0 l0 12 40).bind fun v1 => xgd s0 l0 12 (xci (J12_isPeer F l0 l10 l5 l7 s0) fun v3 s2 => if v3 = 0 then ((xsi s2 v1 l10 (xk 0)).bind fun s4 => J12_mount_155 F (l0) (l3) (l5) (l6) (l7) (l9) (l10 + xk 1) s4) else (xgd s2 l0 12 (xci (J12_mountAt F l0 l10 l6 s2) fun v6 s5 => if v6 = (xk (-1)) then ((xsi s5 v1 l10 (xk 1)).bind fun s7 => J12_mount_155 F (l0) (l3) (l5) (l6) (l7) (l9) (l10 + xk 1) s7) else ((xsi s5 v1 l10 (xk 0)).bind fun s8 => J12_mount_155 F (l0) (l3) (l5) (l6) (l7) (l9) (l10 + xk 1) s8))))) else ((xgr s0 l0 12 31).bind fun v9 => (xai s0 v9 l5).bind fun v10 => xgd s0 l0 12 (xci (J12_make F l0 v10 l5 l6 l3 l9 s0) fun v12 s11 => J12_mount_228 F (l0) (l3) (l6) (l9) (v12) (xk 0) s11))) := rfl
set_option maxRecDepth 100000 in
theorem E12_mount_228 (F : Nat) (l0 : Option Nat) (l3 : Int32) (l6 : Int32) (l9 : Int32) (l10 : Int32) (l11 : Int32) (s0 : XH) : J12_mount_228 (F + 1) l0 l3 l6 l9 l10 l11 s0 = (if l11 < (xk 80) then ((xgr s0 l0 12 40).bind fun v1 => (xai s0 v1 l11).bind fun v2 => if v2 = 0 then (J12_mount_228 F (l0) (l3) (l6) (l9) (l10) (l11 + xk 1) s0) else ((xgr s0 l0 12 31).bind fun v3 => (xai s0 v3 l11).bind fun v4 => xgd s0 l0 12 (xci (J12_make F l0 v4 l11 l6 l3 l9 s0) fun v6 s5 => J12_mount_228 F (l0) (l3) (l6) (l9) (l10) (l11 + xk 1) s5))) else (some (.inl (some (.inl l10)), s0))) := rfl
set_option maxRecDepth 100000 in
theorem E12_isBusy (F : Nat) (l0 : Option Nat) (l1 : Int32) (s0 : XH) : J12_isBusy (F + 1) l0 l1 s0 = (J12_isBusy_2 F (l0) (l1) (xk 0) s0) := rfl
set_option maxRecDepth 100000 in
theorem E12_isBusy_2 (F : Nat) (l0 : Option Nat) (l1 : Int32) (l2 : Int32) (s0 : XH) : J12_isBusy_2 (F + 1) l0 l1 l2 s0 = (if l2 < (xk 80) then ((xgr s0 l0 12 30).bind fun v1 => (xaz s0 v1 l2).bind fun v2 => if v2 = 0 then (J12_isBusy_2 F (l0) (l1) (l2 + xk 1) s0) else ((xgr s0 l0 12 32).bind fun v3 => (xai s0 v3 l2).bind fun v4 => if v4 = l1 then (if (xk 1) = 0 ∨ (xk 1) = 1 then some (.inl (some (.inl (xk 1))), s0) else none) else (J12_isBusy_2 F (l0) (l1) (l2 + xk 1) s0))) else (if (xk 0) = 0 ∨ (xk 0) = 1 then some (.inl (some (.inl (xk 0))), s0) else none)) := rfl
set_option maxRecDepth 100000 in
theorem E12_unmount (F : Nat) (l0 : Option Nat) (l1 : Int32) (l2 : Int32) (s0 : XH) : J12_unmount (F + 1) l0 l1 l2 s0 = ((xpt s0 l0 12 0 (.inl (xk 0))).bind fun s1 => xgd s1 l0 12 (xci (J12_walk F l0 l1 l2 s1) fun v3 s2 => if v3 = 0 then (some (.inl (some (.inl (xk (-1)))), s2)) else ((xgi s2 l0 12 38).bind fun v4 => if v4 = 0 then ((xgr s2 l0 12 32).bind fun v5 => (xgi s2 l0 12 37).bind fun v6 => (xai s2 v5 v6).bind fun v7 => if v7 = (xk (-1)) then (some (.inl (some (.inl (xk (-1)))), s2)) else ((xgi s2 l0 12 37).bind fun v8 => xgd s2 l0 12 (xci (J12_isBusy F l0 v8 s2) fun v10 s9 => if v10 = 0 then ((xgr s9 l0 12 32).bind fun v11 => (xai s9 v11 v8).bind fun v12 => (xgr s9 l0 12 30).bind fun v13 => (xsz s9 v13 v8 (xk 0)).bind fun s14 => (xgr s14 l0 12 35).bind fun v15 => (xai s14 v15 v12).bind fun v16 => J12_unmount_82 F (l0) (v8) (v12) (xk 1) (v16) (xk 0) s14) else (some (.inl (some (.inl (xk (-4)))), s9))))) else (some (.inl (some (.inl (xk (-1)))), s2))))) := rfl
set_option maxRecDepth 100000 in
theorem E12_unmount_82 (F : Nat) (l0 : Option Nat) (l3 : Int32) (l4 : Int32) (l5 : Int32) (l6 : Int32) (l7 : Int32) (s0 : XH) : J12_unmount_82 (F + 1) l0 l3 l4 l5 l6 l7 s0 = (if l7 < (xk 80) then (xgd s0 l0 12 (xci (J12_isPeer F l0 l7 l4 l6 s0) fun v2 s1 => if v2 = 0 then (J12_unmount_82 F (l0) (l3) (l4) (l5) (l6) (l7 + xk 1) s1) else ((xgr s1 l0 12 33).bind fun v3 => (xai s1 v3 l3).bind fun v4 => xgd s1 l0 12 (xci (J12_mountAt F l0 l7 v4 s1) fun v6 s5 => if v6 = (xk (-1)) then (J12_unmount_82 F (l0) (l3) (l4) (l5) (l6) (l7 + xk 1) s5) else ((xgr s5 l0 12 34).bind fun v7 => (xai s5 v7 v6).bind fun v8 => (xgr s5 l0 12 34).bind fun v9 => (xai s5 v9 l3).bind fun v10 => if v8 = v10 then (xgd s5 l0 12 (xci (J12_isBusy F l0 v6 s5) fun v12 s11 => if v12 = 0 then ((xgr s11 l0 12 30).bind fun v13 => (xsz s11 v13 v6 (xk 0)).bind fun s14 => J12_unmount_82 F (l0) (l3) (l4) (l5 + xk 1) (l6) (l7 + xk 1) s14) else (J12_unmount_82 F (l0) (l3) (l4) (l5) (l6) (l7 + xk 1) s11))) else (J12_unmount_82 F (l0) (l3) (l4) (l5) (l6) (l7 + xk 1) s5)))))) else (some (.inl (some (.inl l5)), s0))) := rfl
set_option maxRecDepth 100000 in
theorem E12_at (F : Nat) (l0 : Option Nat) (l1 : Int32) (l2 : Int32) (s0 : XH) : J12_at (F + 1) l0 l1 l2 s0 = ((xpt s0 l0 12 0 (.inl (xk 0))).bind fun s1 => xgd s1 l0 12 (xci (J12_walk F l0 l1 l2 s1) fun v3 s2 => if v3 = 0 then (some (.inl (some (.inl (xk (-1)))), s2)) else ((xgi s2 l0 12 37).bind fun v4 => (xgr s2 l0 12 34).bind fun v5 => (xgi s2 l0 12 37).bind fun v6 => (xai s2 v5 v6).bind fun v7 => (xgi s2 l0 12 38).bind fun v8 => some (.inl (some (.inl ((((xk 1000) * v4) + ((xk 20) * v7)) + v8))), s2)))) := rfl
set_option maxRecDepth 100000 in
theorem E12_share (F : Nat) (l0 : Option Nat) (l1 : Int32) (l2 : Int32) (s0 : XH) : J12_share (F + 1) l0 l1 l2 s0 = ((xgi s0 l0 12 28).bind fun v1 => xci (J12_in F (Int32.toInt64 l1) (lN 0) (Int32.toInt64 (v1 - (xk 1))) s0) fun v3 s2 => if v3 = 0 then ((xpt s2 l0 12 0 (.inl (xk 1))).bind fun s4 => (xgi s4 l0 12 0).bind fun v5 => if 0 < v5 then (some (.inl (some (.inl (xk 0))), s4)) else ((xgr s4 l0 12 35).bind fun v6 => (xgr s4 l0 12 29).bind fun v7 => (xai s4 v7 l1).bind fun v8 => (xai s4 v6 v8).bind fun v9 => if l2 = 0 then (J12_share_60 F (l0) (l1) (l2) (v9) s4) else ((xgi s4 l0 12 36).bind fun v10 => (xpt s4 l0 12 36 (.inl (v10 + (xk 1)))).bind fun s11 => J12_share_60 F (l0) (l1) (l2) (v9) s11))) else ((xpt s2 l0 12 0 (.inl (xk 0))).bind fun s12 => (xgi s12 l0 12 0).bind fun v13 => if 0 < v13 then (some (.inl (some (.inl (xk 0))), s12)) else ((xgr s12 l0 12 35).bind fun v14 => (xgr s12 l0 12 29).bind fun v15 => (xai s12 v15 l1).bind fun v16 => (xai s12 v14 v16).bind fun v17 => if l2 = 0 then (J12_share_60 F (l0) (l1) (l2) (v17) s12) else ((xgi s12 l0 12 36).bind fun v18 => (xpt s12 l0 12 36 (.inl (v18 + (xk 1)))).bind fun s19 => J12_share_60 F (l0) (l1) (l2) (v17) s19)))) := rfl
set_option maxRecDepth 100000 in
theorem E12_share_60 (F : Nat) (l0 : Option Nat) (l1 : Int32) (l2 : Int32) (l3 : Int32) (s0 : XH) : J12_share_60 (F + 1) l0 l1 l2 l3 s0 = ((xgr s0 l0 12 35).bind fun v1 => (xgr s0 l0 12 29).bind fun v2 => (xai s0 v2 l1).bind fun v3 => if l2 = 0 then ((xsi s0 v1 v3 (xk 0)).bind fun s4 => some (.inl (some (.inl l3)), s4)) else ((xgi s0 l0 12 36).bind fun v5 => (xsi s0 v1 v3 v5).bind fun s6 => some (.inl (some (.inl l3)), s6))) := rfl
end
section
set_option maxRecDepth 100000 in
theorem E12_mounted (F : Nat) (l0 : Option Nat) (l1 : Int32) (l2 : Int32) (s0 : XH) : J12_mounted (F + 1) l0 l1 l2 s0 = (xci (J12_in F (Int32.toInt64 l2) (lN 0) (4 : Int64) s0) fun v2 s1 => if v2 = 0 then ((xpt s1 l0 12 0 (.inl (xk 1))).bind fun s3 => (xgi s3 l0 12 0).bind fun v4 => if 0 < v4 then (some (.inl (some (.inl (xk 0))), s3)) else (xci (J12_in F (Int32.toInt64 l1) (lN 0) (79 : Int64) s3) fun v6 s5 => if v6 = 0 then (some (.inl (some (.inl (xk (-1)))), s5)) else ((xgr s5 l0 12 30).bind fun v7 => (xaz s5 v7 l1).bind fun v8 => if v8 = 0 then (some (.inl (some (.inl (xk (-1)))), s5)) else (if l2 = nI 0 then ((xgr s5 l0 12 31).bind fun v9 => (xai s5 v9 l1).bind fun v10 => some (.inl (some (.inl v10)), s5)) else if l2 = nI 1 then ((xgr s5 l0 12 32).bind fun v11 => (xai s5 v11 l1).bind fun v12 => some (.inl (some (.inl v12)), s5)) else if l2 = nI 2 then ((xgr s5 l0 12 33).bind fun v13 => (xai s5 v13 l1).bind fun v14 => some (.inl (some (.inl v14)), s5)) else if l2 = nI 3 then ((xgr s5 l0 12 34).bind fun v15 => (xai s5 v15 l1).bind fun v16 => some (.inl (some (.inl v16)), s5)) else ((xgr s5 l0 12 35).bind fun v17 => (xai s5 v17 l1).bind fun v18 => some (.inl (some (.inl v18)), s5)))))) else ((xpt s1 l0 12 0 (.inl (xk 0))).bind fun s19 => (xgi s19 l0 12 0).bind fun v20 => if 0 < v20 then (some (.inl (some (.inl (xk 0))), s19)) else (xci (J12_in F (Int32.toInt64 l1) (lN 0) (79 : Int64) s19) fun v22 s21 => if v22 = 0 then (some (.inl (some (.inl (xk (-1)))), s21)) else ((xgr s21 l0 12 30).bind fun v23 => (xaz s21 v23 l1).bind fun v24 => if v24 = 0 then (some (.inl (some (.inl (xk (-1)))), s21)) else (if l2 = nI 0 then ((xgr s21 l0 12 31).bind fun v25 => (xai s21 v25 l1).bind fun v26 => some (.inl (some (.inl v26)), s21)) else if l2 = nI 1 then ((xgr s21 l0 12 32).bind fun v27 => (xai s21 v27 l1).bind fun v28 => some (.inl (some (.inl v28)), s21)) else if l2 = nI 2 then ((xgr s21 l0 12 33).bind fun v29 => (xai s21 v29 l1).bind fun v30 => some (.inl (some (.inl v30)), s21)) else if l2 = nI 3 then ((xgr s21 l0 12 34).bind fun v31 => (xai s21 v31 l1).bind fun v32 => some (.inl (some (.inl v32)), s21)) else ((xgr s21 l0 12 35).bind fun v33 => (xai s21 v33 l1).bind fun v34 => some (.inl (some (.inl v34)), s21))))))) := rfl
set_option maxRecDepth 100000 in
theorem EL_number (F : Nat) (l0 : Option Nat) (l1 : Int32) (l2 : Int32) (l3 : Option Nat) (s0 : XH) : JL_number (F + 1) l0 l1 l2 l3 s0 = (xgd s0 l0 11 (xcx (J11_number F l0 l1 l2 s0) (fun e5 a4 s3 => if e5 = 50 then (some (.inl (some (.inl (xk 1))), s3)) else none) fun v2 s1 => (xsl s1 l3 (xk 0) (Int32.toInt64 v2)).bind fun s6 => some (.inl (some (.inl (xk 0))), s6))) := rfl
set_option maxRecDepth 100000 in
theorem EL_find (F : Nat) (l0 : Option Nat) (l1 : Int32) (l2 : Int32) (l3 : Option Nat) (s0 : XH) : JL_find (F + 1) l0 l1 l2 l3 s0 = (xgd s0 l0 11 (xcx (J11_find F l0 l1 l2 s0) (fun e5 a4 s3 => if e5 = 50 then (some (.inl (some (.inl (xk 1))), s3)) else none) fun v2 s1 => (xsl s1 l3 (xk 0) (Int32.toInt64 v2)).bind fun s6 => some (.inl (some (.inl (xk 0))), s6))) := rfl
set_option maxRecDepth 100000 in
theorem EL_task (F : Nat) (l0 : Option Nat) (l1 : Int32) (l2 : Int32) (l3 : Option Nat) (s0 : XH) : JL_task (F + 1) l0 l1 l2 l3 s0 = (xgd s0 l0 11 (xcx (J11_task F l0 l1 l2 s0) (fun e5 a4 s3 => if e5 = 50 then (some (.inl (some (.inl (xk 1))), s3)) else none) fun v2 s1 => (xsl s1 l3 (xk 0) (Int32.toInt64 v2)).bind fun s6 => some (.inl (some (.inl (xk 0))), s6))) := rfl
set_option maxRecDepth 100000 in
theorem EL_count (F : Nat) (l0 : Option Nat) (l1 : Int32) (l2 : Option Nat) (s0 : XH) : JL_count (F + 1) l0 l1 l2 s0 = (xgd s0 l0 11 (xcx (J11_count F l0 l1 s0) (fun e5 a4 s3 => if e5 = 50 then (some (.inl (some (.inl (xk 1))), s3)) else none) fun v2 s1 => (xsl s1 l2 (xk 0) (Int32.toInt64 v2)).bind fun s6 => some (.inl (some (.inl (xk 0))), s6))) := rfl
set_option maxRecDepth 100000 in
theorem EL_set (F : Nat) (l0 : Option Nat) (l1 : Int32) (l2 : Int32) (l3 : Int32) (l4 : Option Nat) (s0 : XH) : JL_set (F + 1) l0 l1 l2 l3 l4 s0 = (xgd s0 l0 11 (xcx (J11_set F l0 l1 l2 l3 s0) (fun e5 a4 s3 => if e5 = 50 then (some (.inl (some (.inl (xk 1))), s3)) else if e5 = 51 then (some (.inl (some (.inl (xk 2))), s3)) else none) fun v2 s1 => (xsl s1 l4 (xk 0) (Int32.toInt64 v2)).bind fun s6 => some (.inl (some (.inl (xk 0))), s6))) := rfl
set_option maxRecDepth 100000 in
theorem EL_told (F : Nat) (l0 : Option Nat) (l1 : Int32) (l2 : Int32) (l3 : Option Nat) (s0 : XH) : JL_told (F + 1) l0 l1 l2 l3 s0 = (xgd s0 l0 11 (xcx (J11_told F l0 l1 l2 s0) (fun e5 a4 s3 => if e5 = 50 then (some (.inl (some (.inl (xk 1))), s3)) else none) fun v2 s1 => (xsl s1 l3 (xk 0) (Int32.toInt64 v2)).bind fun s6 => some (.inl (some (.inl (xk 0))), s6))) := rfl
set_option maxRecDepth 100000 in
theorem EL_charge (F : Nat) (l0 : Option Nat) (l1 : Int32) (l2 : Int32) (l3 : Option Nat) (s0 : XH) : JL_charge (F + 1) l0 l1 l2 l3 s0 = (xgd s0 l0 11 (xcx (J11_charge F l0 l1 l2 s0) (fun e5 a4 s3 => if e5 = 51 then (some (.inl (some (.inl (xk 1))), s3)) else none) fun v2 s1 => (xsl s1 l3 (xk 0) (Int32.toInt64 v2)).bind fun s6 => some (.inl (some (.inl (xk 0))), s6))) := rfl
set_option maxRecDepth 100000 in
theorem EL_release (F : Nat) (l0 : Option Nat) (l1 : Int32) (l2 : Int32) (l3 : Option Nat) (s0 : XH) : JL_release (F + 1) l0 l1 l2 l3 s0 = (xgd s0 l0 11 (xcx (J11_release F l0 l1 l2 s0) (fun e5 a4 s3 => if e5 = 51 then (some (.inl (some (.inl (xk 1))), s3)) else none) fun v2 s1 => (xsl s1 l3 (xk 0) (Int32.toInt64 v2)).bind fun s6 => some (.inl (some (.inl (xk 0))), s6))) := rfl
set_option maxRecDepth 100000 in
theorem EL_cache (F : Nat) (l0 : Option Nat) (l1 : Int32) (l2 : Int32) (l3 : Option Nat) (s0 : XH) : JL_cache (F + 1) l0 l1 l2 l3 s0 = (xgd s0 l0 11 (xcx (J11_cache F l0 l1 l2 s0) (fun e5 a4 s3 => if e5 = 51 then (some (.inl (some (.inl (xk 1))), s3)) else none) fun v2 s1 => (xsl s1 l3 (xk 0) (Int32.toInt64 v2)).bind fun s6 => some (.inl (some (.inl (xk 0))), s6))) := rfl
set_option maxRecDepth 100000 in
theorem EL_badness (F : Nat) (l0 : Option Nat) (l1 : Int32) (l2 : Int32) (l3 : Option Nat) (s0 : XH) : JL_badness (F + 1) l0 l1 l2 l3 s0 = (xgd s0 l0 11 (xcx (J11_badness F l0 l1 l2 s0) (fun e5 a4 s3 => if e5 = 51 then (some (.inl (some (.inl (xk 1))), s3)) else none) fun v2 s1 => (xsl s1 l3 (xk 0) (Int32.toInt64 v2)).bind fun s6 => some (.inl (some (.inl (xk 0))), s6))) := rfl
set_option maxRecDepth 100000 in
theorem EL_ticks (F : Nat) (l0 : Option Nat) (l1 : Int32) (l2 : Option Nat) (s0 : XH) : JL_ticks (F + 1) l0 l1 l2 s0 = (xgd s0 l0 11 (xcx (J11_ticks F l0 l1 s0) (fun e5 a4 s3 => if e5 = 51 then (some (.inl (some (.inl (xk 1))), s3)) else none) fun v2 s1 => (xsl s1 l2 (xk 0) (Int32.toInt64 v2)).bind fun s6 => some (.inl (some (.inl (xk 0))), s6))) := rfl
set_option maxRecDepth 100000 in
theorem EL_mount (F : Nat) (l0 : Option Nat) (l1 : Int32) (l2 : Int32) (l3 : Int32) (l4 : Int32) (l5 : Option Nat) (s0 : XH) : JL_mount (F + 1) l0 l1 l2 l3 l4 l5 s0 = (xgd s0 l0 11 (xcx (J11_mount F l0 l1 l2 l3 l4 s0) (fun e5 a4 s3 => if e5 = 51 then (some (.inl (some (.inl (xk 1))), s3)) else none) fun v2 s1 => (xsl s1 l5 (xk 0) (Int32.toInt64 v2)).bind fun s6 => some (.inl (some (.inl (xk 0))), s6))) := rfl
set_option maxRecDepth 100000 in
theorem EL_share (F : Nat) (l0 : Option Nat) (l1 : Int32) (l2 : Int32) (l3 : Option Nat) (s0 : XH) : JL_share (F + 1) l0 l1 l2 l3 s0 = (xgd s0 l0 11 (xcx (J11_share F l0 l1 l2 s0) (fun e5 a4 s3 => if e5 = 50 then (some (.inl (some (.inl (xk 1))), s3)) else none) fun v2 s1 => (xsl s1 l3 (xk 0) (Int32.toInt64 v2)).bind fun s6 => some (.inl (some (.inl (xk 0))), s6))) := rfl
set_option maxRecDepth 100000 in
theorem EL_mounted (F : Nat) (l0 : Option Nat) (l1 : Int32) (l2 : Int32) (l3 : Option Nat) (s0 : XH) : JL_mounted (F + 1) l0 l1 l2 l3 s0 = (xgd s0 l0 11 (xcx (J11_mounted F l0 l1 l2 s0) (fun e5 a4 s3 => if e5 = 50 then (some (.inl (some (.inl (xk 1))), s3)) else none) fun v2 s1 => (xsl s1 l3 (xk 0) (Int32.toInt64 v2)).bind fun s6 => some (.inl (some (.inl (xk 0))), s6))) := rfl
end
section
set_option maxRecDepth 100000 in
theorem EL_law (F : Nat) (l0 : Option Nat) (s0 : XH) : JL_law (F + 1) l0 s0 = (xnw s0 (11, xdf 11) fun a1 s2 => xcv (J11_init F (some a1) s2) fun s3 => xnw s3 (12, xdf 12) fun a4 s5 => xcv (J12_init F (some a4) s5) fun s6 => xnwa s6 101 (.inr (.inl 0)) (xk 1) fun a7 s8 => JL_law_23 F (l0) (some a1) (some a4) (some a7) (xk 0) s8) := rfl
set_option maxRecDepth 100000 in
theorem EL_law_23 (F : Nat) (l0 : Option Nat) (l1 : Option Nat) (l2 : Option Nat) (l3 : Option Nat) (l4 : Int32) (s0 : XH) : JL_law_23 (F + 1) l0 l1 l2 l3 l4 s0 = ((xln s0 l0).bind fun v1 => if (v1 - (xk 5)) < l4 then (if (xk 1) = 0 ∨ (xk 1) = 1 then some (.inl (some (.inl (xk 1))), s0) else none) else ((xai s0 l0 l4).bind fun v2 => if (v2 &&& (xk 31)) = nI 0 then ((xai s0 l0 (l4 + (xk 1))).bind fun v3 => (xai s0 l0 (l4 + (xk 2))).bind fun v4 => if v4 = 0 then ((xai s0 l0 (l4 + (xk 3))).bind fun v5 => if v5 = 0 then (xgd s0 l1 11 (xci (J11_fork F l1 v3 (xk 0) (xk 0) s0) fun v7 s6 => (xai s6 l0 (l4 + (xk 1))).bind fun v8 => (xai s6 l0 (l4 + (xk 2))).bind fun v9 => if v9 = 0 then ((xai s6 l0 (l4 + (xk 3))).bind fun v10 => if v10 = 0 then (xgd s6 l2 12 (xci (J12_fork F l2 v8 (xk 0) (xk 0) s6) fun v12 s11 => if v7 = v12 then (JL_law_23 F (l0) (l1) (l2) (l3) (l4 + xk 5) s11) else (if (xk 0) = 0 ∨ (xk 0) = 1 then some (.inl (some (.inl (xk 0))), s11) else none))) else (xgd s6 l2 12 (xci (J12_fork F l2 v8 (xk 0) (xk 1) s6) fun v14 s13 => if v7 = v14 then (JL_law_23 F (l0) (l1) (l2) (l3) (l4 + xk 5) s13) else (if (xk 0) = 0 ∨ (xk 0) = 1 then some (.inl (some (.inl (xk 0))), s13) else none)))) else ((xai s6 l0 (l4 + (xk 3))).bind fun v15 => if v15 = 0 then (xgd s6 l2 12 (xci (J12_fork F l2 v8 (xk 1) (xk 0) s6) fun v17 s16 => if v7 = v17 then (JL_law_23 F (l0) (l1) (l2) (l3) (l4 + xk 5) s16) else (if (xk 0) = 0 ∨ (xk 0) = 1 then some (.inl (some (.inl (xk 0))), s16) else none))) else (xgd s6 l2 12 (xci (J12_fork F l2 v8 (xk 1) (xk 1) s6) fun v19 s18 => if v7 = v19 then (JL_law_23 F (l0) (l1) (l2) (l3) (l4 + xk 5) s18) else (if (xk 0) = 0 ∨ (xk 0) = 1 then some (.inl (some (.inl (xk 0))), s18) else none)))))) else (xgd s0 l1 11 (xci (J11_fork F l1 v3 (xk 0) (xk 1) s0) fun v21 s20 => (xai s20 l0 (l4 + (xk 1))).bind fun v22 => (xai s20 l0 (l4 + (xk 2))).bind fun v23 => if v23 = 0 then ((xai s20 l0 (l4 + (xk 3))).bind fun v24 => if v24 = 0 then (xgd s20 l2 12 (xci (J12_fork F l2 v22 (xk 0) (xk 0) s20) fun v26 s25 => if v21 = v26 then (JL_law_23 F (l0) (l1) (l2) (l3) (l4 + xk 5) s25) else (if (xk 0) = 0 ∨ (xk 0) = 1 then some (.inl (some (.inl (xk 0))), s25) else none))) else (xgd s20 l2 12 (xci (J12_fork F l2 v22 (xk 0) (xk 1) s20) fun v28 s27 => if v21 = v28 then (JL_law_23 F (l0) (l1) (l2) (l3) (l4 + xk 5) s27) else (if (xk 0) = 0 ∨ (xk 0) = 1 then some (.inl (some (.inl (xk 0))), s27) else none)))) else ((xai s20 l0 (l4 + (xk 3))).bind fun v29 => if v29 = 0 then (xgd s20 l2 12 (xci (J12_fork F l2 v22 (xk 1) (xk 0) s20) fun v31 s30 => if v21 = v31 then (JL_law_23 F (l0) (l1) (l2) (l3) (l4 + xk 5) s30) else (if (xk 0) = 0 ∨ (xk 0) = 1 then some (.inl (some (.inl (xk 0))), s30) else none))) else (xgd s20 l2 12 (xci (J12_fork F l2 v22 (xk 1) (xk 1) s20) fun v33 s32 => if v21 = v33 then (JL_law_23 F (l0) (l1) (l2) (l3) (l4 + xk 5) s32) else (if (xk 0) = 0 ∨ (xk 0) = 1 then some (.inl (some (.inl (xk 0))), s32) else none))))))) else ((xai s0 l0 (l4 + (xk 3))).bind fun v34 => if v34 = 0 then (xgd s0 l1 11 (xci (J11_fork F l1 v3 (xk 1) (xk 0) s0) fun v36 s35 => (xai s35 l0 (l4 + (xk 1))).bind fun v37 => (xai s35 l0 (l4 + (xk 2))).bind fun v38 => if v38 = 0 then ((xai s35 l0 (l4 + (xk 3))).bind fun v39 => if v39 = 0 then (xgd s35 l2 12 (xci (J12_fork F l2 v37 (xk 0) (xk 0) s35) fun v41 s40 => if v36 = v41 then (JL_law_23 F (l0) (l1) (l2) (l3) (l4 + xk 5) s40) else (if (xk 0) = 0 ∨ (xk 0) = 1 then some (.inl (some (.inl (xk 0))), s40) else none))) else (xgd s35 l2 12 (xci (J12_fork F l2 v37 (xk 0) (xk 1) s35) fun v43 s42 => if v36 = v43 then (JL_law_23 F (l0) (l1) (l2) (l3) (l4 + xk 5) s42) else (if (xk 0) = 0 ∨ (xk 0) = 1 then some (.inl (some (.inl (xk 0))), s42) else none)))) else ((xai s35 l0 (l4 + (xk 3))).bind fun v44 => if v44 = 0 then (xgd s35 l2 12 (xci (J12_fork F l2 v37 (xk 1) (xk 0) s35) fun v46 s45 => if v36 = v46 then (JL_law_23 F (l0) (l1) (l2) (l3) (l4 + xk 5) s45) else (if (xk 0) = 0 ∨ (xk 0) = 1 then some (.inl (some (.inl (xk 0))), s45) else none))) else (xgd s35 l2 12 (xci (J12_fork F l2 v37 (xk 1) (xk 1) s35) fun v48 s47 => if v36 = v48 then (JL_law_23 F (l0) (l1) (l2) (l3) (l4 + xk 5) s47) else (if (xk 0) = 0 ∨ (xk 0) = 1 then some (.inl (some (.inl (xk 0))), s47) else none)))))) else (xgd s0 l1 11 (xci (J11_fork F l1 v3 (xk 1) (xk 1) s0) fun v50 s49 => (xai s49 l0 (l4 + (xk 1))).bind fun v51 => (xai s49 l0 (l4 + (xk 2))).bind fun v52 => if v52 = 0 then ((xai s49 l0 (l4 + (xk 3))).bind fun v53 => if v53 = 0 then (xgd s49 l2 12 (xci (J12_fork F l2 v51 (xk 0) (xk 0) s49) fun v55 s54 => if v50 = v55 then (JL_law_23 F (l0) (l1) (l2) (l3) (l4 + xk 5) s54) else (if (xk 0) = 0 ∨ (xk 0) = 1 then some (.inl (some (.inl (xk 0))), s54) else none))) else (xgd s49 l2 12 (xci (J12_fork F l2 v51 (xk 0) (xk 1) s49) fun v57 s56 => if v50 = v57 then (JL_law_23 F (l0) (l1) (l2) (l3) (l4 + xk 5) s56) else (if (xk 0) = 0 ∨ (xk 0) = 1 then some (.inl (some (.inl (xk 0))), s56) else none)))) else ((xai s49 l0 (l4 + (xk 3))).bind fun v58 => if v58 = 0 then (xgd s49 l2 12 (xci (J12_fork F l2 v51 (xk 1) (xk 0) s49) fun v60 s59 => if v50 = v60 then (JL_law_23 F (l0) (l1) (l2) (l3) (l4 + xk 5) s59) else (if (xk 0) = 0 ∨ (xk 0) = 1 then some (.inl (some (.inl (xk 0))), s59) else none))) else (xgd s49 l2 12 (xci (J12_fork F l2 v51 (xk 1) (xk 1) s49) fun v62 s61 => if v50 = v62 then (JL_law_23 F (l0) (l1) (l2) (l3) (l4 + xk 5) s61) else (if (xk 0) = 0 ∨ (xk 0) = 1 then some (.inl (some (.inl (xk 0))), s61) else none)))))))) else if (v2 &&& (xk 31)) = nI 1 then ((xai s0 l0 (l4 + (xk 1))).bind fun v63 => xgd s0 l1 11 (xci (J11_exit F l1 v63 s0) fun v65 s64 => (xai s64 l0 (l4 + (xk 1))).bind fun v66 => xgd s64 l2 12 (xci (J12_exit F l2 v66 s64) fun v68 s67 => if v65 = v68 then (JL_law_23 F (l0) (l1) (l2) (l3) (l4 + xk 5) s67) else (if (xk 0) = 0 ∨ (xk 0) = 1 then some (.inl (some (.inl (xk 0))), s67) else none)))) else if (v2 &&& (xk 31)) = nI 2 then ((xai s0 l0 (l4 + (xk 1))).bind fun v69 => xgd s0 l1 11 (xci (J11_reap F l1 v69 s0) fun v71 s70 => (xai s70 l0 (l4 + (xk 1))).bind fun v72 => xgd s70 l2 12 (xci (J12_reap F l2 v72 s70) fun v74 s73 => if v71 = v74 then (JL_law_23 F (l0) (l1) (l2) (l3) (l4 + xk 5) s73) else (if (xk 0) = 0 ∨ (xk 0) = 1 then some (.inl (some (.inl (xk 0))), s73) else none)))) else if (v2 &&& (xk 31)) = nI 3 then ((xai s0 l0 (l4 + (xk 1))).bind fun v75 => (xai s0 l0 (l4 + (xk 2))).bind fun v76 => xgd s0 l1 11 (xci (J11_kill F l1 v75 v76 s0) fun v78 s77 => (xai s77 l0 (l4 + (xk 1))).bind fun v79 => (xai s77 l0 (l4 + (xk 2))).bind fun v80 => xgd s77 l2 12 (xci (J12_kill F l2 v79 v80 s77) fun v82 s81 => if v78 = v82 then (JL_law_23 F (l0) (l1) (l2) (l3) (l4 + xk 5) s81) else (if (xk 0) = 0 ∨ (xk 0) = 1 then some (.inl (some (.inl (xk 0))), s81) else none)))) else if (v2 &&& (xk 31)) = nI 4 then ((xai s0 l0 (l4 + (xk 1))).bind fun v83 => (xai s0 l0 (l4 + (xk 2))).bind fun v84 => xci (JL_number F l1 v83 v84 l3 s0) fun v86 s85 => (xai s85 l0 (l4 + (xk 1))).bind fun v87 => (xai s85 l0 (l4 + (xk 2))).bind fun v88 => xgd s85 l2 12 (xci (J12_number F l2 v87 v88 s85) fun v90 s89 => xgd s89 l2 12 (xci (J12_thrown F l2 s89) fun v92 s91 => if v92 = v86 then (if v86 = 0 then ((xal s91 l3 (xk 0)).bind fun v93 => if (lg_cmp v93 (Int32.toInt64 v90)) = 0 then (JL_law_23 F (l0) (l1) (l2) (l3) (l4 + xk 5) s91) else (if (xk 0) = 0 ∨ (xk 0) = 1 then some (.inl (some (.inl (xk 0))), s91) else none)) else (JL_law_23 F (l0) (l1) (l2) (l3) (l4 + xk 5) s91)) else (if (xk 0) = 0 ∨ (xk 0) = 1 then some (.inl (some (.inl (xk 0))), s91) else none)))) else if (v2 &&& (xk 31)) = nI 5 then ((xai s0 l0 (l4 + (xk 1))).bind fun v94 => (xai s0 l0 (l4 + (xk 2))).bind fun v95 => xci (JL_find F l1 v94 v95 l3 s0) fun v97 s96 => (xai s96 l0 (l4 + (xk 1))).bind fun v98 => (xai s96 l0 (l4 + (xk 2))).bind fun v99 => xgd s96 l2 12 (xci (J12_find F l2 v98 v99 s96) fun v101 s100 => xgd s100 l2 12 (xci (J12_thrown F l2 s100) fun v103 s102 => if v103 = v97 then (if v97 = 0 then ((xal s102 l3 (xk 0)).bind fun v104 => if (lg_cmp v104 (Int32.toInt64 v101)) = 0 then (JL_law_23 F (l0) (l1) (l2) (l3) (l4 + xk 5) s102) else (if (xk 0) = 0 ∨ (xk 0) = 1 then some (.inl (some (.inl (xk 0))), s102) else none)) else (JL_law_23 F (l0) (l1) (l2) (l3) (l4 + xk 5) s102)) else (if (xk 0) = 0 ∨ (xk 0) = 1 then some (.inl (some (.inl (xk 0))), s102) else none)))) else if (v2 &&& (xk 31)) = nI 6 then ((xai s0 l0 (l4 + (xk 1))).bind fun v105 => (xai s0 l0 (l4 + (xk 2))).bind fun v106 => xci (JL_task F l1 v105 v106 l3 s0) fun v108 s107 => (xai s107 l0 (l4 + (xk 1))).bind fun v109 => (xai s107 l0 (l4 + (xk 2))).bind fun v110 => xgd s107 l2 12 (xci (J12_task F l2 v109 v110 s107) fun v112 s111 => xgd s111 l2 12 (xci (J12_thrown F l2 s111) fun v114 s113 => if v114 = v108 then (if v108 = 0 then ((xal s113 l3 (xk 0)).bind fun v115 => if (lg_cmp v115 (Int32.toInt64 v112)) = 0 then (JL_law_23 F (l0) (l1) (l2) (l3) (l4 + xk 5) s113) else (if (xk 0) = 0 ∨ (xk 0) = 1 then some (.inl (some (.inl (xk 0))), s113) else none)) else (JL_law_23 F (l0) (l1) (l2) (l3) (l4 + xk 5) s113)) else (if (xk 0) = 0 ∨ (xk 0) = 1 then some (.inl (some (.inl (xk 0))), s113) else none)))) else if (v2 &&& (xk 31)) = nI 7 then ((xai s0 l0 (l4 + (xk 1))).bind fun v116 => xci (JL_count F l1 v116 l3 s0) fun v118 s117 => (xai s117 l0 (l4 + (xk 1))).bind fun v119 => xgd s117 l2 12 (xci (J12_count F l2 v119 s117) fun v121 s120 => xgd s120 l2 12 (xci (J12_thrown F l2 s120) fun v123 s122 => if v123 = v118 then (if v118 = 0 then ((xal s122 l3 (xk 0)).bind fun v124 => if (lg_cmp v124 (Int32.toInt64 v121)) = 0 then (JL_law_23 F (l0) (l1) (l2) (l3) (l4 + xk 5) s122) else (if (xk 0) = 0 ∨ (xk 0) = 1 then some (.inl (some (.inl (xk 0))), s122) else none)) else (JL_law_23 F (l0) (l1) (l2) (l3) (l4 + xk 5) s122)) else (if (xk 0) = 0 ∨ (xk 0) = 1 then some (.inl (some (.inl (xk 0))), s122) else none)))) else if (v2 &&& (xk 31)) = nI 8 then ((xai s0 l0 (l4 + (xk 1))).bind fun v125 => xgd s0 l1 11 (xci (J11_group F l1 v125 s0) fun v127 s126 => (xai s126 l0 (l4 + (xk 1))).bind fun v128 => xgd s126 l2 12 (xci (J12_group F l2 v128 s126) fun v130 s129 => if v127 = v130 then (JL_law_23 F (l0) (l1) (l2) (l3) (l4 + xk 5) s129) else (if (xk 0) = 0 ∨ (xk 0) = 1 then some (.inl (some (.inl (xk 0))), s129) else none)))) else if (v2 &&& (xk 31)) = nI 9 then ((xai s0 l0 (l4 + (xk 1))).bind fun v131 => (xai s0 l0 (l4 + (xk 2))).bind fun v132 => (xai s0 l0 (l4 + (xk 3))).bind fun v133 => xci (JL_set F l1 v131 v132 v133 l3 s0) fun v135 s134 => (xai s134 l0 (l4 + (xk 1))).bind fun v136 => (xai s134 l0 (l4 + (xk 2))).bind fun v137 => (xai s134 l0 (l4 + (xk 3))).bind fun v138 => xgd s134 l2 12 (xci (J12_set F l2 v136 v137 v138 s134) fun v140 s139 => xgd s139 l2 12 (xci (J12_thrown F l2 s139) fun v142 s141 => if v142 = v135 then (if v135 = 0 then ((xal s141 l3 (xk 0)).bind fun v143 => if (lg_cmp v143 (Int32.toInt64 v140)) = 0 then (JL_law_23 F (l0) (l1) (l2) (l3) (l4 + xk 5) s141) else (if (xk 0) = 0 ∨ (xk 0) = 1 then some (.inl (some (.inl (xk 0))), s141) else none)) else (JL_law_23 F (l0) (l1) (l2) (l3) (l4 + xk 5) s141)) else (if (xk 0) = 0 ∨ (xk 0) = 1 then some (.inl (some (.inl (xk 0))), s141) else none)))) else if (v2 &&& (xk 31)) = nI 10 then ((xai s0 l0 (l4 + (xk 1))).bind fun v144 => (xai s0 l0 (l4 + (xk 2))).bind fun v145 => xci (JL_told F l1 v144 v145 l3 s0) fun v147 s146 => (xai s146 l0 (l4 + (xk 1))).bind fun v148 => (xai s146 l0 (l4 + (xk 2))).bind fun v149 => xgd s146 l2 12 (xci (J12_told F l2 v148 v149 s146) fun v151 s150 => xgd s150 l2 12 (xci (J12_thrown F l2 s150) fun v153 s152 => if v153 = v147 then (if v147 = 0 then ((xal s152 l3 (xk 0)).bind fun v154 => if (lg_cmp v154 (Int32.toInt64 v151)) = 0 then (JL_law_23 F (l0) (l1) (l2) (l3) (l4 + xk 5) s152) else (if (xk 0) = 0 ∨ (xk 0) = 1 then some (.inl (some (.inl (xk 0))), s152) else none)) else (JL_law_23 F (l0) (l1) (l2) (l3) (l4 + xk 5) s152)) else (if (xk 0) = 0 ∨ (xk 0) = 1 then some (.inl (some (.inl (xk 0))), s152) else none)))) else if (v2 &&& (xk 31)) = nI 11 then ((xai s0 l0 (l4 + (xk 1))).bind fun v155 => (xai s0 l0 (l4 + (xk 2))).bind fun v156 => xci (JL_charge F l1 v155 v156 l3 s0) fun v158 s157 => (xai s157 l0 (l4 + (xk 1))).bind fun v159 => (xai s157 l0 (l4 + (xk 2))).bind fun v160 => xgd s157 l2 12 (xci (J12_charge F l2 v159 v160 s157) fun v162 s161 => xgd s161 l2 12 (xci (J12_thrown F l2 s161) fun v164 s163 => if v164 = v158 then (if v158 = 0 then ((xal s163 l3 (xk 0)).bind fun v165 => if (lg_cmp v165 (Int32.toInt64 v162)) = 0 then (JL_law_23 F (l0) (l1) (l2) (l3) (l4 + xk 5) s163) else (if (xk 0) = 0 ∨ (xk 0) = 1 then some (.inl (some (.inl (xk 0))), s163) else none)) else (JL_law_23 F (l0) (l1) (l2) (l3) (l4 + xk 5) s163)) else (if (xk 0) = 0 ∨ (xk 0) = 1 then some (.inl (some (.inl (xk 0))), s163) else none)))) else if (v2 &&& (xk 31)) = nI 12 then ((xai s0 l0 (l4 + (xk 1))).bind fun v166 => (xai s0 l0 (l4 + (xk 2))).bind fun v167 => xci (JL_release F l1 v166 v167 l3 s0) fun v169 s168 => (xai s168 l0 (l4 + (xk 1))).bind fun v170 => (xai s168 l0 (l4 + (xk 2))).bind fun v171 => xgd s168 l2 12 (xci (J12_release F l2 v170 v171 s168) fun v173 s172 => xgd s172 l2 12 (xci (J12_thrown F l2 s172) fun v175 s174 => if v175 = v169 then (if v169 = 0 then ((xal s174 l3 (xk 0)).bind fun v176 => if (lg_cmp v176 (Int32.toInt64 v173)) = 0 then (JL_law_23 F (l0) (l1) (l2) (l3) (l4 + xk 5) s174) else (if (xk 0) = 0 ∨ (xk 0) = 1 then some (.inl (some (.inl (xk 0))), s174) else none)) else (JL_law_23 F (l0) (l1) (l2) (l3) (l4 + xk 5) s174)) else (if (xk 0) = 0 ∨ (xk 0) = 1 then some (.inl (some (.inl (xk 0))), s174) else none)))) else if (v2 &&& (xk 31)) = nI 13 then ((xai s0 l0 (l4 + (xk 1))).bind fun v177 => (xai s0 l0 (l4 + (xk 2))).bind fun v178 => xci (JL_cache F l1 v177 v178 l3 s0) fun v180 s179 => (xai s179 l0 (l4 + (xk 1))).bind fun v181 => (xai s179 l0 (l4 + (xk 2))).bind fun v182 => xgd s179 l2 12 (xci (J12_cache F l2 v181 v182 s179) fun v184 s183 => xgd s183 l2 12 (xci (J12_thrown F l2 s183) fun v186 s185 => if v186 = v180 then (if v180 = 0 then ((xal s185 l3 (xk 0)).bind fun v187 => if (lg_cmp v187 (Int32.toInt64 v184)) = 0 then (JL_law_23 F (l0) (l1) (l2) (l3) (l4 + xk 5) s185) else (if (xk 0) = 0 ∨ (xk 0) = 1 then some (.inl (some (.inl (xk 0))), s185) else none)) else (JL_law_23 F (l0) (l1) (l2) (l3) (l4 + xk 5) s185)) else (if (xk 0) = 0 ∨ (xk 0) = 1 then some (.inl (some (.inl (xk 0))), s185) else none)))) else if (v2 &&& (xk 31)) = nI 14 then ((xai s0 l0 (l4 + (xk 1))).bind fun v188 => (xai s0 l0 (l4 + (xk 2))).bind fun v189 => xgd s0 l1 11 (xci (J11_move F l1 v188 v189 s0) fun v191 s190 => (xai s190 l0 (l4 + (xk 1))).bind fun v192 => (xai s190 l0 (l4 + (xk 2))).bind fun v193 => xgd s190 l2 12 (xci (J12_move F l2 v192 v193 s190) fun v195 s194 => if v191 = v195 then (JL_law_23 F (l0) (l1) (l2) (l3) (l4 + xk 5) s194) else (if (xk 0) = 0 ∨ (xk 0) = 1 then some (.inl (some (.inl (xk 0))), s194) else none)))) else if (v2 &&& (xk 31)) = nI 15 then ((xai s0 l0 (l4 + (xk 1))).bind fun v196 => (xai s0 l0 (l4 + (xk 2))).bind fun v197 => xci (JL_badness F l1 v196 v197 l3 s0) fun v199 s198 => (xai s198 l0 (l4 + (xk 1))).bind fun v200 => (xai s198 l0 (l4 + (xk 2))).bind fun v201 => xgd s198 l2 12 (xci (J12_badness F l2 v200 v201 s198) fun v203 s202 => xgd s202 l2 12 (xci (J12_thrown F l2 s202) fun v205 s204 => if v205 = v199 then (if v199 = 0 then ((xal s204 l3 (xk 0)).bind fun v206 => if (lg_cmp v206 (Int32.toInt64 v203)) = 0 then (JL_law_23 F (l0) (l1) (l2) (l3) (l4 + xk 5) s204) else (if (xk 0) = 0 ∨ (xk 0) = 1 then some (.inl (some (.inl (xk 0))), s204) else none)) else (JL_law_23 F (l0) (l1) (l2) (l3) (l4 + xk 5) s204)) else (if (xk 0) = 0 ∨ (xk 0) = 1 then some (.inl (some (.inl (xk 0))), s204) else none)))) else if (v2 &&& (xk 31)) = nI 16 then ((xai s0 l0 (l4 + (xk 1))).bind fun v207 => xci (JL_ticks F l1 v207 l3 s0) fun v209 s208 => (xai s208 l0 (l4 + (xk 1))).bind fun v210 => xgd s208 l2 12 (xci (J12_ticks F l2 v210 s208) fun v212 s211 => xgd s211 l2 12 (xci (J12_thrown F l2 s211) fun v214 s213 => if v214 = v209 then (if v209 = 0 then ((xal s213 l3 (xk 0)).bind fun v215 => if (lg_cmp v215 (Int32.toInt64 v212)) = 0 then (JL_law_23 F (l0) (l1) (l2) (l3) (l4 + xk 5) s213) else (if (xk 0) = 0 ∨ (xk 0) = 1 then some (.inl (some (.inl (xk 0))), s213) else none)) else (JL_law_23 F (l0) (l1) (l2) (l3) (l4 + xk 5) s213)) else (if (xk 0) = 0 ∨ (xk 0) = 1 then some (.inl (some (.inl (xk 0))), s213) else none)))) else if (v2 &&& (xk 31)) = nI 17 then ((xai s0 l0 (l4 + (xk 1))).bind fun v216 => (xai s0 l0 (l4 + (xk 2))).bind fun v217 => if v217 = 0 then (xgd s0 l1 11 (xci (J11_sleep F l1 v216 (xk 0) s0) fun v219 s218 => (xai s218 l0 (l4 + (xk 1))).bind fun v220 => (xai s218 l0 (l4 + (xk 2))).bind fun v221 => if v221 = 0 then (xgd s218 l2 12 (xci (J12_sleep F l2 v220 (xk 0) s218) fun v223 s222 => if v219 = v223 then (JL_law_23 F (l0) (l1) (l2) (l3) (l4 + xk 5) s222) else (if (xk 0) = 0 ∨ (xk 0) = 1 then some (.inl (some (.inl (xk 0))), s222) else none))) else (xgd s218 l2 12 (xci (J12_sleep F l2 v220 (xk 1) s218) fun v225 s224 => if v219 = v225 then (JL_law_23 F (l0) (l1) (l2) (l3) (l4 + xk 5) s224) else (if (xk 0) = 0 ∨ (xk 0) = 1 then some (.inl (some (.inl (xk 0))), s224) else none))))) else (xgd s0 l1 11 (xci (J11_sleep F l1 v216 (xk 1) s0) fun v227 s226 => (xai s226 l0 (l4 + (xk 1))).bind fun v228 => (xai s226 l0 (l4 + (xk 2))).bind fun v229 => if v229 = 0 then (xgd s226 l2 12 (xci (J12_sleep F l2 v228 (xk 0) s226) fun v231 s230 => if v227 = v231 then (JL_law_23 F (l0) (l1) (l2) (l3) (l4 + xk 5) s230) else (if (xk 0) = 0 ∨ (xk 0) = 1 then some (.inl (some (.inl (xk 0))), s230) else none))) else (xgd s226 l2 12 (xci (J12_sleep F l2 v228 (xk 1) s226) fun v233 s232 => if v227 = v233 then (JL_law_23 F (l0) (l1) (l2) (l3) (l4 + xk 5) s232) else (if (xk 0) = 0 ∨ (xk 0) = 1 then some (.inl (some (.inl (xk 0))), s232) else none)))))) else if (v2 &&& (xk 31)) = nI 18 then ((xai s0 l0 (l4 + (xk 1))).bind fun v234 => xgd s0 l1 11 (xci (J11_ran F l1 v234 s0) fun v236 s235 => (xai s235 l0 (l4 + (xk 1))).bind fun v237 => xgd s235 l2 12 (xci (J12_ran F l2 v237 s235) fun v239 s238 => if v236 = v239 then (JL_law_23 F (l0) (l1) (l2) (l3) (l4 + xk 5) s238) else (if (xk 0) = 0 ∨ (xk 0) = 1 then some (.inl (some (.inl (xk 0))), s238) else none)))) else if (v2 &&& (xk 31)) = nI 19 then ((xai s0 l0 (l4 + (xk 1))).bind fun v240 => if v240 = 0 then ((xai s0 l0 (l4 + (xk 2))).bind fun v241 => xgd s0 l1 11 (xcl (J11_time F l1 (xk 0) v241 s0) fun v243 s242 => (xai s242 l0 (l4 + (xk 1))).bind fun v244 => if v244 = 0 then ((xai s242 l0 (l4 + (xk 2))).bind fun v245 => xgd s242 l2 12 (xcl (J12_time F l2 (xk 0) v245 s242) fun v247 s246 => if (lg_cmp v243 v247) = 0 then (JL_law_23 F (l0) (l1) (l2) (l3) (l4 + xk 5) s246) else (if (xk 0) = 0 ∨ (xk 0) = 1 then some (.inl (some (.inl (xk 0))), s246) else none))) else ((xai s242 l0 (l4 + (xk 2))).bind fun v248 => xgd s242 l2 12 (xcl (J12_time F l2 (xk 1) v248 s242) fun v250 s249 => if (lg_cmp v243 v250) = 0 then (JL_law_23 F (l0) (l1) (l2) (l3) (l4 + xk 5) s249) else (if (xk 0) = 0 ∨ (xk 0) = 1 then some (.inl (some (.inl (xk 0))), s249) else none))))) else ((xai s0 l0 (l4 + (xk 2))).bind fun v251 => xgd s0 l1 11 (xcl (J11_time F l1 (xk 1) v251 s0) fun v253 s252 => (xai s252 l0 (l4 + (xk 1))).bind fun v254 => if v254 = 0 then ((xai s252 l0 (l4 + (xk 2))).bind fun v255 => xgd s252 l2 12 (xcl (J12_time F l2 (xk 0) v255 s252) fun v257 s256 => if (lg_cmp v253 v257) = 0 then (JL_law_23 F (l0) (l1) (l2) (l3) (l4 + xk 5) s256) else (if (xk 0) = 0 ∨ (xk 0) = 1 then some (.inl (some (.inl (xk 0))), s256) else none))) else ((xai s252 l0 (l4 + (xk 2))).bind fun v258 => xgd s252 l2 12 (xcl (J12_time F l2 (xk 1) v258 s252) fun v260 s259 => if (lg_cmp v253 v260) = 0 then (JL_law_23 F (l0) (l1) (l2) (l3) (l4 + xk 5) s259) else (if (xk 0) = 0 ∨ (xk 0) = 1 then some (.inl (some (.inl (xk 0))), s259) else none)))))) else if (v2 &&& (xk 31)) = nI 20 then ((xai s0 l0 (l4 + (xk 1))).bind fun v261 => (xai s0 l0 (l4 + (xk 2))).bind fun v262 => (xai s0 l0 (l4 + (xk 3))).bind fun v263 => (xai s0 l0 (l4 + (xk 4))).bind fun v264 => if v264 = 0 then (xci (JL_mount F l1 v261 v262 v263 (xk 0) l3 s0) fun v266 s265 => (xai s265 l0 (l4 + (xk 1))).bind fun v267 => (xai s265 l0 (l4 + (xk 2))).bind fun v268 => (xai s265 l0 (l4 + (xk 3))).bind fun v269 => (xai s265 l0 (l4 + (xk 4))).bind fun v270 => if v270 = 0 then (xgd s265 l2 12 (xci (J12_mount F l2 v267 v268 v269 (xk 0) s265) fun v272 s271 => xgd s271 l2 12 (xci (J12_thrown F l2 s271) fun v274 s273 => if v274 = v266 then (if v266 = 0 then ((xal s273 l3 (xk 0)).bind fun v275 => if (lg_cmp v275 (Int32.toInt64 v272)) = 0 then (JL_law_23 F (l0) (l1) (l2) (l3) (l4 + xk 5) s273) else (if (xk 0) = 0 ∨ (xk 0) = 1 then some (.inl (some (.inl (xk 0))), s273) else none)) else (JL_law_23 F (l0) (l1) (l2) (l3) (l4 + xk 5) s273)) else (if (xk 0) = 0 ∨ (xk 0) = 1 then some (.inl (some (.inl (xk 0))), s273) else none)))) else (xgd s265 l2 12 (xci (J12_mount F l2 v267 v268 v269 (xk 1) s265) fun v277 s276 => xgd s276 l2 12 (xci (J12_thrown F l2 s276) fun v279 s278 => if v279 = v266 then (if v266 = 0 then ((xal s278 l3 (xk 0)).bind fun v280 => if (lg_cmp v280 (Int32.toInt64 v277)) = 0 then (JL_law_23 F (l0) (l1) (l2) (l3) (l4 + xk 5) s278) else (if (xk 0) = 0 ∨ (xk 0) = 1 then some (.inl (some (.inl (xk 0))), s278) else none)) else (JL_law_23 F (l0) (l1) (l2) (l3) (l4 + xk 5) s278)) else (if (xk 0) = 0 ∨ (xk 0) = 1 then some (.inl (some (.inl (xk 0))), s278) else none))))) else (xci (JL_mount F l1 v261 v262 v263 (xk 1) l3 s0) fun v282 s281 => (xai s281 l0 (l4 + (xk 1))).bind fun v283 => (xai s281 l0 (l4 + (xk 2))).bind fun v284 => (xai s281 l0 (l4 + (xk 3))).bind fun v285 => (xai s281 l0 (l4 + (xk 4))).bind fun v286 => if v286 = 0 then (xgd s281 l2 12 (xci (J12_mount F l2 v283 v284 v285 (xk 0) s281) fun v288 s287 => xgd s287 l2 12 (xci (J12_thrown F l2 s287) fun v290 s289 => if v290 = v282 then (if v282 = 0 then ((xal s289 l3 (xk 0)).bind fun v291 => if (lg_cmp v291 (Int32.toInt64 v288)) = 0 then (JL_law_23 F (l0) (l1) (l2) (l3) (l4 + xk 5) s289) else (if (xk 0) = 0 ∨ (xk 0) = 1 then some (.inl (some (.inl (xk 0))), s289) else none)) else (JL_law_23 F (l0) (l1) (l2) (l3) (l4 + xk 5) s289)) else (if (xk 0) = 0 ∨ (xk 0) = 1 then some (.inl (some (.inl (xk 0))), s289) else none)))) else (xgd s281 l2 12 (xci (J12_mount F l2 v283 v284 v285 (xk 1) s281) fun v293 s292 => xgd s292 l2 12 (xci (J12_thrown F l2 s292) fun v295 s294 => if v295 = v282 then (if v282 = 0 then ((xal s294 l3 (xk 0)).bind fun v296 => if (lg_cmp v296 (Int32.toInt64 v293)) = 0 then (JL_law_23 F (l0) (l1) (l2) (l3) (l4 + xk 5) s294) else (if (xk 0) = 0 ∨ (xk 0) = 1 then some (.inl (some (.inl (xk 0))), s294) else none)) else (JL_law_23 F (l0) (l1) (l2) (l3) (l4 + xk 5) s294)) else (if (xk 0) = 0 ∨ (xk 0) = 1 then some (.inl (some (.inl (xk 0))), s294) else none)))))) else if (v2 &&& (xk 31)) = nI 21 then ((xai s0 l0 (l4 + (xk 1))).bind fun v297 => (xai s0 l0 (l4 + (xk 2))).bind fun v298 => xgd s0 l1 11 (xci (J11_unmount F l1 v297 v298 s0) fun v300 s299 => (xai s299 l0 (l4 + (xk 1))).bind fun v301 => (xai s299 l0 (l4 + (xk 2))).bind fun v302 => xgd s299 l2 12 (xci (J12_unmount F l2 v301 v302 s299) fun v304 s303 => if v300 = v304 then (JL_law_23 F (l0) (l1) (l2) (l3) (l4 + xk 5) s303) else (if (xk 0) = 0 ∨ (xk 0) = 1 then some (.inl (some (.inl (xk 0))), s303) else none)))) else if (v2 &&& (xk 31)) = nI 22 then ((xai s0 l0 (l4 + (xk 1))).bind fun v305 => (xai s0 l0 (l4 + (xk 2))).bind fun v306 => xgd s0 l1 11 (xci (J11_at F l1 v305 v306 s0) fun v308 s307 => (xai s307 l0 (l4 + (xk 1))).bind fun v309 => (xai s307 l0 (l4 + (xk 2))).bind fun v310 => xgd s307 l2 12 (xci (J12_at F l2 v309 v310 s307) fun v312 s311 => if v308 = v312 then (JL_law_23 F (l0) (l1) (l2) (l3) (l4 + xk 5) s311) else (if (xk 0) = 0 ∨ (xk 0) = 1 then some (.inl (some (.inl (xk 0))), s311) else none)))) else if (v2 &&& (xk 31)) = nI 23 then ((xai s0 l0 (l4 + (xk 1))).bind fun v313 => (xai s0 l0 (l4 + (xk 2))).bind fun v314 => if v314 = 0 then (xci (JL_share F l1 v313 (xk 0) l3 s0) fun v316 s315 => (xai s315 l0 (l4 + (xk 1))).bind fun v317 => (xai s315 l0 (l4 + (xk 2))).bind fun v318 => if v318 = 0 then (xgd s315 l2 12 (xci (J12_share F l2 v317 (xk 0) s315) fun v320 s319 => xgd s319 l2 12 (xci (J12_thrown F l2 s319) fun v322 s321 => if v322 = v316 then (if v316 = 0 then ((xal s321 l3 (xk 0)).bind fun v323 => if (lg_cmp v323 (Int32.toInt64 v320)) = 0 then (JL_law_23 F (l0) (l1) (l2) (l3) (l4 + xk 5) s321) else (if (xk 0) = 0 ∨ (xk 0) = 1 then some (.inl (some (.inl (xk 0))), s321) else none)) else (JL_law_23 F (l0) (l1) (l2) (l3) (l4 + xk 5) s321)) else (if (xk 0) = 0 ∨ (xk 0) = 1 then some (.inl (some (.inl (xk 0))), s321) else none)))) else (xgd s315 l2 12 (xci (J12_share F l2 v317 (xk 1) s315) fun v325 s324 => xgd s324 l2 12 (xci (J12_thrown F l2 s324) fun v327 s326 => if v327 = v316 then (if v316 = 0 then ((xal s326 l3 (xk 0)).bind fun v328 => if (lg_cmp v328 (Int32.toInt64 v325)) = 0 then (JL_law_23 F (l0) (l1) (l2) (l3) (l4 + xk 5) s326) else (if (xk 0) = 0 ∨ (xk 0) = 1 then some (.inl (some (.inl (xk 0))), s326) else none)) else (JL_law_23 F (l0) (l1) (l2) (l3) (l4 + xk 5) s326)) else (if (xk 0) = 0 ∨ (xk 0) = 1 then some (.inl (some (.inl (xk 0))), s326) else none))))) else (xci (JL_share F l1 v313 (xk 1) l3 s0) fun v330 s329 => (xai s329 l0 (l4 + (xk 1))).bind fun v331 => (xai s329 l0 (l4 + (xk 2))).bind fun v332 => if v332 = 0 then (xgd s329 l2 12 (xci (J12_share F l2 v331 (xk 0) s329) fun v334 s333 => xgd s333 l2 12 (xci (J12_thrown F l2 s333) fun v336 s335 => if v336 = v330 then (if v330 = 0 then ((xal s335 l3 (xk 0)).bind fun v337 => if (lg_cmp v337 (Int32.toInt64 v334)) = 0 then (JL_law_23 F (l0) (l1) (l2) (l3) (l4 + xk 5) s335) else (if (xk 0) = 0 ∨ (xk 0) = 1 then some (.inl (some (.inl (xk 0))), s335) else none)) else (JL_law_23 F (l0) (l1) (l2) (l3) (l4 + xk 5) s335)) else (if (xk 0) = 0 ∨ (xk 0) = 1 then some (.inl (some (.inl (xk 0))), s335) else none)))) else (xgd s329 l2 12 (xci (J12_share F l2 v331 (xk 1) s329) fun v339 s338 => xgd s338 l2 12 (xci (J12_thrown F l2 s338) fun v341 s340 => if v341 = v330 then (if v330 = 0 then ((xal s340 l3 (xk 0)).bind fun v342 => if (lg_cmp v342 (Int32.toInt64 v339)) = 0 then (JL_law_23 F (l0) (l1) (l2) (l3) (l4 + xk 5) s340) else (if (xk 0) = 0 ∨ (xk 0) = 1 then some (.inl (some (.inl (xk 0))), s340) else none)) else (JL_law_23 F (l0) (l1) (l2) (l3) (l4 + xk 5) s340)) else (if (xk 0) = 0 ∨ (xk 0) = 1 then some (.inl (some (.inl (xk 0))), s340) else none)))))) else if (v2 &&& (xk 31)) = nI 24 then ((xai s0 l0 (l4 + (xk 1))).bind fun v343 => (xai s0 l0 (l4 + (xk 2))).bind fun v344 => xci (JL_mounted F l1 v343 v344 l3 s0) fun v346 s345 => (xai s345 l0 (l4 + (xk 1))).bind fun v347 => (xai s345 l0 (l4 + (xk 2))).bind fun v348 => xgd s345 l2 12 (xci (J12_mounted F l2 v347 v348 s345) fun v350 s349 => xgd s349 l2 12 (xci (J12_thrown F l2 s349) fun v352 s351 => if v352 = v346 then (if v346 = 0 then ((xal s351 l3 (xk 0)).bind fun v353 => if (lg_cmp v353 (Int32.toInt64 v350)) = 0 then (JL_law_23 F (l0) (l1) (l2) (l3) (l4 + xk 5) s351) else (if (xk 0) = 0 ∨ (xk 0) = 1 then some (.inl (some (.inl (xk 0))), s351) else none)) else (JL_law_23 F (l0) (l1) (l2) (l3) (l4 + xk 5) s351)) else (if (xk 0) = 0 ∨ (xk 0) = 1 then some (.inl (some (.inl (xk 0))), s351) else none)))) else (JL_law_23 F (l0) (l1) (l2) (l3) (l4 + xk 5) s0))) := rfl
end
section
/-! LAYER 2: numbers, runs in the limit of fuel, the heap by names -/
theorem xk_add (a b : Int) : xk a + xk b = xk (a + b) := (Int32.ofInt_add a b).symm
theorem xk_sub (a b : Int) : xk a - xk b = xk (a - b) := (Int32.ofInt_sub a b).symm
theorem xk_mul (a b : Int) : xk a * xk b = xk (a * b) := (Int32.ofInt_mul a b).symm
theorem xk_neg (a : Int) : -xk a = xk (-a) := (Int32.ofInt_neg a).symm
/-- an int's range -/
def i32 (a : Int) : Prop := -2147483648 ≤ a ∧ a < 2147483648
theorem xk_toInt {a : Int} (h : i32 a) : (xk a).toInt = a := Int32.toInt_ofInt_of_le (by have := h.1; omega) (by have := h.2; omega)
theorem xk_inj {a b : Int} (ha : i32 a) (hb : i32 b) : xk a = xk b ↔ a = b := by
  constructor
  · intro h
    rw [← xk_toInt ha, ← xk_toInt hb, h]
  · intro h; rw [h]
theorem xk_lt {a b : Int} (ha : i32 a) (hb : i32 b) : xk a < xk b ↔ a < b := by
  rw [Int32.lt_iff_toInt_lt, xk_toInt ha, xk_toInt hb]
theorem xk_le {a b : Int} (ha : i32 a) (hb : i32 b) : xk a ≤ xk b ↔ a ≤ b := by
  rw [Int32.le_iff_toInt_le, xk_toInt ha, xk_toInt hb]
theorem xk_zero : xk 0 = 0 := by decide +kernel
theorem xk_one : xk 1 = 1 := by decide +kernel
theorem xk_eq0 {a : Int} (ha : i32 a) : xk a = 0 ↔ a = 0 := by
  rw [← xk_zero, xk_inj ha ⟨by decide, by decide⟩]
theorem xk_lt0 {a : Int} (ha : i32 a) : xk a < 0 ↔ a < 0 := by
  rw [← xk_zero, xk_lt ha ⟨by decide, by decide⟩]
theorem xk_0lt {a : Int} (ha : i32 a) : 0 < xk a ↔ 0 < a := by
  rw [← xk_zero, xk_lt ⟨by decide, by decide⟩ ha]
theorem xk_clamp {n : Nat} (h : n < 2147483648) : (xk n).toNatClampNeg = n := by
  have := xk_toInt (a := (n : Int)) ⟨by omega, by omega⟩
  show (xk n).toInt.toNat = n
  rw [this]
  rfl
theorem xk_of (x : Int32) : ∃ a : Int, i32 a ∧ x = xk a := ⟨x.toInt, ⟨Int32.le_toInt x, Int32.toInt_lt x⟩, (Int32.ofInt_toInt x).symm⟩
theorem xk_nI (n : Nat) : nI n = xk n := rfl
theorem xix_k {n N : Nat} (h : n < N) (hN : n < 2147483648) : xix (xk n) N = true := by
  unfold xix
  rw [Bool.and_eq_true, decide_eq_true_eq, decide_eq_true_eq, xk_clamp hN]
  refine ⟨?_, h⟩
  rw [← xk_zero, xk_le ⟨by decide, by decide⟩ ⟨by omega, by omega⟩]
  omega
/-- a run that comes to r, with fuel enough -/
def Ev (f : Nat → XR) (r : XV × XH) : Prop := ∃ N, ∀ F, N ≤ F → f F = some r
theorem Ev.now {f : Nat → XR} {r : XV × XH} (h : ∀ F, f (F + 1) = some r) : Ev f r := ⟨1, fun F hF => by
  obtain ⟨G, rfl⟩ : ∃ G, F = G + 1 := ⟨F - 1, by omega⟩
  exact h G⟩
theorem Ev.step {f g : Nat → XR} {r : XV × XH} (h : ∀ F, f (F + 1) = g F) (hg : Ev g r) : Ev f r := by
  obtain ⟨N, hN⟩ := hg
  refine ⟨N + 1, fun F hF => ?_⟩
  obtain ⟨G, rfl⟩ : ∃ G, F = G + 1 := ⟨F - 1, by omega⟩
  rw [h G]
  exact hN G (by omega)
/-- behind a call -/
theorem Ev.ci {c f : Nat → XR} {k : Nat → Int32 → XH → XR} {x : Int32} {σ : XH} {r : XV × XH} (hc : Ev c (.inl (some (.inl x)), σ)) (hf : ∀ F, f F = xci (c F) (k F)) (hk : Ev (fun F => k F x σ) r) : Ev f r := by
  obtain ⟨N, hN⟩ := hc
  obtain ⟨M, hM⟩ := hk
  refine ⟨N + M, fun F hF => ?_⟩
  rw [hf F, hN F (by omega)]
  exact hM F (by omega)
theorem Ev.cl {c f : Nat → XR} {k : Nat → Int64 → XH → XR} {x : Int64} {σ : XH} {r : XV × XH} (hc : Ev c (.inl (some (.inr (.inl x))), σ)) (hf : ∀ F, f F = xcl (c F) (k F)) (hk : Ev (fun F => k F x σ) r) : Ev f r := by
  obtain ⟨N, hN⟩ := hc
  obtain ⟨M, hM⟩ := hk
  refine ⟨N + M, fun F hF => ?_⟩
  rw [hf F, hN F (by omega)]
  exact hM F (by omega)
theorem Ev.cr {c f : Nat → XR} {k : Nat → Option Nat → XH → XR} {x : Option Nat} {σ : XH} {r : XV × XH} (hc : Ev c (.inl (some (.inr (.inr x))), σ)) (hf : ∀ F, f F = xcr (c F) (k F)) (hk : Ev (fun F => k F x σ) r) : Ev f r := by
  obtain ⟨N, hN⟩ := hc
  obtain ⟨M, hM⟩ := hk
  refine ⟨N + M, fun F hF => ?_⟩
  rw [hf F, hN F (by omega)]
  exact hM F (by omega)
theorem Ev.cv {c f : Nat → XR} {k : Nat → XH → XR} {σ : XH} {r : XV × XH} (hc : Ev c (.inl none, σ)) (hf : ∀ F, f F = xcv (c F) (k F)) (hk : Ev (fun F => k F σ) r) : Ev f r := by
  obtain ⟨N, hN⟩ := hc
  obtain ⟨M, hM⟩ := hk
  refine ⟨N + M, fun F hF => ?_⟩
  rw [hf F, hN F (by omega)]
  exact hM F (by omega)
/-! the heap by names: object i of family k stands at ad k i -/
def up2 {α : Type} (O : Nat → Nat → α) (k i : Nat) (x : α) : Nat → Nat → α := fun k' i' => if k' = k ∧ i' = i then x else O k' i'
theorem up2_s {α : Type} {O : Nat → Nat → α} {k i : Nat} {x : α} : up2 O k i x k i = x := by simp [up2]
theorem up2_n {α : Type} {O : Nat → Nat → α} {k i k' i' : Nat} {x : α} (h : ¬ (k' = k ∧ i' = i)) : up2 O k i x k' i' = O k' i' := by simp [up2, h]
theorem up2_k {α : Type} {O : Nat → Nat → α} {k i k' i' : Nat} {x : α} (h : k' ≠ k) : up2 O k i x k' i' = O k' i' := up2_n (fun q => h q.1)
def TRep (ad : Nat → Nat → Nat) (V : Nat → Nat → Prop) (O : Nat → Nat → XO) (σ : XH) : Prop :=
  (∀ k i, V k i → σ.1 (ad k i) = some (O k i) ∧ ad k i < σ.2.1) ∧ ∀ k i k' i', V k i → V k' i' → ad k i = ad k' i' → k = k' ∧ i = i'
section TH
variable {ad : Nat → Nat → Nat} {V : Nat → Nat → Prop} {O : Nat → Nat → XO} {σ : XH}
theorem TRep.gt (h : TRep ad V O σ) {k i t f : Nat} {x : XE} (hv : V k i) (ht : (O k i).1 = t) (hf : (O k i).2[f]? = some x) : xgt σ (some (ad k i)) t f = some x := by
  unfold xgt
  simp only [(h.1 k i hv).1, ht, if_true, hf]
theorem TRep.gi (h : TRep ad V O σ) {k i t f : Nat} {x : Int32} (hv : V k i) (ht : (O k i).1 = t) (hf : (O k i).2[f]? = some (.inl x)) : xgi σ (some (ad k i)) t f = some x := by
  unfold xgi
  rw [h.gt hv ht hf]
  rfl
theorem TRep.gl (h : TRep ad V O σ) {k i t f : Nat} {x : Int64} (hv : V k i) (ht : (O k i).1 = t) (hf : (O k i).2[f]? = some (.inr (.inl x))) : xgl σ (some (ad k i)) t f = some x := by
  unfold xgl
  rw [h.gt hv ht hf]
  rfl
theorem TRep.gr (h : TRep ad V O σ) {k i t f : Nat} {x : Option Nat} (hv : V k i) (ht : (O k i).1 = t) (hf : (O k i).2[f]? = some (.inr (.inr x))) : xgr σ (some (ad k i)) t f = some x := by
  unfold xgr
  rw [h.gt hv ht hf]
  rfl
theorem TRep.set (h : TRep ad V O σ) {k i : Nat} {o : XO} (hv : V k i) : TRep ad V (up2 O k i o) (xset σ (ad k i) o) := by
  refine ⟨fun k' i' hv' => ⟨?_, (h.1 k' i' hv').2⟩, h.2⟩
  show (if ad k' i' = ad k i then some o else σ.1 (ad k' i')) = some (up2 O k i o k' i')
  by_cases hq : k' = k ∧ i' = i
  · obtain ⟨rfl, rfl⟩ := hq
    rw [if_pos rfl, up2_s]
  · rw [if_neg (fun z => hq (h.2 k' i' k i hv' hv z)), up2_n hq]
    exact (h.1 k' i' hv').1
theorem TRep.pt (h : TRep ad V O σ) {k i t f : Nat} {x : XE} (hv : V k i) (ht : (O k i).1 = t) (hf : f < (O k i).2.length) : xpt σ (some (ad k i)) t f x = some (xset σ (ad k i) (t, (O k i).2.set f x)) := by
  unfold xpt
  simp only [(h.1 k i hv).1, ht, hf, and_self, if_true]
theorem TRep.at (h : TRep ad V O σ) {k i : Nat} {n : Nat} {x : XE} (hv : V k i) (hf : (O k i).2[n]? = some x) (hn : n < 2147483648) : xat σ (some (ad k i)) (xk n) = some ((O k i).1, x) := by
  unfold xat
  have hl : n < (O k i).2.length := (List.getElem?_eq_some_iff.mp hf).1
  simp only [(h.1 k i hv).1, xix_k hl hn, xk_clamp hn, hf, if_true, Option.map_some]
end TH
end
section
/-! the whole heap as one store: family, object, place -> Int -/
/-- addresses, how many of each family, the script's length -/
abbrev EN : Type := (Nat → Int → Nat) × (Nat → Int) × Nat
abbrev ST : Type := Nat → Int → Int → Int
def rf (e : EN) (k : Nat) (v : Int) : Option Nat := if v < 0 then none else some (e.1 k v)
def up (S : ST) (k : Nat) (i j v : Int) : ST := fun k' i' j' => if k' = k ∧ i' = i ∧ j' = j then v else S k' i' j'
def tyT : List (List Nat) := [[209, 202, 0], [2, 4, 0, 0, 0, 0, 0, 0, 0, 0, 0, 1, 11, 4], [216, 801], [209, 202, 0], [2, 417, 13, 7, 0, 0, 0, 0, 7], [218, 219, 206, 0, 810, 0], [7, 0], [2, 10, 0, 415, 11, 0], [2, 10, 13, 11, 4, 0, 0, 0, 0, 0, 1], [213, 214, 808, 807], [2, 7], [202, 209, 203, 200, 205],
  [0, 0, 222, 223, 224, 225, 226, 227, 228, 229, 230, 231, 232, 0, 234, 235, 236, 0, 238, 239, 240, 241, 242, 243, 244, 245, 0, 0, 0, 249, 250, 251, 252, 253, 254, 255, 0, 0, 0, 259, 260]]
/-- kinds of arrays, their contents, their lengths -/
def arT : List (Nat × Nat × Nat) := [(103, 608, 150), (104, 607, 20), (103, 11, 41), (105, 601, 20), (106, 7, 15), (106, 604, 80), (107, 610, 10), (100, 0, 1), (100, 0, 1), (100, 0, 150), (100, 0, 150), (100, 0, 150), (100, 0, 150), (100, 0, 150), (100, 0, 150), (100, 0, 150), (102, 0, 150), (101, 1, 150), (100, 0, 150), (100, 0, 3000), (100, 0, 1), (100, 0, 20), (100, 0, 20), (100, 0, 20), (100, 0, 1), (100, 0, 20), (100, 0, 20), (100, 0, 20), (100, 0, 20), (100, 0, 20), (100, 0, 20), (100, 0, 20), (101, 1, 20), (100, 0, 1), (100, 0, 1), (100, 0, 1), (100, 0, 10), (102, 0, 80), (100, 0, 80), (100, 0, 80), (100, 0, 80), (100, 0, 80), (100, 0, 80), (100, 0, 1), (100, 0, 1), (100, 0, 1), (102, 0, 20), (100, 0, 80), (101, 1, 1), (200, 0, 0), (200, 0, 4), (200, 0, 4)]
def ky (k j : Nat) : Nat := if k < 13 then ((tyT[k]?).getD [])[j]?.getD 0 else ((arT[k - 13]?).getD (0, 0, 0)).2.1
def kd (k : Nat) : Nat := if k < 13 then k else ((arT[k - 13]?).getD (0, 0, 0)).1
def kl (e : EN) (k : Nat) : Nat := if k < 13 then ((tyT[k]?).getD []).length else if k = 62 then e.2.2 else ((arT[k - 13]?).getD (0, 0, 0)).2.2
def cv (e : EN) (c : Nat) (i j v : Int) : XE := if c = 0 then .inl (xk v) else if c = 1 then .inr (.inl (Int64.ofInt v)) else if c = 2 then .inl (xk i) else if c < 200 then .inr (.inr (rf e (c - 3) v)) else if c < 400 then .inr (.inr (rf e (c - 200) 0)) else if c < 600 then .inr (.inr (rf e (c - 400) i)) else if c < 800 then .inr (.inr (rf e (c - 600) (if j < e.2.1 (c - 600) then j else -1))) else .inl (xk (e.2.1 (c - 800)))
def ob (e : EN) (S : ST) (k : Nat) (i : Int) : XO := (kd k, (List.range (kl e k)).map fun j : Nat => cv e (ky k j) i j (S k i j))
def Va (e : EN) (k : Nat) (i : Int) : Prop := k < 65 ∧ 0 ≤ i ∧ i < e.2.1 k
noncomputable def hp (e : EN) (S : ST) (q : Nat) : Option XO := @dite (Option XO) (∃ p : Nat × Int, Va e p.1 p.2 ∧ e.1 p.1 p.2 = q) (Classical.propDecidable _) (fun h => some (ob e S (Classical.choose h).1 (Classical.choose h).2)) (fun _ => none)
noncomputable def H0 (e : EN) (S : ST) (z : Nat × Nat × Nat × Nat) : XH := (hp e S, z)
def sg (k : Nat) : Bool := k == 0 || k == 2 || k == 3 || k == 5 || k == 6 || k == 9 || k == 11 || k == 13 || k == 14 || k == 16 || k == 18 || k == 19 || k == 62 || k == 63 || k == 64
/-- addresses are apart and below the size; the class's single objects are there -/
def WA (e : EN) (z : Nat × Nat × Nat × Nat) : Prop := (∀ k i k' i', Va e k i → Va e k' i' → e.1 k i = e.1 k' i' → k = k' ∧ i = i') ∧ (∀ k i, Va e k i → e.1 k i < z.1) ∧ (∀ k, sg k = true → e.2.1 k = 1) ∧ (e.2.1 4 = 80 ∧ e.2.1 17 = 80 ∧ e.2.1 15 = e.2.1 7) ∧ z.2.2 = (e.1 63 0, e.1 64 0)
/-- the reference's object and arrays are there -/
def WR (e : EN) : Prop := ∀ k, (k = 12 ∨ k = 61 ∨ (22 ≤ k ∧ k < 61)) → e.2.1 k = 1
section ST1
variable {e : EN} {S : ST} {z : Nat × Nat × Nat × Nat}
theorem hp_at (hA : WA e z) {k : Nat} {i : Int} (hv : Va e k i) : hp e S (e.1 k i) = some (ob e S k i) := by
  have h : ∃ p : Nat × Int, Va e p.1 p.2 ∧ e.1 p.1 p.2 = e.1 k i := ⟨(k, i), hv, rfl⟩
  unfold hp
  rw [dif_pos h]
  obtain ⟨h1, h2⟩ := Classical.choose_spec h
  obtain ⟨h3, h4⟩ := hA.1 _ _ _ _ h1 hv h2
  rw [h3, h4]
theorem hp_no {q : Nat} (h : ∀ k i, Va e k i → e.1 k i ≠ q) : hp e S q = none := by
  unfold hp
  rw [dif_neg]
  rintro ⟨p, h1, h2⟩
  exact h _ _ h1 h2
theorem rf_v {k : Nat} {i : Int} (h : 0 ≤ i) : rf e k i = some (e.1 k i) := by
  unfold rf
  rw [if_neg (by omega)]
theorem rf_n {k : Nat} {i : Int} (h : i < 0) : rf e k i = none := by
  unfold rf
  rw [if_pos h]
theorem rf_none {k : Nat} {i : Int} : (rf e k i = none) = (i < 0) := by
  apply propext
  unfold rf
  by_cases h : i < 0
  · simp [h]
  · simp [h]
theorem rf_eq (hA : WA e z) {k : Nat} {i j : Int} (hk : k < 65) (hi : i < e.2.1 k) (hj : j < e.2.1 k) (h1 : -1 ≤ i) (h2 : -1 ≤ j) : (rf e k i = rf e k j) = (i = j) := by
  apply propext
  unfold rf
  by_cases h : i < 0
  · rw [if_pos h]
    by_cases h' : j < 0
    · rw [if_pos h']
      constructor
      · intro; omega
      · intro; rfl
    · rw [if_neg h']
      constructor
      · intro q; exact absurd q (by simp)
      · intro; omega
  · rw [if_neg h]
    by_cases h' : j < 0
    · rw [if_pos h']
      constructor
      · intro q; exact absurd q (by simp)
      · intro; omega
    · rw [if_neg h']
      constructor
      · intro q
        exact (hA.1 k i k j ⟨hk, by omega, hi⟩ ⟨hk, by omega, hj⟩ (Option.some.inj q)).2
      · intro q; rw [q]
theorem rm_get {α : Type} {L n : Nat} {g : Nat → α} (hn : n < L) : ((List.range L).map g)[n]? = some (g n) := by
  rw [List.getElem?_map, List.getElem?_range hn]
  rfl
theorem rm_set {α : Type} {L n : Nat} {g : Nat → α} {v : α} : ((List.range L).map g).set n v = (List.range L).map fun i => if i = n then v else g i := by
  apply List.ext_getElem?
  intro j
  rw [List.getElem?_set, List.getElem?_map, List.getElem?_map, List.length_map, List.length_range]
  by_cases hj : j < L
  · rw [List.getElem?_range hj]
    by_cases hn : n = j
    · subst hn; simp [hj]
    · simp [hn, Ne.symm hn]
  · rw [List.getElem?_eq_none (l := List.range L) (by simpa using Nat.le_of_not_lt hj)]
    by_cases hn : n = j
    · subst hn; simp [hj]
    · simp [hn]
theorem H0.gt (hA : WA e z) {k j t : Nat} {i : Int} (hk : k < 65) (h0 : 0 ≤ i) (h1 : i < e.2.1 k) (ht : kd k = t) (hj : j < kl e k) : xgt (H0 e S z) (rf e k i) t j = some (cv e (ky k j) i j (S k i j)) := by
  rw [rf_v h0]
  unfold xgt H0
  simp only [hp_at hA ⟨hk, h0, h1⟩, ob, ht, if_true]
  exact rm_get hj
theorem H0.gi (hA : WA e z) {k j t : Nat} {i : Int} (hk : k < 65) (h0 : 0 ≤ i) (h1 : i < e.2.1 k) (ht : kd k = t) (hj : j < kl e k) {x : Int32} (hc : cv e (ky k j) i j (S k i j) = .inl x) : xgi (H0 e S z) (rf e k i) t j = some x := by
  unfold xgi
  rw [H0.gt hA hk h0 h1 ht hj, Option.bind_some, hc]
  rfl
theorem H0.gl (hA : WA e z) {k j t : Nat} {i : Int} (hk : k < 65) (h0 : 0 ≤ i) (h1 : i < e.2.1 k) (ht : kd k = t) (hj : j < kl e k) {x : Int64} (hc : cv e (ky k j) i j (S k i j) = .inr (.inl x)) : xgl (H0 e S z) (rf e k i) t j = some x := by
  unfold xgl
  rw [H0.gt hA hk h0 h1 ht hj, Option.bind_some, hc]
  rfl
theorem H0.gr (hA : WA e z) {k j t : Nat} {i : Int} (hk : k < 65) (h0 : 0 ≤ i) (h1 : i < e.2.1 k) (ht : kd k = t) (hj : j < kl e k) {x : Option Nat} (hc : cv e (ky k j) i j (S k i j) = .inr (.inr x)) : xgr (H0 e S z) (rf e k i) t j = some x := by
  unfold xgr
  rw [H0.gt hA hk h0 h1 ht hj, Option.bind_some, hc]
  rfl
theorem H0.gd (hA : WA e z) {k t : Nat} {i : Int} (hk : k < 65) (h0 : 0 ≤ i) (h1 : i < e.2.1 k) (ht : kd k = t) {K : XR} : xgd (H0 e S z) (rf e k i) t K = K := by
  rw [rf_v h0]
  unfold xgd H0
  simp only [hp_at hA ⟨hk, h0, h1⟩, ob, ht, if_true]
theorem xk_ix {a : Int} {n : Nat} (h0 : 0 ≤ a) (h1 : a < n) (hn : n ≤ 2147483647) : xix (xk a) n = true ∧ (xk a).toNatClampNeg = a.toNat := by
  obtain ⟨b, rfl⟩ : ∃ b : Nat, a = b := ⟨a.toNat, by omega⟩
  exact ⟨xix_k (by omega) (by omega), by rw [xk_clamp (by omega)]; rfl⟩
theorem H0.at (hA : WA e z) {k : Nat} {i a : Int} (hk : k < 65) (h0 : 0 ≤ i) (h1 : i < e.2.1 k) (ha : 0 ≤ a) (hj : a < kl e k) (hl : kl e k ≤ 2147483647) : xat (H0 e S z) (rf e k i) (xk a) = some (kd k, cv e (ky k a.toNat) i a (S k i a)) := by
  rw [rf_v h0]
  unfold xat H0
  obtain ⟨q1, q2⟩ := xk_ix ha hj hl
  simp only [hp_at hA ⟨hk, h0, h1⟩, ob, List.length_map, List.length_range]
  rw [if_pos q1, q2, rm_get (by omega)]
  simp only [Option.map_some]
  rw [Int.toNat_of_nonneg ha]
theorem H0.put (hA : WA e z) {k j : Nat} {i v : Int} {x : XE} (hk : k < 65) (h0 : 0 ≤ i) (h1 : i < e.2.1 k) (hc : cv e (ky k j) i j v = x) : xset (H0 e S z) (e.1 k i) (kd k, (ob e S k i).2.set j x) = H0 e (up S k i j v) z := by
  have hv : Va e k i := ⟨hk, h0, h1⟩
  unfold xset H0
  congr 1
  funext q
  show (if q = e.1 k i then some (kd k, (ob e S k i).2.set j x) else hp e S q) = hp e (up S k i j v) q
  by_cases hq : q = e.1 k i
  · subst hq
    rw [if_pos rfl, hp_at hA hv]
    unfold ob
    rw [rm_set]
    congr 2
    apply List.map_congr_left
    intro a _
    by_cases hj : a = j
    · subst hj
      rw [if_pos rfl, ← hc]
      unfold up
      rw [if_pos ⟨rfl, rfl, rfl⟩]
    · rw [if_neg hj]
      unfold up
      rw [if_neg (fun w => hj (by have := w.2.2; omega))]
  · rw [if_neg hq]
    by_cases hh : ∃ p : Nat × Int, Va e p.1 p.2 ∧ e.1 p.1 p.2 = q
    · obtain ⟨⟨k', i'⟩, g1, rfl⟩ := hh
      dsimp only at g1 hq
      rw [hp_at hA g1, hp_at hA g1]
      unfold ob
      congr 2
      apply List.map_congr_left
      intro a _
      unfold up
      rw [if_neg (fun w => hq (by rw [w.1, w.2.1]))]
    · rw [hp_no (fun k' i' g1 g2 => hh ⟨(k', i'), g1, g2⟩), hp_no (fun k' i' g1 g2 => hh ⟨(k', i'), g1, g2⟩)]
theorem H0.pt (hA : WA e z) {k j t : Nat} {i v : Int} {x : XE} (hk : k < 65) (h0 : 0 ≤ i) (h1 : i < e.2.1 k) (ht : kd k = t) (hj : j < kl e k) (hc : cv e (ky k j) i j v = x) : xpt (H0 e S z) (rf e k i) t j x = some (H0 e (up S k i j v) z) := by
  rw [rf_v h0, ← H0.put hA hk h0 h1 hc]
  unfold xpt H0
  subst ht
  simp only [hp_at hA ⟨hk, h0, h1⟩]
  rw [if_pos ⟨rfl, by unfold ob; simpa using hj⟩]
theorem H0.sa (hA : WA e z) {k t : Nat} {i a v : Int} {x : XE} (hk : k < 65) (h0 : 0 ≤ i) (h1 : i < e.2.1 k) (ha : 0 ≤ a) (hj : a < kl e k) (hl : kl e k ≤ 2147483647) (ht : kd k = t) (hc : cv e (ky k a.toNat) i a v = x) : xas (H0 e S z) (rf e k i) t (xk a) x = some (H0 e (up S k i a v) z) := by
  obtain ⟨q1, q2⟩ := xk_ix ha hj hl
  have hp := H0.put (S := S) (j := a.toNat) hA hk h0 h1 (by rw [Int.toNat_of_nonneg ha, hc])
  rw [Int.toNat_of_nonneg ha] at hp
  rw [rf_v h0, ← hp]
  unfold xas H0
  subst ht
  simp only [hp_at hA ⟨hk, h0, h1⟩]
  have hlen : (ob e S k i).2.length = kl e k := by unfold ob; simp
  rw [hlen, if_pos ⟨rfl, q1⟩, q2]
end ST1
end
section
/-! one row for each field and each array (printed) -/
theorem WA.s {e : EN} {z : Nat × Nat × Nat × Nat} (hA : WA e z) {k : Nat} (h : sg k = true) : (0 : Int) < e.2.1 k := by rw [hA.2.2.1 k h]; decide
theorem WR.s {e : EN} (hR : WR e) {k : Nat} (h : k = 12 ∨ k = 61 ∨ (22 ≤ k ∧ k < 61)) : (0 : Int) < e.2.1 k := by rw [hR k h]; decide
theorem cv6 {e : EN} {c k : Nat} {i j v : Int} (h : c = k + 600) (hk : k < 100) : cv e c i j v = .inr (.inr (rf e k (if j < e.2.1 k then j else -1))) := by
  subst h
  unfold cv
  rw [if_neg (by omega), if_neg (by omega), if_neg (by omega), if_neg (by omega), if_neg (by omega), if_neg (by omega), if_pos (by omega), Nat.add_sub_cancel]
/-- families of the class; all others are the reference's and the law's -/
def cf (k : Nat) : Bool := Nat.blt k 12 || (Nat.blt 12 k && Nat.blt k 20)
def mx (C I : ST) : ST := fun k i j => bif cf k then C k i j else I k i j
noncomputable def HS (e : EN) (C I : ST) (z : Nat × Nat × Nat × Nat) : XH := H0 e (mx C I) z
theorem mx_c {C I : ST} {k : Nat} {i j v : Int} (h : cf k = true) : up (mx C I) k i j v = mx (up C k i j v) I := by
  funext k' i' j'
  unfold up mx
  by_cases hk : k' = k
  · subst hk; simp [h]
  · simp [hk]
theorem mx_i {C I : ST} {k : Nat} {i j v : Int} (h : cf k = false) : up (mx C I) k i j v = mx C (up I k i j v) := by
  funext k' i' j'
  unfold up mx
  by_cases hk : k' = k
  · subst hk; simp [h]
  · simp [hk]
section AC
variable {e : EN} {C I : ST} {z : Nat × Nat × Nat × Nat}
theorem d_0 (hA : WA e z) {K : XR} : xgd (HS e C I z) (rf e 0 0) 0 K = K := H0.gd hA (by decide) (Int.le_refl 0) (WA.s hA rfl) rfl
theorem g_0_0 (hA : WA e z) : xgr (HS e C I z) (rf e 0 0) 0 0 = some (rf e 9 0) := H0.gr hA (by decide) (Int.le_refl 0) (WA.s hA rfl) rfl (by show 0 < 3; decide) rfl
theorem g_0_1 (hA : WA e z) : xgr (HS e C I z) (rf e 0 0) 0 1 = some (rf e 2 0) := H0.gr hA (by decide) (Int.le_refl 0) (WA.s hA rfl) rfl (by show 1 < 3; decide) rfl
theorem g_0_2 (hA : WA e z) : xgi (HS e C I z) (rf e 0 0) 0 2 = some (xk (C 0 0 2)) := H0.gi hA (by decide) (Int.le_refl 0) (WA.s hA rfl) rfl (by show 2 < 3; decide) rfl
theorem p_0_2 (hA : WA e z) {v : Int} : xpt (HS e C I z) (rf e 0 0) 0 2 (.inl (xk v)) = some (HS e (up C 0 0 2 v) I z) := (H0.pt hA (by decide) (Int.le_refl 0) (WA.s hA rfl) rfl (by show 2 < 3; decide) rfl).trans (congrArg (fun S => some (H0 e S z)) (mx_c rfl))
theorem d_1 (hA : WA e z) {i : Int} (h0 : 0 ≤ i) (h1 : i < e.2.1 1) {K : XR} : xgd (HS e C I z) (rf e 1 i) 1 K = K := H0.gd hA (by decide) (h0) h1 rfl
theorem g_1_0 (hA : WA e z) {i : Int} (h0 : 0 ≤ i) (h1 : i < e.2.1 1) : xgi (HS e C I z) (rf e 1 i) 1 0 = some (xk i) := H0.gi hA (by decide) (h0) h1 rfl (by show 0 < 14; decide) rfl
theorem g_1_1 (hA : WA e z) {i : Int} (h0 : 0 ≤ i) (h1 : i < e.2.1 1) : xgr (HS e C I z) (rf e 1 i) 1 1 = some (rf e 1 (C 1 i 1)) := H0.gr hA (by decide) (h0) h1 rfl (by show 1 < 14; decide) rfl
theorem p_1_1 (hA : WA e z) {i : Int} (h0 : 0 ≤ i) (h1 : i < e.2.1 1) {v : Int} : xpt (HS e C I z) (rf e 1 i) 1 1 (.inr (.inr (rf e 1 v))) = some (HS e (up C 1 i 1 v) I z) := (H0.pt hA (by decide) (h0) h1 rfl (by show 1 < 14; decide) rfl).trans (congrArg (fun S => some (H0 e S z)) (mx_c rfl))
theorem g_1_2 (hA : WA e z) {i : Int} (h0 : 0 ≤ i) (h1 : i < e.2.1 1) : xgi (HS e C I z) (rf e 1 i) 1 2 = some (xk (C 1 i 2)) := H0.gi hA (by decide) (h0) h1 rfl (by show 2 < 14; decide) rfl
theorem p_1_2 (hA : WA e z) {i : Int} (h0 : 0 ≤ i) (h1 : i < e.2.1 1) {v : Int} : xpt (HS e C I z) (rf e 1 i) 1 2 (.inl (xk v)) = some (HS e (up C 1 i 2 v) I z) := (H0.pt hA (by decide) (h0) h1 rfl (by show 2 < 14; decide) rfl).trans (congrArg (fun S => some (H0 e S z)) (mx_c rfl))
theorem g_1_3 (hA : WA e z) {i : Int} (h0 : 0 ≤ i) (h1 : i < e.2.1 1) : xgi (HS e C I z) (rf e 1 i) 1 3 = some (xk (C 1 i 3)) := H0.gi hA (by decide) (h0) h1 rfl (by show 3 < 14; decide) rfl
theorem p_1_3 (hA : WA e z) {i : Int} (h0 : 0 ≤ i) (h1 : i < e.2.1 1) {v : Int} : xpt (HS e C I z) (rf e 1 i) 1 3 (.inl (xk v)) = some (HS e (up C 1 i 3 v) I z) := (H0.pt hA (by decide) (h0) h1 rfl (by show 3 < 14; decide) rfl).trans (congrArg (fun S => some (H0 e S z)) (mx_c rfl))
theorem g_1_4 (hA : WA e z) {i : Int} (h0 : 0 ≤ i) (h1 : i < e.2.1 1) : xgi (HS e C I z) (rf e 1 i) 1 4 = some (xk (C 1 i 4)) := H0.gi hA (by decide) (h0) h1 rfl (by show 4 < 14; decide) rfl
theorem p_1_4 (hA : WA e z) {i : Int} (h0 : 0 ≤ i) (h1 : i < e.2.1 1) {v : Int} : xpt (HS e C I z) (rf e 1 i) 1 4 (.inl (xk v)) = some (HS e (up C 1 i 4 v) I z) := (H0.pt hA (by decide) (h0) h1 rfl (by show 4 < 14; decide) rfl).trans (congrArg (fun S => some (H0 e S z)) (mx_c rfl))
theorem g_1_5 (hA : WA e z) {i : Int} (h0 : 0 ≤ i) (h1 : i < e.2.1 1) : xgi (HS e C I z) (rf e 1 i) 1 5 = some (xk (C 1 i 5)) := H0.gi hA (by decide) (h0) h1 rfl (by show 5 < 14; decide) rfl
theorem p_1_5 (hA : WA e z) {i : Int} (h0 : 0 ≤ i) (h1 : i < e.2.1 1) {v : Int} : xpt (HS e C I z) (rf e 1 i) 1 5 (.inl (xk v)) = some (HS e (up C 1 i 5 v) I z) := (H0.pt hA (by decide) (h0) h1 rfl (by show 5 < 14; decide) rfl).trans (congrArg (fun S => some (H0 e S z)) (mx_c rfl))
theorem g_1_6 (hA : WA e z) {i : Int} (h0 : 0 ≤ i) (h1 : i < e.2.1 1) : xgi (HS e C I z) (rf e 1 i) 1 6 = some (xk (C 1 i 6)) := H0.gi hA (by decide) (h0) h1 rfl (by show 6 < 14; decide) rfl
theorem p_1_6 (hA : WA e z) {i : Int} (h0 : 0 ≤ i) (h1 : i < e.2.1 1) {v : Int} : xpt (HS e C I z) (rf e 1 i) 1 6 (.inl (xk v)) = some (HS e (up C 1 i 6 v) I z) := (H0.pt hA (by decide) (h0) h1 rfl (by show 6 < 14; decide) rfl).trans (congrArg (fun S => some (H0 e S z)) (mx_c rfl))
theorem g_1_7 (hA : WA e z) {i : Int} (h0 : 0 ≤ i) (h1 : i < e.2.1 1) : xgi (HS e C I z) (rf e 1 i) 1 7 = some (xk (C 1 i 7)) := H0.gi hA (by decide) (h0) h1 rfl (by show 7 < 14; decide) rfl
theorem p_1_7 (hA : WA e z) {i : Int} (h0 : 0 ≤ i) (h1 : i < e.2.1 1) {v : Int} : xpt (HS e C I z) (rf e 1 i) 1 7 (.inl (xk v)) = some (HS e (up C 1 i 7 v) I z) := (H0.pt hA (by decide) (h0) h1 rfl (by show 7 < 14; decide) rfl).trans (congrArg (fun S => some (H0 e S z)) (mx_c rfl))
theorem g_1_8 (hA : WA e z) {i : Int} (h0 : 0 ≤ i) (h1 : i < e.2.1 1) : xgi (HS e C I z) (rf e 1 i) 1 8 = some (xk (C 1 i 8)) := H0.gi hA (by decide) (h0) h1 rfl (by show 8 < 14; decide) rfl
theorem p_1_8 (hA : WA e z) {i : Int} (h0 : 0 ≤ i) (h1 : i < e.2.1 1) {v : Int} : xpt (HS e C I z) (rf e 1 i) 1 8 (.inl (xk v)) = some (HS e (up C 1 i 8 v) I z) := (H0.pt hA (by decide) (h0) h1 rfl (by show 8 < 14; decide) rfl).trans (congrArg (fun S => some (H0 e S z)) (mx_c rfl))
theorem g_1_9 (hA : WA e z) {i : Int} (h0 : 0 ≤ i) (h1 : i < e.2.1 1) : xgi (HS e C I z) (rf e 1 i) 1 9 = some (xk (C 1 i 9)) := H0.gi hA (by decide) (h0) h1 rfl (by show 9 < 14; decide) rfl
theorem p_1_9 (hA : WA e z) {i : Int} (h0 : 0 ≤ i) (h1 : i < e.2.1 1) {v : Int} : xpt (HS e C I z) (rf e 1 i) 1 9 (.inl (xk v)) = some (HS e (up C 1 i 9 v) I z) := (H0.pt hA (by decide) (h0) h1 rfl (by show 9 < 14; decide) rfl).trans (congrArg (fun S => some (H0 e S z)) (mx_c rfl))
theorem g_1_10 (hA : WA e z) {i : Int} (h0 : 0 ≤ i) (h1 : i < e.2.1 1) : xgi (HS e C I z) (rf e 1 i) 1 10 = some (xk (C 1 i 10)) := H0.gi hA (by decide) (h0) h1 rfl (by show 10 < 14; decide) rfl
theorem p_1_10 (hA : WA e z) {i : Int} (h0 : 0 ≤ i) (h1 : i < e.2.1 1) {v : Int} : xpt (HS e C I z) (rf e 1 i) 1 10 (.inl (xk v)) = some (HS e (up C 1 i 10 v) I z) := (H0.pt hA (by decide) (h0) h1 rfl (by show 10 < 14; decide) rfl).trans (congrArg (fun S => some (H0 e S z)) (mx_c rfl))
theorem g_1_11 (hA : WA e z) {i : Int} (h0 : 0 ≤ i) (h1 : i < e.2.1 1) : xgl (HS e C I z) (rf e 1 i) 1 11 = some (Int64.ofInt (C 1 i 11)) := H0.gl hA (by decide) (h0) h1 rfl (by show 11 < 14; decide) rfl
theorem p_1_11 (hA : WA e z) {i : Int} (h0 : 0 ≤ i) (h1 : i < e.2.1 1) {v : Int} : xpt (HS e C I z) (rf e 1 i) 1 11 (.inr (.inl (Int64.ofInt v))) = some (HS e (up C 1 i 11 v) I z) := (H0.pt hA (by decide) (h0) h1 rfl (by show 11 < 14; decide) rfl).trans (congrArg (fun S => some (H0 e S z)) (mx_c rfl))
theorem g_1_12 (hA : WA e z) {i : Int} (h0 : 0 ≤ i) (h1 : i < e.2.1 1) : xgr (HS e C I z) (rf e 1 i) 1 12 = some (rf e 8 (C 1 i 12)) := H0.gr hA (by decide) (h0) h1 rfl (by show 12 < 14; decide) rfl
theorem p_1_12 (hA : WA e z) {i : Int} (h0 : 0 ≤ i) (h1 : i < e.2.1 1) {v : Int} : xpt (HS e C I z) (rf e 1 i) 1 12 (.inr (.inr (rf e 8 v))) = some (HS e (up C 1 i 12 v) I z) := (H0.pt hA (by decide) (h0) h1 rfl (by show 12 < 14; decide) rfl).trans (congrArg (fun S => some (H0 e S z)) (mx_c rfl))
theorem g_1_13 (hA : WA e z) {i : Int} (h0 : 0 ≤ i) (h1 : i < e.2.1 1) : xgr (HS e C I z) (rf e 1 i) 1 13 = some (rf e 1 (C 1 i 13)) := H0.gr hA (by decide) (h0) h1 rfl (by show 13 < 14; decide) rfl
theorem p_1_13 (hA : WA e z) {i : Int} (h0 : 0 ≤ i) (h1 : i < e.2.1 1) {v : Int} : xpt (HS e C I z) (rf e 1 i) 1 13 (.inr (.inr (rf e 1 v))) = some (HS e (up C 1 i 13 v) I z) := (H0.pt hA (by decide) (h0) h1 rfl (by show 13 < 14; decide) rfl).trans (congrArg (fun S => some (H0 e S z)) (mx_c rfl))
theorem d_2 (hA : WA e z) {K : XR} : xgd (HS e C I z) (rf e 2 0) 2 K = K := H0.gd hA (by decide) (Int.le_refl 0) (WA.s hA rfl) rfl
theorem g_2_0 (hA : WA e z) : xgr (HS e C I z) (rf e 2 0) 2 0 = some (rf e 16 0) := H0.gr hA (by decide) (Int.le_refl 0) (WA.s hA rfl) rfl (by show 0 < 2; decide) rfl
theorem g_2_1 (hA : WA e z) : xgi (HS e C I z) (rf e 2 0) 2 1 = some (xk (e.2.1 1)) := H0.gi hA (by decide) (Int.le_refl 0) (WA.s hA rfl) rfl (by show 1 < 2; decide) rfl
theorem d_3 (hA : WA e z) {K : XR} : xgd (HS e C I z) (rf e 3 0) 3 K = K := H0.gd hA (by decide) (Int.le_refl 0) (WA.s hA rfl) rfl
theorem g_3_0 (hA : WA e z) : xgr (HS e C I z) (rf e 3 0) 3 0 = some (rf e 9 0) := H0.gr hA (by decide) (Int.le_refl 0) (WA.s hA rfl) rfl (by show 0 < 3; decide) rfl
theorem g_3_1 (hA : WA e z) : xgr (HS e C I z) (rf e 3 0) 3 1 = some (rf e 2 0) := H0.gr hA (by decide) (Int.le_refl 0) (WA.s hA rfl) rfl (by show 1 < 3; decide) rfl
theorem g_3_2 (hA : WA e z) : xgi (HS e C I z) (rf e 3 0) 3 2 = some (xk (C 3 0 2)) := H0.gi hA (by decide) (Int.le_refl 0) (WA.s hA rfl) rfl (by show 2 < 3; decide) rfl
theorem p_3_2 (hA : WA e z) {v : Int} : xpt (HS e C I z) (rf e 3 0) 3 2 (.inl (xk v)) = some (HS e (up C 3 0 2 v) I z) := (H0.pt hA (by decide) (Int.le_refl 0) (WA.s hA rfl) rfl (by show 2 < 3; decide) rfl).trans (congrArg (fun S => some (H0 e S z)) (mx_c rfl))
theorem d_4 (hA : WA e z) {i : Int} (h0 : 0 ≤ i) (h1 : i < e.2.1 4) {K : XR} : xgd (HS e C I z) (rf e 4 i) 4 K = K := H0.gd hA (by decide) (h0) h1 rfl
theorem g_4_0 (hA : WA e z) {i : Int} (h0 : 0 ≤ i) (h1 : i < e.2.1 4) : xgi (HS e C I z) (rf e 4 i) 4 0 = some (xk i) := H0.gi hA (by decide) (h0) h1 rfl (by show 0 < 9; decide) rfl
theorem g_4_1 (hA : WA e z) {i : Int} (h0 : 0 ≤ i) (h1 : i < e.2.1 4) : xgr (HS e C I z) (rf e 4 i) 4 1 = some (rf e 17 i) := H0.gr hA (by decide) (h0) h1 rfl (by show 1 < 9; decide) rfl
theorem g_4_2 (hA : WA e z) {i : Int} (h0 : 0 ≤ i) (h1 : i < e.2.1 4) : xgr (HS e C I z) (rf e 4 i) 4 2 = some (rf e 10 (C 4 i 2)) := H0.gr hA (by decide) (h0) h1 rfl (by show 2 < 9; decide) rfl
theorem p_4_2 (hA : WA e z) {i : Int} (h0 : 0 ≤ i) (h1 : i < e.2.1 4) {v : Int} : xpt (HS e C I z) (rf e 4 i) 4 2 (.inr (.inr (rf e 10 v))) = some (HS e (up C 4 i 2 v) I z) := (H0.pt hA (by decide) (h0) h1 rfl (by show 2 < 9; decide) rfl).trans (congrArg (fun S => some (H0 e S z)) (mx_c rfl))
theorem g_4_3 (hA : WA e z) {i : Int} (h0 : 0 ≤ i) (h1 : i < e.2.1 4) : xgr (HS e C I z) (rf e 4 i) 4 3 = some (rf e 4 (C 4 i 3)) := H0.gr hA (by decide) (h0) h1 rfl (by show 3 < 9; decide) rfl
theorem p_4_3 (hA : WA e z) {i : Int} (h0 : 0 ≤ i) (h1 : i < e.2.1 4) {v : Int} : xpt (HS e C I z) (rf e 4 i) 4 3 (.inr (.inr (rf e 4 v))) = some (HS e (up C 4 i 3 v) I z) := (H0.pt hA (by decide) (h0) h1 rfl (by show 3 < 9; decide) rfl).trans (congrArg (fun S => some (H0 e S z)) (mx_c rfl))
theorem g_4_4 (hA : WA e z) {i : Int} (h0 : 0 ≤ i) (h1 : i < e.2.1 4) : xgi (HS e C I z) (rf e 4 i) 4 4 = some (xk (C 4 i 4)) := H0.gi hA (by decide) (h0) h1 rfl (by show 4 < 9; decide) rfl
theorem p_4_4 (hA : WA e z) {i : Int} (h0 : 0 ≤ i) (h1 : i < e.2.1 4) {v : Int} : xpt (HS e C I z) (rf e 4 i) 4 4 (.inl (xk v)) = some (HS e (up C 4 i 4 v) I z) := (H0.pt hA (by decide) (h0) h1 rfl (by show 4 < 9; decide) rfl).trans (congrArg (fun S => some (H0 e S z)) (mx_c rfl))
theorem g_4_5 (hA : WA e z) {i : Int} (h0 : 0 ≤ i) (h1 : i < e.2.1 4) : xgi (HS e C I z) (rf e 4 i) 4 5 = some (xk (C 4 i 5)) := H0.gi hA (by decide) (h0) h1 rfl (by show 5 < 9; decide) rfl
theorem p_4_5 (hA : WA e z) {i : Int} (h0 : 0 ≤ i) (h1 : i < e.2.1 4) {v : Int} : xpt (HS e C I z) (rf e 4 i) 4 5 (.inl (xk v)) = some (HS e (up C 4 i 5 v) I z) := (H0.pt hA (by decide) (h0) h1 rfl (by show 5 < 9; decide) rfl).trans (congrArg (fun S => some (H0 e S z)) (mx_c rfl))
theorem g_4_6 (hA : WA e z) {i : Int} (h0 : 0 ≤ i) (h1 : i < e.2.1 4) : xgi (HS e C I z) (rf e 4 i) 4 6 = some (xk (C 4 i 6)) := H0.gi hA (by decide) (h0) h1 rfl (by show 6 < 9; decide) rfl
theorem p_4_6 (hA : WA e z) {i : Int} (h0 : 0 ≤ i) (h1 : i < e.2.1 4) {v : Int} : xpt (HS e C I z) (rf e 4 i) 4 6 (.inl (xk v)) = some (HS e (up C 4 i 6 v) I z) := (H0.pt hA (by decide) (h0) h1 rfl (by show 6 < 9; decide) rfl).trans (congrArg (fun S => some (H0 e S z)) (mx_c rfl))
theorem g_4_7 (hA : WA e z) {i : Int} (h0 : 0 ≤ i) (h1 : i < e.2.1 4) : xgi (HS e C I z) (rf e 4 i) 4 7 = some (xk (C 4 i 7)) := H0.gi hA (by decide) (h0) h1 rfl (by show 7 < 9; decide) rfl
theorem p_4_7 (hA : WA e z) {i : Int} (h0 : 0 ≤ i) (h1 : i < e.2.1 4) {v : Int} : xpt (HS e C I z) (rf e 4 i) 4 7 (.inl (xk v)) = some (HS e (up C 4 i 7 v) I z) := (H0.pt hA (by decide) (h0) h1 rfl (by show 7 < 9; decide) rfl).trans (congrArg (fun S => some (H0 e S z)) (mx_c rfl))
theorem g_4_8 (hA : WA e z) {i : Int} (h0 : 0 ≤ i) (h1 : i < e.2.1 4) : xgr (HS e C I z) (rf e 4 i) 4 8 = some (rf e 4 (C 4 i 8)) := H0.gr hA (by decide) (h0) h1 rfl (by show 8 < 9; decide) rfl
theorem p_4_8 (hA : WA e z) {i : Int} (h0 : 0 ≤ i) (h1 : i < e.2.1 4) {v : Int} : xpt (HS e C I z) (rf e 4 i) 4 8 (.inr (.inr (rf e 4 v))) = some (HS e (up C 4 i 8 v) I z) := (H0.pt hA (by decide) (h0) h1 rfl (by show 8 < 9; decide) rfl).trans (congrArg (fun S => some (H0 e S z)) (mx_c rfl))
theorem d_5 (hA : WA e z) {K : XR} : xgd (HS e C I z) (rf e 5 0) 5 K = K := H0.gd hA (by decide) (Int.le_refl 0) (WA.s hA rfl) rfl
theorem g_5_0 (hA : WA e z) : xgr (HS e C I z) (rf e 5 0) 5 0 = some (rf e 18 0) := H0.gr hA (by decide) (Int.le_refl 0) (WA.s hA rfl) rfl (by show 0 < 6; decide) rfl
theorem g_5_1 (hA : WA e z) : xgr (HS e C I z) (rf e 5 0) 5 1 = some (rf e 19 0) := H0.gr hA (by decide) (Int.le_refl 0) (WA.s hA rfl) rfl (by show 1 < 6; decide) rfl
theorem g_5_2 (hA : WA e z) : xgr (HS e C I z) (rf e 5 0) 5 2 = some (rf e 6 0) := H0.gr hA (by decide) (Int.le_refl 0) (WA.s hA rfl) rfl (by show 2 < 6; decide) rfl
theorem g_5_3 (hA : WA e z) : xgi (HS e C I z) (rf e 5 0) 5 3 = some (xk (C 5 0 3)) := H0.gi hA (by decide) (Int.le_refl 0) (WA.s hA rfl) rfl (by show 3 < 6; decide) rfl
theorem p_5_3 (hA : WA e z) {v : Int} : xpt (HS e C I z) (rf e 5 0) 5 3 (.inl (xk v)) = some (HS e (up C 5 0 3 v) I z) := (H0.pt hA (by decide) (Int.le_refl 0) (WA.s hA rfl) rfl (by show 3 < 6; decide) rfl).trans (congrArg (fun S => some (H0 e S z)) (mx_c rfl))
theorem g_5_4 (hA : WA e z) : xgi (HS e C I z) (rf e 5 0) 5 4 = some (xk (e.2.1 10)) := H0.gi hA (by decide) (Int.le_refl 0) (WA.s hA rfl) rfl (by show 4 < 6; decide) rfl
theorem g_5_5 (hA : WA e z) : xgi (HS e C I z) (rf e 5 0) 5 5 = some (xk (C 5 0 5)) := H0.gi hA (by decide) (Int.le_refl 0) (WA.s hA rfl) rfl (by show 5 < 6; decide) rfl
theorem p_5_5 (hA : WA e z) {v : Int} : xpt (HS e C I z) (rf e 5 0) 5 5 (.inl (xk v)) = some (HS e (up C 5 0 5 v) I z) := (H0.pt hA (by decide) (Int.le_refl 0) (WA.s hA rfl) rfl (by show 5 < 6; decide) rfl).trans (congrArg (fun S => some (H0 e S z)) (mx_c rfl))
theorem d_6 (hA : WA e z) {K : XR} : xgd (HS e C I z) (rf e 6 0) 6 K = K := H0.gd hA (by decide) (Int.le_refl 0) (WA.s hA rfl) rfl
theorem g_6_0 (hA : WA e z) : xgr (HS e C I z) (rf e 6 0) 6 0 = some (rf e 4 (C 6 0 0)) := H0.gr hA (by decide) (Int.le_refl 0) (WA.s hA rfl) rfl (by show 0 < 2; decide) rfl
theorem p_6_0 (hA : WA e z) {v : Int} : xpt (HS e C I z) (rf e 6 0) 6 0 (.inr (.inr (rf e 4 v))) = some (HS e (up C 6 0 0 v) I z) := (H0.pt hA (by decide) (Int.le_refl 0) (WA.s hA rfl) rfl (by show 0 < 2; decide) rfl).trans (congrArg (fun S => some (H0 e S z)) (mx_c rfl))
theorem g_6_1 (hA : WA e z) : xgi (HS e C I z) (rf e 6 0) 6 1 = some (xk (C 6 0 1)) := H0.gi hA (by decide) (Int.le_refl 0) (WA.s hA rfl) rfl (by show 1 < 2; decide) rfl
theorem p_6_1 (hA : WA e z) {v : Int} : xpt (HS e C I z) (rf e 6 0) 6 1 (.inl (xk v)) = some (HS e (up C 6 0 1 v) I z) := (H0.pt hA (by decide) (Int.le_refl 0) (WA.s hA rfl) rfl (by show 1 < 2; decide) rfl).trans (congrArg (fun S => some (H0 e S z)) (mx_c rfl))
theorem d_7 (hA : WA e z) {i : Int} (h0 : 0 ≤ i) (h1 : i < e.2.1 7) {K : XR} : xgd (HS e C I z) (rf e 7 i) 7 K = K := H0.gd hA (by decide) (h0) h1 rfl
theorem g_7_0 (hA : WA e z) {i : Int} (h0 : 0 ≤ i) (h1 : i < e.2.1 7) : xgi (HS e C I z) (rf e 7 i) 7 0 = some (xk i) := H0.gi hA (by decide) (h0) h1 rfl (by show 0 < 6; decide) rfl
theorem g_7_1 (hA : WA e z) {i : Int} (h0 : 0 ≤ i) (h1 : i < e.2.1 7) : xgr (HS e C I z) (rf e 7 i) 7 1 = some (rf e 7 (C 7 i 1)) := H0.gr hA (by decide) (h0) h1 rfl (by show 1 < 6; decide) rfl
theorem p_7_1 (hA : WA e z) {i : Int} (h0 : 0 ≤ i) (h1 : i < e.2.1 7) {v : Int} : xpt (HS e C I z) (rf e 7 i) 7 1 (.inr (.inr (rf e 7 v))) = some (HS e (up C 7 i 1 v) I z) := (H0.pt hA (by decide) (h0) h1 rfl (by show 1 < 6; decide) rfl).trans (congrArg (fun S => some (H0 e S z)) (mx_c rfl))
theorem g_7_2 (hA : WA e z) {i : Int} (h0 : 0 ≤ i) (h1 : i < e.2.1 7) : xgi (HS e C I z) (rf e 7 i) 7 2 = some (xk (C 7 i 2)) := H0.gi hA (by decide) (h0) h1 rfl (by show 2 < 6; decide) rfl
theorem p_7_2 (hA : WA e z) {i : Int} (h0 : 0 ≤ i) (h1 : i < e.2.1 7) {v : Int} : xpt (HS e C I z) (rf e 7 i) 7 2 (.inl (xk v)) = some (HS e (up C 7 i 2 v) I z) := (H0.pt hA (by decide) (h0) h1 rfl (by show 2 < 6; decide) rfl).trans (congrArg (fun S => some (H0 e S z)) (mx_c rfl))
theorem g_7_3 (hA : WA e z) {i : Int} (h0 : 0 ≤ i) (h1 : i < e.2.1 7) : xgr (HS e C I z) (rf e 7 i) 7 3 = some (rf e 15 i) := H0.gr hA (by decide) (h0) h1 rfl (by show 3 < 6; decide) rfl
theorem g_7_4 (hA : WA e z) {i : Int} (h0 : 0 ≤ i) (h1 : i < e.2.1 7) : xgr (HS e C I z) (rf e 7 i) 7 4 = some (rf e 8 (C 7 i 4)) := H0.gr hA (by decide) (h0) h1 rfl (by show 4 < 6; decide) rfl
theorem p_7_4 (hA : WA e z) {i : Int} (h0 : 0 ≤ i) (h1 : i < e.2.1 7) {v : Int} : xpt (HS e C I z) (rf e 7 i) 7 4 (.inr (.inr (rf e 8 v))) = some (HS e (up C 7 i 4 v) I z) := (H0.pt hA (by decide) (h0) h1 rfl (by show 4 < 6; decide) rfl).trans (congrArg (fun S => some (H0 e S z)) (mx_c rfl))
theorem g_7_5 (hA : WA e z) {i : Int} (h0 : 0 ≤ i) (h1 : i < e.2.1 7) : xgi (HS e C I z) (rf e 7 i) 7 5 = some (xk (C 7 i 5)) := H0.gi hA (by decide) (h0) h1 rfl (by show 5 < 6; decide) rfl
theorem p_7_5 (hA : WA e z) {i : Int} (h0 : 0 ≤ i) (h1 : i < e.2.1 7) {v : Int} : xpt (HS e C I z) (rf e 7 i) 7 5 (.inl (xk v)) = some (HS e (up C 7 i 5 v) I z) := (H0.pt hA (by decide) (h0) h1 rfl (by show 5 < 6; decide) rfl).trans (congrArg (fun S => some (H0 e S z)) (mx_c rfl))
theorem d_8 (hA : WA e z) {i : Int} (h0 : 0 ≤ i) (h1 : i < e.2.1 8) {K : XR} : xgd (HS e C I z) (rf e 8 i) 8 K = K := H0.gd hA (by decide) (h0) h1 rfl
theorem g_8_0 (hA : WA e z) {i : Int} (h0 : 0 ≤ i) (h1 : i < e.2.1 8) : xgi (HS e C I z) (rf e 8 i) 8 0 = some (xk i) := H0.gi hA (by decide) (h0) h1 rfl (by show 0 < 11; decide) rfl
theorem g_8_1 (hA : WA e z) {i : Int} (h0 : 0 ≤ i) (h1 : i < e.2.1 8) : xgr (HS e C I z) (rf e 8 i) 8 1 = some (rf e 7 (C 8 i 1)) := H0.gr hA (by decide) (h0) h1 rfl (by show 1 < 11; decide) rfl
theorem p_8_1 (hA : WA e z) {i : Int} (h0 : 0 ≤ i) (h1 : i < e.2.1 8) {v : Int} : xpt (HS e C I z) (rf e 8 i) 8 1 (.inr (.inr (rf e 7 v))) = some (HS e (up C 8 i 1 v) I z) := (H0.pt hA (by decide) (h0) h1 rfl (by show 1 < 11; decide) rfl).trans (congrArg (fun S => some (H0 e S z)) (mx_c rfl))
theorem g_8_2 (hA : WA e z) {i : Int} (h0 : 0 ≤ i) (h1 : i < e.2.1 8) : xgr (HS e C I z) (rf e 8 i) 8 2 = some (rf e 10 (C 8 i 2)) := H0.gr hA (by decide) (h0) h1 rfl (by show 2 < 11; decide) rfl
theorem p_8_2 (hA : WA e z) {i : Int} (h0 : 0 ≤ i) (h1 : i < e.2.1 8) {v : Int} : xpt (HS e C I z) (rf e 8 i) 8 2 (.inr (.inr (rf e 10 v))) = some (HS e (up C 8 i 2 v) I z) := (H0.pt hA (by decide) (h0) h1 rfl (by show 2 < 11; decide) rfl).trans (congrArg (fun S => some (H0 e S z)) (mx_c rfl))
theorem g_8_3 (hA : WA e z) {i : Int} (h0 : 0 ≤ i) (h1 : i < e.2.1 8) : xgr (HS e C I z) (rf e 8 i) 8 3 = some (rf e 8 (C 8 i 3)) := H0.gr hA (by decide) (h0) h1 rfl (by show 3 < 11; decide) rfl
theorem p_8_3 (hA : WA e z) {i : Int} (h0 : 0 ≤ i) (h1 : i < e.2.1 8) {v : Int} : xpt (HS e C I z) (rf e 8 i) 8 3 (.inr (.inr (rf e 8 v))) = some (HS e (up C 8 i 3 v) I z) := (H0.pt hA (by decide) (h0) h1 rfl (by show 3 < 11; decide) rfl).trans (congrArg (fun S => some (H0 e S z)) (mx_c rfl))
theorem g_8_4 (hA : WA e z) {i : Int} (h0 : 0 ≤ i) (h1 : i < e.2.1 8) : xgr (HS e C I z) (rf e 8 i) 8 4 = some (rf e 1 (C 8 i 4)) := H0.gr hA (by decide) (h0) h1 rfl (by show 4 < 11; decide) rfl
theorem p_8_4 (hA : WA e z) {i : Int} (h0 : 0 ≤ i) (h1 : i < e.2.1 8) {v : Int} : xpt (HS e C I z) (rf e 8 i) 8 4 (.inr (.inr (rf e 1 v))) = some (HS e (up C 8 i 4 v) I z) := (H0.pt hA (by decide) (h0) h1 rfl (by show 4 < 11; decide) rfl).trans (congrArg (fun S => some (H0 e S z)) (mx_c rfl))
theorem g_8_5 (hA : WA e z) {i : Int} (h0 : 0 ≤ i) (h1 : i < e.2.1 8) : xgi (HS e C I z) (rf e 8 i) 8 5 = some (xk (C 8 i 5)) := H0.gi hA (by decide) (h0) h1 rfl (by show 5 < 11; decide) rfl
theorem p_8_5 (hA : WA e z) {i : Int} (h0 : 0 ≤ i) (h1 : i < e.2.1 8) {v : Int} : xpt (HS e C I z) (rf e 8 i) 8 5 (.inl (xk v)) = some (HS e (up C 8 i 5 v) I z) := (H0.pt hA (by decide) (h0) h1 rfl (by show 5 < 11; decide) rfl).trans (congrArg (fun S => some (H0 e S z)) (mx_c rfl))
theorem g_8_6 (hA : WA e z) {i : Int} (h0 : 0 ≤ i) (h1 : i < e.2.1 8) : xgi (HS e C I z) (rf e 8 i) 8 6 = some (xk (C 8 i 6)) := H0.gi hA (by decide) (h0) h1 rfl (by show 6 < 11; decide) rfl
theorem p_8_6 (hA : WA e z) {i : Int} (h0 : 0 ≤ i) (h1 : i < e.2.1 8) {v : Int} : xpt (HS e C I z) (rf e 8 i) 8 6 (.inl (xk v)) = some (HS e (up C 8 i 6 v) I z) := (H0.pt hA (by decide) (h0) h1 rfl (by show 6 < 11; decide) rfl).trans (congrArg (fun S => some (H0 e S z)) (mx_c rfl))
theorem g_8_7 (hA : WA e z) {i : Int} (h0 : 0 ≤ i) (h1 : i < e.2.1 8) : xgi (HS e C I z) (rf e 8 i) 8 7 = some (xk (C 8 i 7)) := H0.gi hA (by decide) (h0) h1 rfl (by show 7 < 11; decide) rfl
theorem p_8_7 (hA : WA e z) {i : Int} (h0 : 0 ≤ i) (h1 : i < e.2.1 8) {v : Int} : xpt (HS e C I z) (rf e 8 i) 8 7 (.inl (xk v)) = some (HS e (up C 8 i 7 v) I z) := (H0.pt hA (by decide) (h0) h1 rfl (by show 7 < 11; decide) rfl).trans (congrArg (fun S => some (H0 e S z)) (mx_c rfl))
theorem g_8_8 (hA : WA e z) {i : Int} (h0 : 0 ≤ i) (h1 : i < e.2.1 8) : xgi (HS e C I z) (rf e 8 i) 8 8 = some (xk (C 8 i 8)) := H0.gi hA (by decide) (h0) h1 rfl (by show 8 < 11; decide) rfl
theorem p_8_8 (hA : WA e z) {i : Int} (h0 : 0 ≤ i) (h1 : i < e.2.1 8) {v : Int} : xpt (HS e C I z) (rf e 8 i) 8 8 (.inl (xk v)) = some (HS e (up C 8 i 8 v) I z) := (H0.pt hA (by decide) (h0) h1 rfl (by show 8 < 11; decide) rfl).trans (congrArg (fun S => some (H0 e S z)) (mx_c rfl))
theorem g_8_9 (hA : WA e z) {i : Int} (h0 : 0 ≤ i) (h1 : i < e.2.1 8) : xgi (HS e C I z) (rf e 8 i) 8 9 = some (xk (C 8 i 9)) := H0.gi hA (by decide) (h0) h1 rfl (by show 9 < 11; decide) rfl
theorem p_8_9 (hA : WA e z) {i : Int} (h0 : 0 ≤ i) (h1 : i < e.2.1 8) {v : Int} : xpt (HS e C I z) (rf e 8 i) 8 9 (.inl (xk v)) = some (HS e (up C 8 i 9 v) I z) := (H0.pt hA (by decide) (h0) h1 rfl (by show 9 < 11; decide) rfl).trans (congrArg (fun S => some (H0 e S z)) (mx_c rfl))
theorem g_8_10 (hA : WA e z) {i : Int} (h0 : 0 ≤ i) (h1 : i < e.2.1 8) : xgl (HS e C I z) (rf e 8 i) 8 10 = some (Int64.ofInt (C 8 i 10)) := H0.gl hA (by decide) (h0) h1 rfl (by show 10 < 11; decide) rfl
theorem p_8_10 (hA : WA e z) {i : Int} (h0 : 0 ≤ i) (h1 : i < e.2.1 8) {v : Int} : xpt (HS e C I z) (rf e 8 i) 8 10 (.inr (.inl (Int64.ofInt v))) = some (HS e (up C 8 i 10 v) I z) := (H0.pt hA (by decide) (h0) h1 rfl (by show 10 < 11; decide) rfl).trans (congrArg (fun S => some (H0 e S z)) (mx_c rfl))
theorem d_9 (hA : WA e z) {K : XR} : xgd (HS e C I z) (rf e 9 0) 9 K = K := H0.gd hA (by decide) (Int.le_refl 0) (WA.s hA rfl) rfl
theorem g_9_0 (hA : WA e z) : xgr (HS e C I z) (rf e 9 0) 9 0 = some (rf e 13 0) := H0.gr hA (by decide) (Int.le_refl 0) (WA.s hA rfl) rfl (by show 0 < 4; decide) rfl
theorem g_9_1 (hA : WA e z) : xgr (HS e C I z) (rf e 9 0) 9 1 = some (rf e 14 0) := H0.gr hA (by decide) (Int.le_refl 0) (WA.s hA rfl) rfl (by show 1 < 4; decide) rfl
theorem g_9_2 (hA : WA e z) : xgi (HS e C I z) (rf e 9 0) 9 2 = some (xk (e.2.1 8)) := H0.gi hA (by decide) (Int.le_refl 0) (WA.s hA rfl) rfl (by show 2 < 4; decide) rfl
theorem g_9_3 (hA : WA e z) : xgi (HS e C I z) (rf e 9 0) 9 3 = some (xk (e.2.1 7)) := H0.gi hA (by decide) (Int.le_refl 0) (WA.s hA rfl) rfl (by show 3 < 4; decide) rfl
theorem d_10 (hA : WA e z) {i : Int} (h0 : 0 ≤ i) (h1 : i < e.2.1 10) {K : XR} : xgd (HS e C I z) (rf e 10 i) 10 K = K := H0.gd hA (by decide) (h0) h1 rfl
theorem g_10_0 (hA : WA e z) {i : Int} (h0 : 0 ≤ i) (h1 : i < e.2.1 10) : xgi (HS e C I z) (rf e 10 i) 10 0 = some (xk i) := H0.gi hA (by decide) (h0) h1 rfl (by show 0 < 2; decide) rfl
theorem g_10_1 (hA : WA e z) {i : Int} (h0 : 0 ≤ i) (h1 : i < e.2.1 10) : xgr (HS e C I z) (rf e 10 i) 10 1 = some (rf e 4 (C 10 i 1)) := H0.gr hA (by decide) (h0) h1 rfl (by show 1 < 2; decide) rfl
theorem p_10_1 (hA : WA e z) {i : Int} (h0 : 0 ≤ i) (h1 : i < e.2.1 10) {v : Int} : xpt (HS e C I z) (rf e 10 i) 10 1 (.inr (.inr (rf e 4 v))) = some (HS e (up C 10 i 1 v) I z) := (H0.pt hA (by decide) (h0) h1 rfl (by show 1 < 2; decide) rfl).trans (congrArg (fun S => some (H0 e S z)) (mx_c rfl))
theorem d_11 (hA : WA e z) {K : XR} : xgd (HS e C I z) (rf e 11 0) 11 K = K := H0.gd hA (by decide) (Int.le_refl 0) (WA.s hA rfl) rfl
theorem g_11_0 (hA : WA e z) : xgr (HS e C I z) (rf e 11 0) 11 0 = some (rf e 2 0) := H0.gr hA (by decide) (Int.le_refl 0) (WA.s hA rfl) rfl (by show 0 < 5; decide) rfl
theorem g_11_1 (hA : WA e z) : xgr (HS e C I z) (rf e 11 0) 11 1 = some (rf e 9 0) := H0.gr hA (by decide) (Int.le_refl 0) (WA.s hA rfl) rfl (by show 1 < 5; decide) rfl
theorem g_11_2 (hA : WA e z) : xgr (HS e C I z) (rf e 11 0) 11 2 = some (rf e 3 0) := H0.gr hA (by decide) (Int.le_refl 0) (WA.s hA rfl) rfl (by show 2 < 5; decide) rfl
theorem g_11_3 (hA : WA e z) : xgr (HS e C I z) (rf e 11 0) 11 3 = some (rf e 0 0) := H0.gr hA (by decide) (Int.le_refl 0) (WA.s hA rfl) rfl (by show 3 < 5; decide) rfl
theorem g_11_4 (hA : WA e z) : xgr (HS e C I z) (rf e 11 0) 11 4 = some (rf e 5 0) := H0.gr hA (by decide) (Int.le_refl 0) (WA.s hA rfl) rfl (by show 4 < 5; decide) rfl
theorem d_12 (hA : WA e z) (hR : WR e) {K : XR} : xgd (HS e C I z) (rf e 12 0) 12 K = K := H0.gd hA (by decide) (Int.le_refl 0) (WR.s hR (by decide)) rfl
theorem g_12_0 (hA : WA e z) (hR : WR e) : xgi (HS e C I z) (rf e 12 0) 12 0 = some (xk (I 12 0 0)) := H0.gi hA (by decide) (Int.le_refl 0) (WR.s hR (by decide)) rfl (by show 0 < 41; decide) rfl
theorem p_12_0 (hA : WA e z) (hR : WR e) {v : Int} : xpt (HS e C I z) (rf e 12 0) 12 0 (.inl (xk v)) = some (HS e C (up I 12 0 0 v) z) := (H0.pt hA (by decide) (Int.le_refl 0) (WR.s hR (by decide)) rfl (by show 0 < 41; decide) rfl).trans (congrArg (fun S => some (H0 e S z)) (mx_i rfl))
theorem g_12_1 (hA : WA e z) (hR : WR e) : xgi (HS e C I z) (rf e 12 0) 12 1 = some (xk (I 12 0 1)) := H0.gi hA (by decide) (Int.le_refl 0) (WR.s hR (by decide)) rfl (by show 1 < 41; decide) rfl
theorem p_12_1 (hA : WA e z) (hR : WR e) {v : Int} : xpt (HS e C I z) (rf e 12 0) 12 1 (.inl (xk v)) = some (HS e C (up I 12 0 1 v) z) := (H0.pt hA (by decide) (Int.le_refl 0) (WR.s hR (by decide)) rfl (by show 1 < 41; decide) rfl).trans (congrArg (fun S => some (H0 e S z)) (mx_i rfl))
theorem g_12_2 (hA : WA e z) (hR : WR e) : xgr (HS e C I z) (rf e 12 0) 12 2 = some (rf e 22 0) := H0.gr hA (by decide) (Int.le_refl 0) (WR.s hR (by decide)) rfl (by show 2 < 41; decide) rfl
theorem g_12_3 (hA : WA e z) (hR : WR e) : xgr (HS e C I z) (rf e 12 0) 12 3 = some (rf e 23 0) := H0.gr hA (by decide) (Int.le_refl 0) (WR.s hR (by decide)) rfl (by show 3 < 41; decide) rfl
theorem g_12_4 (hA : WA e z) (hR : WR e) : xgr (HS e C I z) (rf e 12 0) 12 4 = some (rf e 24 0) := H0.gr hA (by decide) (Int.le_refl 0) (WR.s hR (by decide)) rfl (by show 4 < 41; decide) rfl
theorem g_12_5 (hA : WA e z) (hR : WR e) : xgr (HS e C I z) (rf e 12 0) 12 5 = some (rf e 25 0) := H0.gr hA (by decide) (Int.le_refl 0) (WR.s hR (by decide)) rfl (by show 5 < 41; decide) rfl
theorem g_12_6 (hA : WA e z) (hR : WR e) : xgr (HS e C I z) (rf e 12 0) 12 6 = some (rf e 26 0) := H0.gr hA (by decide) (Int.le_refl 0) (WR.s hR (by decide)) rfl (by show 6 < 41; decide) rfl
theorem g_12_7 (hA : WA e z) (hR : WR e) : xgr (HS e C I z) (rf e 12 0) 12 7 = some (rf e 27 0) := H0.gr hA (by decide) (Int.le_refl 0) (WR.s hR (by decide)) rfl (by show 7 < 41; decide) rfl
theorem g_12_8 (hA : WA e z) (hR : WR e) : xgr (HS e C I z) (rf e 12 0) 12 8 = some (rf e 28 0) := H0.gr hA (by decide) (Int.le_refl 0) (WR.s hR (by decide)) rfl (by show 8 < 41; decide) rfl
theorem g_12_9 (hA : WA e z) (hR : WR e) : xgr (HS e C I z) (rf e 12 0) 12 9 = some (rf e 29 0) := H0.gr hA (by decide) (Int.le_refl 0) (WR.s hR (by decide)) rfl (by show 9 < 41; decide) rfl
theorem g_12_10 (hA : WA e z) (hR : WR e) : xgr (HS e C I z) (rf e 12 0) 12 10 = some (rf e 30 0) := H0.gr hA (by decide) (Int.le_refl 0) (WR.s hR (by decide)) rfl (by show 10 < 41; decide) rfl
theorem g_12_11 (hA : WA e z) (hR : WR e) : xgr (HS e C I z) (rf e 12 0) 12 11 = some (rf e 31 0) := H0.gr hA (by decide) (Int.le_refl 0) (WR.s hR (by decide)) rfl (by show 11 < 41; decide) rfl
theorem g_12_12 (hA : WA e z) (hR : WR e) : xgr (HS e C I z) (rf e 12 0) 12 12 = some (rf e 32 0) := H0.gr hA (by decide) (Int.le_refl 0) (WR.s hR (by decide)) rfl (by show 12 < 41; decide) rfl
theorem g_12_13 (hA : WA e z) (hR : WR e) : xgi (HS e C I z) (rf e 12 0) 12 13 = some (xk (I 12 0 13)) := H0.gi hA (by decide) (Int.le_refl 0) (WR.s hR (by decide)) rfl (by show 13 < 41; decide) rfl
theorem p_12_13 (hA : WA e z) (hR : WR e) {v : Int} : xpt (HS e C I z) (rf e 12 0) 12 13 (.inl (xk v)) = some (HS e C (up I 12 0 13 v) z) := (H0.pt hA (by decide) (Int.le_refl 0) (WR.s hR (by decide)) rfl (by show 13 < 41; decide) rfl).trans (congrArg (fun S => some (H0 e S z)) (mx_i rfl))
theorem g_12_14 (hA : WA e z) (hR : WR e) : xgr (HS e C I z) (rf e 12 0) 12 14 = some (rf e 34 0) := H0.gr hA (by decide) (Int.le_refl 0) (WR.s hR (by decide)) rfl (by show 14 < 41; decide) rfl
theorem g_12_15 (hA : WA e z) (hR : WR e) : xgr (HS e C I z) (rf e 12 0) 12 15 = some (rf e 35 0) := H0.gr hA (by decide) (Int.le_refl 0) (WR.s hR (by decide)) rfl (by show 15 < 41; decide) rfl
theorem g_12_16 (hA : WA e z) (hR : WR e) : xgr (HS e C I z) (rf e 12 0) 12 16 = some (rf e 36 0) := H0.gr hA (by decide) (Int.le_refl 0) (WR.s hR (by decide)) rfl (by show 16 < 41; decide) rfl
theorem g_12_17 (hA : WA e z) (hR : WR e) : xgi (HS e C I z) (rf e 12 0) 12 17 = some (xk (I 12 0 17)) := H0.gi hA (by decide) (Int.le_refl 0) (WR.s hR (by decide)) rfl (by show 17 < 41; decide) rfl
theorem p_12_17 (hA : WA e z) (hR : WR e) {v : Int} : xpt (HS e C I z) (rf e 12 0) 12 17 (.inl (xk v)) = some (HS e C (up I 12 0 17 v) z) := (H0.pt hA (by decide) (Int.le_refl 0) (WR.s hR (by decide)) rfl (by show 17 < 41; decide) rfl).trans (congrArg (fun S => some (H0 e S z)) (mx_i rfl))
theorem g_12_18 (hA : WA e z) (hR : WR e) : xgr (HS e C I z) (rf e 12 0) 12 18 = some (rf e 38 0) := H0.gr hA (by decide) (Int.le_refl 0) (WR.s hR (by decide)) rfl (by show 18 < 41; decide) rfl
theorem g_12_19 (hA : WA e z) (hR : WR e) : xgr (HS e C I z) (rf e 12 0) 12 19 = some (rf e 39 0) := H0.gr hA (by decide) (Int.le_refl 0) (WR.s hR (by decide)) rfl (by show 19 < 41; decide) rfl
theorem g_12_20 (hA : WA e z) (hR : WR e) : xgr (HS e C I z) (rf e 12 0) 12 20 = some (rf e 40 0) := H0.gr hA (by decide) (Int.le_refl 0) (WR.s hR (by decide)) rfl (by show 20 < 41; decide) rfl
theorem g_12_21 (hA : WA e z) (hR : WR e) : xgr (HS e C I z) (rf e 12 0) 12 21 = some (rf e 41 0) := H0.gr hA (by decide) (Int.le_refl 0) (WR.s hR (by decide)) rfl (by show 21 < 41; decide) rfl
theorem g_12_22 (hA : WA e z) (hR : WR e) : xgr (HS e C I z) (rf e 12 0) 12 22 = some (rf e 42 0) := H0.gr hA (by decide) (Int.le_refl 0) (WR.s hR (by decide)) rfl (by show 22 < 41; decide) rfl
theorem g_12_23 (hA : WA e z) (hR : WR e) : xgr (HS e C I z) (rf e 12 0) 12 23 = some (rf e 43 0) := H0.gr hA (by decide) (Int.le_refl 0) (WR.s hR (by decide)) rfl (by show 23 < 41; decide) rfl
theorem g_12_24 (hA : WA e z) (hR : WR e) : xgr (HS e C I z) (rf e 12 0) 12 24 = some (rf e 44 0) := H0.gr hA (by decide) (Int.le_refl 0) (WR.s hR (by decide)) rfl (by show 24 < 41; decide) rfl
theorem g_12_25 (hA : WA e z) (hR : WR e) : xgr (HS e C I z) (rf e 12 0) 12 25 = some (rf e 45 0) := H0.gr hA (by decide) (Int.le_refl 0) (WR.s hR (by decide)) rfl (by show 25 < 41; decide) rfl
theorem g_12_26 (hA : WA e z) (hR : WR e) : xgi (HS e C I z) (rf e 12 0) 12 26 = some (xk (I 12 0 26)) := H0.gi hA (by decide) (Int.le_refl 0) (WR.s hR (by decide)) rfl (by show 26 < 41; decide) rfl
theorem p_12_26 (hA : WA e z) (hR : WR e) {v : Int} : xpt (HS e C I z) (rf e 12 0) 12 26 (.inl (xk v)) = some (HS e C (up I 12 0 26 v) z) := (H0.pt hA (by decide) (Int.le_refl 0) (WR.s hR (by decide)) rfl (by show 26 < 41; decide) rfl).trans (congrArg (fun S => some (H0 e S z)) (mx_i rfl))
theorem g_12_27 (hA : WA e z) (hR : WR e) : xgi (HS e C I z) (rf e 12 0) 12 27 = some (xk (I 12 0 27)) := H0.gi hA (by decide) (Int.le_refl 0) (WR.s hR (by decide)) rfl (by show 27 < 41; decide) rfl
theorem p_12_27 (hA : WA e z) (hR : WR e) {v : Int} : xpt (HS e C I z) (rf e 12 0) 12 27 (.inl (xk v)) = some (HS e C (up I 12 0 27 v) z) := (H0.pt hA (by decide) (Int.le_refl 0) (WR.s hR (by decide)) rfl (by show 27 < 41; decide) rfl).trans (congrArg (fun S => some (H0 e S z)) (mx_i rfl))
theorem g_12_28 (hA : WA e z) (hR : WR e) : xgi (HS e C I z) (rf e 12 0) 12 28 = some (xk (I 12 0 28)) := H0.gi hA (by decide) (Int.le_refl 0) (WR.s hR (by decide)) rfl (by show 28 < 41; decide) rfl
theorem p_12_28 (hA : WA e z) (hR : WR e) {v : Int} : xpt (HS e C I z) (rf e 12 0) 12 28 (.inl (xk v)) = some (HS e C (up I 12 0 28 v) z) := (H0.pt hA (by decide) (Int.le_refl 0) (WR.s hR (by decide)) rfl (by show 28 < 41; decide) rfl).trans (congrArg (fun S => some (H0 e S z)) (mx_i rfl))
theorem g_12_29 (hA : WA e z) (hR : WR e) : xgr (HS e C I z) (rf e 12 0) 12 29 = some (rf e 49 0) := H0.gr hA (by decide) (Int.le_refl 0) (WR.s hR (by decide)) rfl (by show 29 < 41; decide) rfl
theorem g_12_30 (hA : WA e z) (hR : WR e) : xgr (HS e C I z) (rf e 12 0) 12 30 = some (rf e 50 0) := H0.gr hA (by decide) (Int.le_refl 0) (WR.s hR (by decide)) rfl (by show 30 < 41; decide) rfl
theorem g_12_31 (hA : WA e z) (hR : WR e) : xgr (HS e C I z) (rf e 12 0) 12 31 = some (rf e 51 0) := H0.gr hA (by decide) (Int.le_refl 0) (WR.s hR (by decide)) rfl (by show 31 < 41; decide) rfl
theorem g_12_32 (hA : WA e z) (hR : WR e) : xgr (HS e C I z) (rf e 12 0) 12 32 = some (rf e 52 0) := H0.gr hA (by decide) (Int.le_refl 0) (WR.s hR (by decide)) rfl (by show 32 < 41; decide) rfl
theorem g_12_33 (hA : WA e z) (hR : WR e) : xgr (HS e C I z) (rf e 12 0) 12 33 = some (rf e 53 0) := H0.gr hA (by decide) (Int.le_refl 0) (WR.s hR (by decide)) rfl (by show 33 < 41; decide) rfl
theorem g_12_34 (hA : WA e z) (hR : WR e) : xgr (HS e C I z) (rf e 12 0) 12 34 = some (rf e 54 0) := H0.gr hA (by decide) (Int.le_refl 0) (WR.s hR (by decide)) rfl (by show 34 < 41; decide) rfl
theorem g_12_35 (hA : WA e z) (hR : WR e) : xgr (HS e C I z) (rf e 12 0) 12 35 = some (rf e 55 0) := H0.gr hA (by decide) (Int.le_refl 0) (WR.s hR (by decide)) rfl (by show 35 < 41; decide) rfl
theorem g_12_36 (hA : WA e z) (hR : WR e) : xgi (HS e C I z) (rf e 12 0) 12 36 = some (xk (I 12 0 36)) := H0.gi hA (by decide) (Int.le_refl 0) (WR.s hR (by decide)) rfl (by show 36 < 41; decide) rfl
theorem p_12_36 (hA : WA e z) (hR : WR e) {v : Int} : xpt (HS e C I z) (rf e 12 0) 12 36 (.inl (xk v)) = some (HS e C (up I 12 0 36 v) z) := (H0.pt hA (by decide) (Int.le_refl 0) (WR.s hR (by decide)) rfl (by show 36 < 41; decide) rfl).trans (congrArg (fun S => some (H0 e S z)) (mx_i rfl))
theorem g_12_37 (hA : WA e z) (hR : WR e) : xgi (HS e C I z) (rf e 12 0) 12 37 = some (xk (I 12 0 37)) := H0.gi hA (by decide) (Int.le_refl 0) (WR.s hR (by decide)) rfl (by show 37 < 41; decide) rfl
theorem p_12_37 (hA : WA e z) (hR : WR e) {v : Int} : xpt (HS e C I z) (rf e 12 0) 12 37 (.inl (xk v)) = some (HS e C (up I 12 0 37 v) z) := (H0.pt hA (by decide) (Int.le_refl 0) (WR.s hR (by decide)) rfl (by show 37 < 41; decide) rfl).trans (congrArg (fun S => some (H0 e S z)) (mx_i rfl))
theorem g_12_38 (hA : WA e z) (hR : WR e) : xgi (HS e C I z) (rf e 12 0) 12 38 = some (xk (I 12 0 38)) := H0.gi hA (by decide) (Int.le_refl 0) (WR.s hR (by decide)) rfl (by show 38 < 41; decide) rfl
theorem p_12_38 (hA : WA e z) (hR : WR e) {v : Int} : xpt (HS e C I z) (rf e 12 0) 12 38 (.inl (xk v)) = some (HS e C (up I 12 0 38 v) z) := (H0.pt hA (by decide) (Int.le_refl 0) (WR.s hR (by decide)) rfl (by show 38 < 41; decide) rfl).trans (congrArg (fun S => some (H0 e S z)) (mx_i rfl))
theorem g_12_39 (hA : WA e z) (hR : WR e) : xgr (HS e C I z) (rf e 12 0) 12 39 = some (rf e 59 0) := H0.gr hA (by decide) (Int.le_refl 0) (WR.s hR (by decide)) rfl (by show 39 < 41; decide) rfl
theorem g_12_40 (hA : WA e z) (hR : WR e) : xgr (HS e C I z) (rf e 12 0) 12 40 = some (rf e 60 0) := H0.gr hA (by decide) (Int.le_refl 0) (WR.s hR (by decide)) rfl (by show 40 < 41; decide) rfl
theorem a_13 (hA : WA e z) {a : Int} (a0 : 0 ≤ a) (a1 : a < 150) : xar (HS e C I z) (rf e 13 0) (xk a) = some (rf e 8 (if a < e.2.1 8 then a else -1)) := by
  unfold xar HS
  rw [H0.at hA (by decide) (Int.le_refl 0) (WA.s hA rfl) a0 (by show a < ((150 : Nat) : Int); exact a1) (by show 150 ≤ 2147483647; decide), show ky 13 a.toNat = 608 from rfl, cv6 (k := 8) rfl (by decide)]
  rfl
theorem b_13 (hA : WA e z) {a : Int} (a0 : 0 ≤ a) (a2 : a < e.2.1 8) (a1 : a < 150) : xar (HS e C I z) (rf e 13 0) (xk a) = some (rf e 8 a) := by
  rw [a_13 hA a0 a1, if_pos a2]
theorem a_14 (hA : WA e z) {a : Int} (a0 : 0 ≤ a) (a1 : a < 20) : xar (HS e C I z) (rf e 14 0) (xk a) = some (rf e 7 (if a < e.2.1 7 then a else -1)) := by
  unfold xar HS
  rw [H0.at hA (by decide) (Int.le_refl 0) (WA.s hA rfl) a0 (by show a < ((20 : Nat) : Int); exact a1) (by show 20 ≤ 2147483647; decide), show ky 14 a.toNat = 607 from rfl, cv6 (k := 7) rfl (by decide)]
  rfl
theorem b_14 (hA : WA e z) {a : Int} (a0 : 0 ≤ a) (a2 : a < e.2.1 7) (a1 : a < 20) : xar (HS e C I z) (rf e 14 0) (xk a) = some (rf e 7 a) := by
  rw [a_14 hA a0 a1, if_pos a2]
theorem a_15 (hA : WA e z) {i : Int} (h0 : 0 ≤ i) (h1 : i < e.2.1 15) {a : Int} (a0 : 0 ≤ a) (a1 : a < 41) : xar (HS e C I z) (rf e 15 i) (xk a) = some (rf e 8 (C 15 i a)) := by
  unfold xar HS
  rw [H0.at hA (by decide) (h0) h1 a0 (by show a < ((41 : Nat) : Int); exact a1) (by show 41 ≤ 2147483647; decide)]
  rfl
theorem a_16 (hA : WA e z) {a : Int} (a0 : 0 ≤ a) (a1 : a < 20) : xar (HS e C I z) (rf e 16 0) (xk a) = some (rf e 1 (if a < e.2.1 1 then a else -1)) := by
  unfold xar HS
  rw [H0.at hA (by decide) (Int.le_refl 0) (WA.s hA rfl) a0 (by show a < ((20 : Nat) : Int); exact a1) (by show 20 ≤ 2147483647; decide), show ky 16 a.toNat = 601 from rfl, cv6 (k := 1) rfl (by decide)]
  rfl
theorem b_16 (hA : WA e z) {a : Int} (a0 : 0 ≤ a) (a2 : a < e.2.1 1) (a1 : a < 20) : xar (HS e C I z) (rf e 16 0) (xk a) = some (rf e 1 a) := by
  rw [a_16 hA a0 a1, if_pos a2]
theorem a_17 (hA : WA e z) {i : Int} (h0 : 0 ≤ i) (h1 : i < e.2.1 17) {a : Int} (a0 : 0 ≤ a) (a1 : a < 15) : xar (HS e C I z) (rf e 17 i) (xk a) = some (rf e 4 (C 17 i a)) := by
  unfold xar HS
  rw [H0.at hA (by decide) (h0) h1 a0 (by show a < ((15 : Nat) : Int); exact a1) (by show 15 ≤ 2147483647; decide)]
  rfl
theorem a_18 (hA : WA e z) {a : Int} (a0 : 0 ≤ a) (a1 : a < 80) : xar (HS e C I z) (rf e 18 0) (xk a) = some (rf e 4 (if a < e.2.1 4 then a else -1)) := by
  unfold xar HS
  rw [H0.at hA (by decide) (Int.le_refl 0) (WA.s hA rfl) a0 (by show a < ((80 : Nat) : Int); exact a1) (by show 80 ≤ 2147483647; decide), show ky 18 a.toNat = 604 from rfl, cv6 (k := 4) rfl (by decide)]
  rfl
theorem b_18 (hA : WA e z) {a : Int} (a0 : 0 ≤ a) (a2 : a < e.2.1 4) (a1 : a < 80) : xar (HS e C I z) (rf e 18 0) (xk a) = some (rf e 4 a) := by
  rw [a_18 hA a0 a1, if_pos a2]
theorem a_19 (hA : WA e z) {a : Int} (a0 : 0 ≤ a) (a1 : a < 10) : xar (HS e C I z) (rf e 19 0) (xk a) = some (rf e 10 (if a < e.2.1 10 then a else -1)) := by
  unfold xar HS
  rw [H0.at hA (by decide) (Int.le_refl 0) (WA.s hA rfl) a0 (by show a < ((10 : Nat) : Int); exact a1) (by show 10 ≤ 2147483647; decide), show ky 19 a.toNat = 610 from rfl, cv6 (k := 10) rfl (by decide)]
  rfl
theorem b_19 (hA : WA e z) {a : Int} (a0 : 0 ≤ a) (a2 : a < e.2.1 10) (a1 : a < 10) : xar (HS e C I z) (rf e 19 0) (xk a) = some (rf e 10 a) := by
  rw [a_19 hA a0 a1, if_pos a2]
theorem a_22 (hA : WA e z) (hR : WR e) {a : Int} (a0 : 0 ≤ a) (a1 : a < 150) : xai (HS e C I z) (rf e 22 0) (xk a) = some (xk (I 22 0 a)) := by
  unfold xai HS
  rw [H0.at hA (by decide) (Int.le_refl 0) (WR.s hR (by decide)) a0 (by show a < ((150 : Nat) : Int); exact a1) (by show 150 ≤ 2147483647; decide)]
  rfl
theorem s_22 (hA : WA e z) (hR : WR e) {a v : Int} (a0 : 0 ≤ a) (a1 : a < 150) : xsi (HS e C I z) (rf e 22 0) (xk a) (xk v) = some (HS e C (up I 22 0 a v) z) := (H0.sa hA (by decide) (Int.le_refl 0) (WR.s hR (by decide)) a0 (by show a < ((150 : Nat) : Int); exact a1) (by show 150 ≤ 2147483647; decide) rfl rfl).trans (congrArg (fun S => some (H0 e S z)) (mx_i rfl))
theorem a_23 (hA : WA e z) (hR : WR e) {a : Int} (a0 : 0 ≤ a) (a1 : a < 150) : xai (HS e C I z) (rf e 23 0) (xk a) = some (xk (I 23 0 a)) := by
  unfold xai HS
  rw [H0.at hA (by decide) (Int.le_refl 0) (WR.s hR (by decide)) a0 (by show a < ((150 : Nat) : Int); exact a1) (by show 150 ≤ 2147483647; decide)]
  rfl
theorem s_23 (hA : WA e z) (hR : WR e) {a v : Int} (a0 : 0 ≤ a) (a1 : a < 150) : xsi (HS e C I z) (rf e 23 0) (xk a) (xk v) = some (HS e C (up I 23 0 a v) z) := (H0.sa hA (by decide) (Int.le_refl 0) (WR.s hR (by decide)) a0 (by show a < ((150 : Nat) : Int); exact a1) (by show 150 ≤ 2147483647; decide) rfl rfl).trans (congrArg (fun S => some (H0 e S z)) (mx_i rfl))
theorem a_24 (hA : WA e z) (hR : WR e) {a : Int} (a0 : 0 ≤ a) (a1 : a < 150) : xai (HS e C I z) (rf e 24 0) (xk a) = some (xk (I 24 0 a)) := by
  unfold xai HS
  rw [H0.at hA (by decide) (Int.le_refl 0) (WR.s hR (by decide)) a0 (by show a < ((150 : Nat) : Int); exact a1) (by show 150 ≤ 2147483647; decide)]
  rfl
theorem s_24 (hA : WA e z) (hR : WR e) {a v : Int} (a0 : 0 ≤ a) (a1 : a < 150) : xsi (HS e C I z) (rf e 24 0) (xk a) (xk v) = some (HS e C (up I 24 0 a v) z) := (H0.sa hA (by decide) (Int.le_refl 0) (WR.s hR (by decide)) a0 (by show a < ((150 : Nat) : Int); exact a1) (by show 150 ≤ 2147483647; decide) rfl rfl).trans (congrArg (fun S => some (H0 e S z)) (mx_i rfl))
theorem a_25 (hA : WA e z) (hR : WR e) {a : Int} (a0 : 0 ≤ a) (a1 : a < 150) : xai (HS e C I z) (rf e 25 0) (xk a) = some (xk (I 25 0 a)) := by
  unfold xai HS
  rw [H0.at hA (by decide) (Int.le_refl 0) (WR.s hR (by decide)) a0 (by show a < ((150 : Nat) : Int); exact a1) (by show 150 ≤ 2147483647; decide)]
  rfl
theorem s_25 (hA : WA e z) (hR : WR e) {a v : Int} (a0 : 0 ≤ a) (a1 : a < 150) : xsi (HS e C I z) (rf e 25 0) (xk a) (xk v) = some (HS e C (up I 25 0 a v) z) := (H0.sa hA (by decide) (Int.le_refl 0) (WR.s hR (by decide)) a0 (by show a < ((150 : Nat) : Int); exact a1) (by show 150 ≤ 2147483647; decide) rfl rfl).trans (congrArg (fun S => some (H0 e S z)) (mx_i rfl))
theorem a_26 (hA : WA e z) (hR : WR e) {a : Int} (a0 : 0 ≤ a) (a1 : a < 150) : xai (HS e C I z) (rf e 26 0) (xk a) = some (xk (I 26 0 a)) := by
  unfold xai HS
  rw [H0.at hA (by decide) (Int.le_refl 0) (WR.s hR (by decide)) a0 (by show a < ((150 : Nat) : Int); exact a1) (by show 150 ≤ 2147483647; decide)]
  rfl
theorem s_26 (hA : WA e z) (hR : WR e) {a v : Int} (a0 : 0 ≤ a) (a1 : a < 150) : xsi (HS e C I z) (rf e 26 0) (xk a) (xk v) = some (HS e C (up I 26 0 a v) z) := (H0.sa hA (by decide) (Int.le_refl 0) (WR.s hR (by decide)) a0 (by show a < ((150 : Nat) : Int); exact a1) (by show 150 ≤ 2147483647; decide) rfl rfl).trans (congrArg (fun S => some (H0 e S z)) (mx_i rfl))
theorem a_27 (hA : WA e z) (hR : WR e) {a : Int} (a0 : 0 ≤ a) (a1 : a < 150) : xai (HS e C I z) (rf e 27 0) (xk a) = some (xk (I 27 0 a)) := by
  unfold xai HS
  rw [H0.at hA (by decide) (Int.le_refl 0) (WR.s hR (by decide)) a0 (by show a < ((150 : Nat) : Int); exact a1) (by show 150 ≤ 2147483647; decide)]
  rfl
theorem s_27 (hA : WA e z) (hR : WR e) {a v : Int} (a0 : 0 ≤ a) (a1 : a < 150) : xsi (HS e C I z) (rf e 27 0) (xk a) (xk v) = some (HS e C (up I 27 0 a v) z) := (H0.sa hA (by decide) (Int.le_refl 0) (WR.s hR (by decide)) a0 (by show a < ((150 : Nat) : Int); exact a1) (by show 150 ≤ 2147483647; decide) rfl rfl).trans (congrArg (fun S => some (H0 e S z)) (mx_i rfl))
theorem a_28 (hA : WA e z) (hR : WR e) {a : Int} (a0 : 0 ≤ a) (a1 : a < 150) : xai (HS e C I z) (rf e 28 0) (xk a) = some (xk (I 28 0 a)) := by
  unfold xai HS
  rw [H0.at hA (by decide) (Int.le_refl 0) (WR.s hR (by decide)) a0 (by show a < ((150 : Nat) : Int); exact a1) (by show 150 ≤ 2147483647; decide)]
  rfl
theorem s_28 (hA : WA e z) (hR : WR e) {a v : Int} (a0 : 0 ≤ a) (a1 : a < 150) : xsi (HS e C I z) (rf e 28 0) (xk a) (xk v) = some (HS e C (up I 28 0 a v) z) := (H0.sa hA (by decide) (Int.le_refl 0) (WR.s hR (by decide)) a0 (by show a < ((150 : Nat) : Int); exact a1) (by show 150 ≤ 2147483647; decide) rfl rfl).trans (congrArg (fun S => some (H0 e S z)) (mx_i rfl))
theorem a_29 (hA : WA e z) (hR : WR e) {a : Int} (a0 : 0 ≤ a) (a1 : a < 150) : xaz (HS e C I z) (rf e 29 0) (xk a) = some (xk (I 29 0 a)) := by
  unfold xaz HS
  rw [H0.at hA (by decide) (Int.le_refl 0) (WR.s hR (by decide)) a0 (by show a < ((150 : Nat) : Int); exact a1) (by show 150 ≤ 2147483647; decide)]
  rfl
theorem s_29 (hA : WA e z) (hR : WR e) {a v : Int} (a0 : 0 ≤ a) (a1 : a < 150) (hv : v = 0 ∨ v = 1) : xsz (HS e C I z) (rf e 29 0) (xk a) (xk v) = some (HS e C (up I 29 0 a v) z) := by
  unfold xsz
  rw [if_pos (by rcases hv with rfl | rfl; exact Or.inl xk_zero; exact Or.inr xk_one)]
  exact (H0.sa hA (by decide) (Int.le_refl 0) (WR.s hR (by decide)) a0 (by show a < ((150 : Nat) : Int); exact a1) (by show 150 ≤ 2147483647; decide) rfl rfl).trans (congrArg (fun S => some (H0 e S z)) (mx_i rfl))
theorem a_30 (hA : WA e z) (hR : WR e) {a : Int} (a0 : 0 ≤ a) (a1 : a < 150) : xal (HS e C I z) (rf e 30 0) (xk a) = some (Int64.ofInt (I 30 0 a)) := by
  unfold xal HS
  rw [H0.at hA (by decide) (Int.le_refl 0) (WR.s hR (by decide)) a0 (by show a < ((150 : Nat) : Int); exact a1) (by show 150 ≤ 2147483647; decide)]
  rfl
theorem s_30 (hA : WA e z) (hR : WR e) {a v : Int} (a0 : 0 ≤ a) (a1 : a < 150) : xsl (HS e C I z) (rf e 30 0) (xk a) (Int64.ofInt v) = some (HS e C (up I 30 0 a v) z) := (H0.sa hA (by decide) (Int.le_refl 0) (WR.s hR (by decide)) a0 (by show a < ((150 : Nat) : Int); exact a1) (by show 150 ≤ 2147483647; decide) rfl rfl).trans (congrArg (fun S => some (H0 e S z)) (mx_i rfl))
theorem a_31 (hA : WA e z) (hR : WR e) {a : Int} (a0 : 0 ≤ a) (a1 : a < 150) : xai (HS e C I z) (rf e 31 0) (xk a) = some (xk (I 31 0 a)) := by
  unfold xai HS
  rw [H0.at hA (by decide) (Int.le_refl 0) (WR.s hR (by decide)) a0 (by show a < ((150 : Nat) : Int); exact a1) (by show 150 ≤ 2147483647; decide)]
  rfl
theorem s_31 (hA : WA e z) (hR : WR e) {a v : Int} (a0 : 0 ≤ a) (a1 : a < 150) : xsi (HS e C I z) (rf e 31 0) (xk a) (xk v) = some (HS e C (up I 31 0 a v) z) := (H0.sa hA (by decide) (Int.le_refl 0) (WR.s hR (by decide)) a0 (by show a < ((150 : Nat) : Int); exact a1) (by show 150 ≤ 2147483647; decide) rfl rfl).trans (congrArg (fun S => some (H0 e S z)) (mx_i rfl))
theorem a_32 (hA : WA e z) (hR : WR e) {a : Int} (a0 : 0 ≤ a) (a1 : a < 3000) : xai (HS e C I z) (rf e 32 0) (xk a) = some (xk (I 32 0 a)) := by
  unfold xai HS
  rw [H0.at hA (by decide) (Int.le_refl 0) (WR.s hR (by decide)) a0 (by show a < ((3000 : Nat) : Int); exact a1) (by show 3000 ≤ 2147483647; decide)]
  rfl
theorem s_32 (hA : WA e z) (hR : WR e) {a v : Int} (a0 : 0 ≤ a) (a1 : a < 3000) : xsi (HS e C I z) (rf e 32 0) (xk a) (xk v) = some (HS e C (up I 32 0 a v) z) := (H0.sa hA (by decide) (Int.le_refl 0) (WR.s hR (by decide)) a0 (by show a < ((3000 : Nat) : Int); exact a1) (by show 3000 ≤ 2147483647; decide) rfl rfl).trans (congrArg (fun S => some (H0 e S z)) (mx_i rfl))
theorem a_34 (hA : WA e z) (hR : WR e) {a : Int} (a0 : 0 ≤ a) (a1 : a < 20) : xai (HS e C I z) (rf e 34 0) (xk a) = some (xk (I 34 0 a)) := by
  unfold xai HS
  rw [H0.at hA (by decide) (Int.le_refl 0) (WR.s hR (by decide)) a0 (by show a < ((20 : Nat) : Int); exact a1) (by show 20 ≤ 2147483647; decide)]
  rfl
theorem s_34 (hA : WA e z) (hR : WR e) {a v : Int} (a0 : 0 ≤ a) (a1 : a < 20) : xsi (HS e C I z) (rf e 34 0) (xk a) (xk v) = some (HS e C (up I 34 0 a v) z) := (H0.sa hA (by decide) (Int.le_refl 0) (WR.s hR (by decide)) a0 (by show a < ((20 : Nat) : Int); exact a1) (by show 20 ≤ 2147483647; decide) rfl rfl).trans (congrArg (fun S => some (H0 e S z)) (mx_i rfl))
theorem a_35 (hA : WA e z) (hR : WR e) {a : Int} (a0 : 0 ≤ a) (a1 : a < 20) : xai (HS e C I z) (rf e 35 0) (xk a) = some (xk (I 35 0 a)) := by
  unfold xai HS
  rw [H0.at hA (by decide) (Int.le_refl 0) (WR.s hR (by decide)) a0 (by show a < ((20 : Nat) : Int); exact a1) (by show 20 ≤ 2147483647; decide)]
  rfl
theorem s_35 (hA : WA e z) (hR : WR e) {a v : Int} (a0 : 0 ≤ a) (a1 : a < 20) : xsi (HS e C I z) (rf e 35 0) (xk a) (xk v) = some (HS e C (up I 35 0 a v) z) := (H0.sa hA (by decide) (Int.le_refl 0) (WR.s hR (by decide)) a0 (by show a < ((20 : Nat) : Int); exact a1) (by show 20 ≤ 2147483647; decide) rfl rfl).trans (congrArg (fun S => some (H0 e S z)) (mx_i rfl))
theorem a_36 (hA : WA e z) (hR : WR e) {a : Int} (a0 : 0 ≤ a) (a1 : a < 20) : xai (HS e C I z) (rf e 36 0) (xk a) = some (xk (I 36 0 a)) := by
  unfold xai HS
  rw [H0.at hA (by decide) (Int.le_refl 0) (WR.s hR (by decide)) a0 (by show a < ((20 : Nat) : Int); exact a1) (by show 20 ≤ 2147483647; decide)]
  rfl
theorem s_36 (hA : WA e z) (hR : WR e) {a v : Int} (a0 : 0 ≤ a) (a1 : a < 20) : xsi (HS e C I z) (rf e 36 0) (xk a) (xk v) = some (HS e C (up I 36 0 a v) z) := (H0.sa hA (by decide) (Int.le_refl 0) (WR.s hR (by decide)) a0 (by show a < ((20 : Nat) : Int); exact a1) (by show 20 ≤ 2147483647; decide) rfl rfl).trans (congrArg (fun S => some (H0 e S z)) (mx_i rfl))
theorem a_38 (hA : WA e z) (hR : WR e) {a : Int} (a0 : 0 ≤ a) (a1 : a < 20) : xai (HS e C I z) (rf e 38 0) (xk a) = some (xk (I 38 0 a)) := by
  unfold xai HS
  rw [H0.at hA (by decide) (Int.le_refl 0) (WR.s hR (by decide)) a0 (by show a < ((20 : Nat) : Int); exact a1) (by show 20 ≤ 2147483647; decide)]
  rfl
theorem s_38 (hA : WA e z) (hR : WR e) {a v : Int} (a0 : 0 ≤ a) (a1 : a < 20) : xsi (HS e C I z) (rf e 38 0) (xk a) (xk v) = some (HS e C (up I 38 0 a v) z) := (H0.sa hA (by decide) (Int.le_refl 0) (WR.s hR (by decide)) a0 (by show a < ((20 : Nat) : Int); exact a1) (by show 20 ≤ 2147483647; decide) rfl rfl).trans (congrArg (fun S => some (H0 e S z)) (mx_i rfl))
theorem a_39 (hA : WA e z) (hR : WR e) {a : Int} (a0 : 0 ≤ a) (a1 : a < 20) : xai (HS e C I z) (rf e 39 0) (xk a) = some (xk (I 39 0 a)) := by
  unfold xai HS
  rw [H0.at hA (by decide) (Int.le_refl 0) (WR.s hR (by decide)) a0 (by show a < ((20 : Nat) : Int); exact a1) (by show 20 ≤ 2147483647; decide)]
  rfl
theorem s_39 (hA : WA e z) (hR : WR e) {a v : Int} (a0 : 0 ≤ a) (a1 : a < 20) : xsi (HS e C I z) (rf e 39 0) (xk a) (xk v) = some (HS e C (up I 39 0 a v) z) := (H0.sa hA (by decide) (Int.le_refl 0) (WR.s hR (by decide)) a0 (by show a < ((20 : Nat) : Int); exact a1) (by show 20 ≤ 2147483647; decide) rfl rfl).trans (congrArg (fun S => some (H0 e S z)) (mx_i rfl))
theorem a_40 (hA : WA e z) (hR : WR e) {a : Int} (a0 : 0 ≤ a) (a1 : a < 20) : xai (HS e C I z) (rf e 40 0) (xk a) = some (xk (I 40 0 a)) := by
  unfold xai HS
  rw [H0.at hA (by decide) (Int.le_refl 0) (WR.s hR (by decide)) a0 (by show a < ((20 : Nat) : Int); exact a1) (by show 20 ≤ 2147483647; decide)]
  rfl
theorem s_40 (hA : WA e z) (hR : WR e) {a v : Int} (a0 : 0 ≤ a) (a1 : a < 20) : xsi (HS e C I z) (rf e 40 0) (xk a) (xk v) = some (HS e C (up I 40 0 a v) z) := (H0.sa hA (by decide) (Int.le_refl 0) (WR.s hR (by decide)) a0 (by show a < ((20 : Nat) : Int); exact a1) (by show 20 ≤ 2147483647; decide) rfl rfl).trans (congrArg (fun S => some (H0 e S z)) (mx_i rfl))
theorem a_41 (hA : WA e z) (hR : WR e) {a : Int} (a0 : 0 ≤ a) (a1 : a < 20) : xai (HS e C I z) (rf e 41 0) (xk a) = some (xk (I 41 0 a)) := by
  unfold xai HS
  rw [H0.at hA (by decide) (Int.le_refl 0) (WR.s hR (by decide)) a0 (by show a < ((20 : Nat) : Int); exact a1) (by show 20 ≤ 2147483647; decide)]
  rfl
theorem s_41 (hA : WA e z) (hR : WR e) {a v : Int} (a0 : 0 ≤ a) (a1 : a < 20) : xsi (HS e C I z) (rf e 41 0) (xk a) (xk v) = some (HS e C (up I 41 0 a v) z) := (H0.sa hA (by decide) (Int.le_refl 0) (WR.s hR (by decide)) a0 (by show a < ((20 : Nat) : Int); exact a1) (by show 20 ≤ 2147483647; decide) rfl rfl).trans (congrArg (fun S => some (H0 e S z)) (mx_i rfl))
theorem a_42 (hA : WA e z) (hR : WR e) {a : Int} (a0 : 0 ≤ a) (a1 : a < 20) : xai (HS e C I z) (rf e 42 0) (xk a) = some (xk (I 42 0 a)) := by
  unfold xai HS
  rw [H0.at hA (by decide) (Int.le_refl 0) (WR.s hR (by decide)) a0 (by show a < ((20 : Nat) : Int); exact a1) (by show 20 ≤ 2147483647; decide)]
  rfl
theorem s_42 (hA : WA e z) (hR : WR e) {a v : Int} (a0 : 0 ≤ a) (a1 : a < 20) : xsi (HS e C I z) (rf e 42 0) (xk a) (xk v) = some (HS e C (up I 42 0 a v) z) := (H0.sa hA (by decide) (Int.le_refl 0) (WR.s hR (by decide)) a0 (by show a < ((20 : Nat) : Int); exact a1) (by show 20 ≤ 2147483647; decide) rfl rfl).trans (congrArg (fun S => some (H0 e S z)) (mx_i rfl))
theorem a_43 (hA : WA e z) (hR : WR e) {a : Int} (a0 : 0 ≤ a) (a1 : a < 20) : xai (HS e C I z) (rf e 43 0) (xk a) = some (xk (I 43 0 a)) := by
  unfold xai HS
  rw [H0.at hA (by decide) (Int.le_refl 0) (WR.s hR (by decide)) a0 (by show a < ((20 : Nat) : Int); exact a1) (by show 20 ≤ 2147483647; decide)]
  rfl
theorem s_43 (hA : WA e z) (hR : WR e) {a v : Int} (a0 : 0 ≤ a) (a1 : a < 20) : xsi (HS e C I z) (rf e 43 0) (xk a) (xk v) = some (HS e C (up I 43 0 a v) z) := (H0.sa hA (by decide) (Int.le_refl 0) (WR.s hR (by decide)) a0 (by show a < ((20 : Nat) : Int); exact a1) (by show 20 ≤ 2147483647; decide) rfl rfl).trans (congrArg (fun S => some (H0 e S z)) (mx_i rfl))
theorem a_44 (hA : WA e z) (hR : WR e) {a : Int} (a0 : 0 ≤ a) (a1 : a < 20) : xai (HS e C I z) (rf e 44 0) (xk a) = some (xk (I 44 0 a)) := by
  unfold xai HS
  rw [H0.at hA (by decide) (Int.le_refl 0) (WR.s hR (by decide)) a0 (by show a < ((20 : Nat) : Int); exact a1) (by show 20 ≤ 2147483647; decide)]
  rfl
theorem s_44 (hA : WA e z) (hR : WR e) {a v : Int} (a0 : 0 ≤ a) (a1 : a < 20) : xsi (HS e C I z) (rf e 44 0) (xk a) (xk v) = some (HS e C (up I 44 0 a v) z) := (H0.sa hA (by decide) (Int.le_refl 0) (WR.s hR (by decide)) a0 (by show a < ((20 : Nat) : Int); exact a1) (by show 20 ≤ 2147483647; decide) rfl rfl).trans (congrArg (fun S => some (H0 e S z)) (mx_i rfl))
theorem a_45 (hA : WA e z) (hR : WR e) {a : Int} (a0 : 0 ≤ a) (a1 : a < 20) : xal (HS e C I z) (rf e 45 0) (xk a) = some (Int64.ofInt (I 45 0 a)) := by
  unfold xal HS
  rw [H0.at hA (by decide) (Int.le_refl 0) (WR.s hR (by decide)) a0 (by show a < ((20 : Nat) : Int); exact a1) (by show 20 ≤ 2147483647; decide)]
  rfl
theorem s_45 (hA : WA e z) (hR : WR e) {a v : Int} (a0 : 0 ≤ a) (a1 : a < 20) : xsl (HS e C I z) (rf e 45 0) (xk a) (Int64.ofInt v) = some (HS e C (up I 45 0 a v) z) := (H0.sa hA (by decide) (Int.le_refl 0) (WR.s hR (by decide)) a0 (by show a < ((20 : Nat) : Int); exact a1) (by show 20 ≤ 2147483647; decide) rfl rfl).trans (congrArg (fun S => some (H0 e S z)) (mx_i rfl))
theorem a_49 (hA : WA e z) (hR : WR e) {a : Int} (a0 : 0 ≤ a) (a1 : a < 10) : xai (HS e C I z) (rf e 49 0) (xk a) = some (xk (I 49 0 a)) := by
  unfold xai HS
  rw [H0.at hA (by decide) (Int.le_refl 0) (WR.s hR (by decide)) a0 (by show a < ((10 : Nat) : Int); exact a1) (by show 10 ≤ 2147483647; decide)]
  rfl
theorem s_49 (hA : WA e z) (hR : WR e) {a v : Int} (a0 : 0 ≤ a) (a1 : a < 10) : xsi (HS e C I z) (rf e 49 0) (xk a) (xk v) = some (HS e C (up I 49 0 a v) z) := (H0.sa hA (by decide) (Int.le_refl 0) (WR.s hR (by decide)) a0 (by show a < ((10 : Nat) : Int); exact a1) (by show 10 ≤ 2147483647; decide) rfl rfl).trans (congrArg (fun S => some (H0 e S z)) (mx_i rfl))
theorem a_50 (hA : WA e z) (hR : WR e) {a : Int} (a0 : 0 ≤ a) (a1 : a < 80) : xaz (HS e C I z) (rf e 50 0) (xk a) = some (xk (I 50 0 a)) := by
  unfold xaz HS
  rw [H0.at hA (by decide) (Int.le_refl 0) (WR.s hR (by decide)) a0 (by show a < ((80 : Nat) : Int); exact a1) (by show 80 ≤ 2147483647; decide)]
  rfl
theorem s_50 (hA : WA e z) (hR : WR e) {a v : Int} (a0 : 0 ≤ a) (a1 : a < 80) (hv : v = 0 ∨ v = 1) : xsz (HS e C I z) (rf e 50 0) (xk a) (xk v) = some (HS e C (up I 50 0 a v) z) := by
  unfold xsz
  rw [if_pos (by rcases hv with rfl | rfl; exact Or.inl xk_zero; exact Or.inr xk_one)]
  exact (H0.sa hA (by decide) (Int.le_refl 0) (WR.s hR (by decide)) a0 (by show a < ((80 : Nat) : Int); exact a1) (by show 80 ≤ 2147483647; decide) rfl rfl).trans (congrArg (fun S => some (H0 e S z)) (mx_i rfl))
theorem a_51 (hA : WA e z) (hR : WR e) {a : Int} (a0 : 0 ≤ a) (a1 : a < 80) : xai (HS e C I z) (rf e 51 0) (xk a) = some (xk (I 51 0 a)) := by
  unfold xai HS
  rw [H0.at hA (by decide) (Int.le_refl 0) (WR.s hR (by decide)) a0 (by show a < ((80 : Nat) : Int); exact a1) (by show 80 ≤ 2147483647; decide)]
  rfl
theorem s_51 (hA : WA e z) (hR : WR e) {a v : Int} (a0 : 0 ≤ a) (a1 : a < 80) : xsi (HS e C I z) (rf e 51 0) (xk a) (xk v) = some (HS e C (up I 51 0 a v) z) := (H0.sa hA (by decide) (Int.le_refl 0) (WR.s hR (by decide)) a0 (by show a < ((80 : Nat) : Int); exact a1) (by show 80 ≤ 2147483647; decide) rfl rfl).trans (congrArg (fun S => some (H0 e S z)) (mx_i rfl))
theorem a_52 (hA : WA e z) (hR : WR e) {a : Int} (a0 : 0 ≤ a) (a1 : a < 80) : xai (HS e C I z) (rf e 52 0) (xk a) = some (xk (I 52 0 a)) := by
  unfold xai HS
  rw [H0.at hA (by decide) (Int.le_refl 0) (WR.s hR (by decide)) a0 (by show a < ((80 : Nat) : Int); exact a1) (by show 80 ≤ 2147483647; decide)]
  rfl
theorem s_52 (hA : WA e z) (hR : WR e) {a v : Int} (a0 : 0 ≤ a) (a1 : a < 80) : xsi (HS e C I z) (rf e 52 0) (xk a) (xk v) = some (HS e C (up I 52 0 a v) z) := (H0.sa hA (by decide) (Int.le_refl 0) (WR.s hR (by decide)) a0 (by show a < ((80 : Nat) : Int); exact a1) (by show 80 ≤ 2147483647; decide) rfl rfl).trans (congrArg (fun S => some (H0 e S z)) (mx_i rfl))
theorem a_53 (hA : WA e z) (hR : WR e) {a : Int} (a0 : 0 ≤ a) (a1 : a < 80) : xai (HS e C I z) (rf e 53 0) (xk a) = some (xk (I 53 0 a)) := by
  unfold xai HS
  rw [H0.at hA (by decide) (Int.le_refl 0) (WR.s hR (by decide)) a0 (by show a < ((80 : Nat) : Int); exact a1) (by show 80 ≤ 2147483647; decide)]
  rfl
theorem s_53 (hA : WA e z) (hR : WR e) {a v : Int} (a0 : 0 ≤ a) (a1 : a < 80) : xsi (HS e C I z) (rf e 53 0) (xk a) (xk v) = some (HS e C (up I 53 0 a v) z) := (H0.sa hA (by decide) (Int.le_refl 0) (WR.s hR (by decide)) a0 (by show a < ((80 : Nat) : Int); exact a1) (by show 80 ≤ 2147483647; decide) rfl rfl).trans (congrArg (fun S => some (H0 e S z)) (mx_i rfl))
theorem a_54 (hA : WA e z) (hR : WR e) {a : Int} (a0 : 0 ≤ a) (a1 : a < 80) : xai (HS e C I z) (rf e 54 0) (xk a) = some (xk (I 54 0 a)) := by
  unfold xai HS
  rw [H0.at hA (by decide) (Int.le_refl 0) (WR.s hR (by decide)) a0 (by show a < ((80 : Nat) : Int); exact a1) (by show 80 ≤ 2147483647; decide)]
  rfl
theorem s_54 (hA : WA e z) (hR : WR e) {a v : Int} (a0 : 0 ≤ a) (a1 : a < 80) : xsi (HS e C I z) (rf e 54 0) (xk a) (xk v) = some (HS e C (up I 54 0 a v) z) := (H0.sa hA (by decide) (Int.le_refl 0) (WR.s hR (by decide)) a0 (by show a < ((80 : Nat) : Int); exact a1) (by show 80 ≤ 2147483647; decide) rfl rfl).trans (congrArg (fun S => some (H0 e S z)) (mx_i rfl))
theorem a_55 (hA : WA e z) (hR : WR e) {a : Int} (a0 : 0 ≤ a) (a1 : a < 80) : xai (HS e C I z) (rf e 55 0) (xk a) = some (xk (I 55 0 a)) := by
  unfold xai HS
  rw [H0.at hA (by decide) (Int.le_refl 0) (WR.s hR (by decide)) a0 (by show a < ((80 : Nat) : Int); exact a1) (by show 80 ≤ 2147483647; decide)]
  rfl
theorem s_55 (hA : WA e z) (hR : WR e) {a v : Int} (a0 : 0 ≤ a) (a1 : a < 80) : xsi (HS e C I z) (rf e 55 0) (xk a) (xk v) = some (HS e C (up I 55 0 a v) z) := (H0.sa hA (by decide) (Int.le_refl 0) (WR.s hR (by decide)) a0 (by show a < ((80 : Nat) : Int); exact a1) (by show 80 ≤ 2147483647; decide) rfl rfl).trans (congrArg (fun S => some (H0 e S z)) (mx_i rfl))
theorem a_59 (hA : WA e z) (hR : WR e) {a : Int} (a0 : 0 ≤ a) (a1 : a < 20) : xaz (HS e C I z) (rf e 59 0) (xk a) = some (xk (I 59 0 a)) := by
  unfold xaz HS
  rw [H0.at hA (by decide) (Int.le_refl 0) (WR.s hR (by decide)) a0 (by show a < ((20 : Nat) : Int); exact a1) (by show 20 ≤ 2147483647; decide)]
  rfl
theorem s_59 (hA : WA e z) (hR : WR e) {a v : Int} (a0 : 0 ≤ a) (a1 : a < 20) (hv : v = 0 ∨ v = 1) : xsz (HS e C I z) (rf e 59 0) (xk a) (xk v) = some (HS e C (up I 59 0 a v) z) := by
  unfold xsz
  rw [if_pos (by rcases hv with rfl | rfl; exact Or.inl xk_zero; exact Or.inr xk_one)]
  exact (H0.sa hA (by decide) (Int.le_refl 0) (WR.s hR (by decide)) a0 (by show a < ((20 : Nat) : Int); exact a1) (by show 20 ≤ 2147483647; decide) rfl rfl).trans (congrArg (fun S => some (H0 e S z)) (mx_i rfl))
theorem a_60 (hA : WA e z) (hR : WR e) {a : Int} (a0 : 0 ≤ a) (a1 : a < 80) : xai (HS e C I z) (rf e 60 0) (xk a) = some (xk (I 60 0 a)) := by
  unfold xai HS
  rw [H0.at hA (by decide) (Int.le_refl 0) (WR.s hR (by decide)) a0 (by show a < ((80 : Nat) : Int); exact a1) (by show 80 ≤ 2147483647; decide)]
  rfl
theorem s_60 (hA : WA e z) (hR : WR e) {a v : Int} (a0 : 0 ≤ a) (a1 : a < 80) : xsi (HS e C I z) (rf e 60 0) (xk a) (xk v) = some (HS e C (up I 60 0 a v) z) := (H0.sa hA (by decide) (Int.le_refl 0) (WR.s hR (by decide)) a0 (by show a < ((80 : Nat) : Int); exact a1) (by show 80 ≤ 2147483647; decide) rfl rfl).trans (congrArg (fun S => some (H0 e S z)) (mx_i rfl))
theorem a_61 (hA : WA e z) (hR : WR e) {a : Int} (a0 : 0 ≤ a) (a1 : a < 1) : xal (HS e C I z) (rf e 61 0) (xk a) = some (Int64.ofInt (I 61 0 a)) := by
  unfold xal HS
  rw [H0.at hA (by decide) (Int.le_refl 0) (WR.s hR (by decide)) a0 (by show a < ((1 : Nat) : Int); exact a1) (by show 1 ≤ 2147483647; decide)]
  rfl
theorem s_61 (hA : WA e z) (hR : WR e) {a v : Int} (a0 : 0 ≤ a) (a1 : a < 1) : xsl (HS e C I z) (rf e 61 0) (xk a) (Int64.ofInt v) = some (HS e C (up I 61 0 a v) z) := (H0.sa hA (by decide) (Int.le_refl 0) (WR.s hR (by decide)) a0 (by show a < ((1 : Nat) : Int); exact a1) (by show 1 ≤ 2147483647; decide) rfl rfl).trans (congrArg (fun S => some (H0 e S z)) (mx_i rfl))
theorem a_62 (hA : WA e z) (hL : e.2.2 ≤ 2560) {a : Int} (a0 : 0 ≤ a) (a1 : a < e.2.2) : xai (HS e C I z) (rf e 62 0) (xk a) = some (xk (I 62 0 a)) := by
  unfold xai HS
  rw [H0.at hA (by decide) (Int.le_refl 0) (WA.s hA rfl) a0 (by show a < (e.2.2 : Int); exact a1) (by show e.2.2 ≤ 2147483647; omega)]
  rfl
theorem a_63 (hA : WA e z) {a : Int} (a0 : 0 ≤ a) (a1 : a < 4) : xai (HS e C I z) (rf e 63 0) (xk a) = some (xk (I 63 0 a)) := by
  unfold xai HS
  rw [H0.at hA (by decide) (Int.le_refl 0) (WA.s hA rfl) a0 (by show a < ((4 : Nat) : Int); exact a1) (by show 4 ≤ 2147483647; decide)]
  rfl
theorem a_64 (hA : WA e z) {a : Int} (a0 : 0 ≤ a) (a1 : a < 4) : xai (HS e C I z) (rf e 64 0) (xk a) = some (xk (I 64 0 a)) := by
  unfold xai HS
  rw [H0.at hA (by decide) (Int.le_refl 0) (WA.s hA rfl) a0 (by show a < ((4 : Nat) : Int); exact a1) (by show 4 ≤ 2147483647; decide)]
  rfl
theorem s_15 (hA : WA e z) {i : Int} (h0 : 0 ≤ i) (h1 : i < e.2.1 15) {a v : Int} (a0 : 0 ≤ a) (a1 : a < 41) (hv : v < e.2.1 8) : xsr (HS e C I z) (rf e 15 i) (xk a) (rf e 8 v) = some (HS e (up C 15 i a v) I z) := by
  have hs : xas (HS e C I z) (rf e 15 i) 103 (xk a) (.inr (.inr (rf e 8 v))) = some (HS e (up C 15 i a v) I z) := (H0.sa hA (by decide) h0 h1 a0 (by show a < ((41 : Nat) : Int); exact a1) (by show 41 ≤ 2147483647; decide) rfl rfl).trans (congrArg (fun S => some (H0 e S z)) (mx_c rfl))
  rw [rf_v h0] at hs ⊢
  unfold xsr
  have ho : (HS e C I z).1 (e.1 15 i) = some (ob e (mx C I) 15 i) := hp_at hA ⟨by decide, h0, h1⟩
  have hk : (ob e (mx C I) 15 i).1 = 103 := rfl
  by_cases hn : v < 0
  · rw [rf_n hn] at hs ⊢
    simp only [ho, hk]
    exact hs
  · rw [rf_v (by omega)] at hs ⊢
    have ho2 : (HS e C I z).1 (e.1 8 v) = some (ob e (mx C I) 8 v) := hp_at hA ⟨by decide, by omega, hv⟩
    have hk2 : (ob e (mx C I) 8 v).1 = xof 103 := rfl
    simp only [ho, hk, ho2, hk2]
    exact hs
theorem s_17 (hA : WA e z) {i : Int} (h0 : 0 ≤ i) (h1 : i < e.2.1 17) {a v : Int} (a0 : 0 ≤ a) (a1 : a < 15) (hv : v < e.2.1 4) : xsr (HS e C I z) (rf e 17 i) (xk a) (rf e 4 v) = some (HS e (up C 17 i a v) I z) := by
  have hs : xas (HS e C I z) (rf e 17 i) 106 (xk a) (.inr (.inr (rf e 4 v))) = some (HS e (up C 17 i a v) I z) := (H0.sa hA (by decide) h0 h1 a0 (by show a < ((15 : Nat) : Int); exact a1) (by show 15 ≤ 2147483647; decide) rfl rfl).trans (congrArg (fun S => some (H0 e S z)) (mx_c rfl))
  rw [rf_v h0] at hs ⊢
  unfold xsr
  have ho : (HS e C I z).1 (e.1 17 i) = some (ob e (mx C I) 17 i) := hp_at hA ⟨by decide, h0, h1⟩
  have hk : (ob e (mx C I) 17 i).1 = 106 := rfl
  by_cases hn : v < 0
  · rw [rf_n hn] at hs ⊢
    simp only [ho, hk]
    exact hs
  · rw [rf_v (by omega)] at hs ⊢
    have ho2 : (HS e C I z).1 (e.1 4 v) = some (ob e (mx C I) 4 v) := hp_at hA ⟨by decide, by omega, hv⟩
    have hk2 : (ob e (mx C I) 4 v).1 = xof 106 := rfl
    simp only [ho, hk, ho2, hk2]
    exact hs
theorem pz_8_9 (hA : WA e z) {i : Int} (h0 : 0 ≤ i) (h1 : i < e.2.1 8) {v : Int} (hv : v = 0 ∨ v = 1) : xpz (HS e C I z) (rf e 8 i) 8 9 (xk v) = some (HS e (up C 8 i 9 v) I z) := by
  unfold xpz
  rw [if_pos (by rcases hv with rfl | rfl; exact Or.inl xk_zero; exact Or.inr xk_one)]
  exact p_8_9 hA h0 h1
end AC
end
section
/-! numbers as simp takes them; runs -/
def rI (r : Int) (σ : XH) : XV × XH := (.inl (some (.inl (xk r))), σ)
def rL (r : Int) (σ : XH) : XV × XH := (.inl (some (.inr (.inl (Int64.ofInt r)))), σ)
def rR (o : Option Nat) (σ : XH) : XV × XH := (.inl (some (.inr (.inr o))), σ)
def rV (σ : XH) : XV × XH := (.inl none, σ)
def bI (p : Prop) [Decidable p] : Int := if p then 1 else 0
def i64 (a : Int) : Prop := -9223372036854775808 ≤ a ∧ a < 9223372036854775808
theorem lk_toInt {a : Int} (h : i64 a) : (Int64.ofInt a).toInt = a := Int64.toInt_ofInt_of_le (by have := h.1; omega) (by have := h.2; omega)
theorem zk_eq {a b : Int} (a0 : -2147483648 ≤ a) (a1 : a < 2147483648) (b0 : -2147483648 ≤ b) (b1 : b < 2147483648) : (xk a = xk b) = (a = b) := propext (xk_inj ⟨a0, a1⟩ ⟨b0, b1⟩)
theorem zk_lt {a b : Int} (a0 : -2147483648 ≤ a) (a1 : a < 2147483648) (b0 : -2147483648 ≤ b) (b1 : b < 2147483648) : (xk a < xk b) = (a < b) := propext (xk_lt ⟨a0, a1⟩ ⟨b0, b1⟩)
theorem zk_eq0 {a : Int} (a0 : -2147483648 ≤ a) (a1 : a < 2147483648) : (xk a = 0) = (a = 0) := propext (xk_eq0 ⟨a0, a1⟩)
theorem zk_eq1 {a : Int} (a0 : -2147483648 ≤ a) (a1 : a < 2147483648) : (xk a = 1) = (a = 1) := by
  rw [← xk_one]
  exact zk_eq a0 a1 (by decide) (by decide)
theorem zk_lt0 {a : Int} (a0 : -2147483648 ≤ a) (a1 : a < 2147483648) : (xk a < 0) = (a < 0) := propext (xk_lt0 ⟨a0, a1⟩)
theorem zk_0lt {a : Int} (a0 : -2147483648 ≤ a) (a1 : a < 2147483648) : (0 < xk a) = (0 < a) := propext (xk_0lt ⟨a0, a1⟩)
theorem zk_long {a : Int} (a0 : -2147483648 ≤ a) (a1 : a < 2147483648) : (xk a).toInt64 = Int64.ofInt a := by
  apply Int64.toInt_inj.mp
  rw [lk_toInt ⟨by omega, by omega⟩, Int32.toInt_toInt64, xk_toInt ⟨a0, a1⟩]
theorem lN_z (n : Nat) : lN n = Int64.ofInt n := rfl
theorem lk_add (a b : Int) : Int64.ofInt a + Int64.ofInt b = Int64.ofInt (a + b) := (Int64.ofInt_add a b).symm
theorem lz_lt {a b : Int} (a0 : -9223372036854775808 ≤ a) (a1 : a < 9223372036854775808) (b0 : -9223372036854775808 ≤ b) (b1 : b < 9223372036854775808) : (lg_cmp (Int64.ofInt a) (Int64.ofInt b) < 0) = (a < b) := by
  apply propext
  have h := lg_cmp_ge (Int64.ofInt a) (Int64.ofInt b)
  rw [Int64.le_iff_toInt_le, lk_toInt ⟨a0, a1⟩, lk_toInt ⟨b0, b1⟩] at h
  constructor
  · intro q
    by_cases hz : b ≤ a
    · exact absurd q (k2_nlt (h.mpr hz))
    · omega
  · intro q
    exact k2_lt (fun z => by have := h.mp z; omega)
theorem lz_gt {a b : Int} (a0 : -9223372036854775808 ≤ a) (a1 : a < 9223372036854775808) (b0 : -9223372036854775808 ≤ b) (b1 : b < 9223372036854775808) : (0 < lg_cmp (Int64.ofInt a) (Int64.ofInt b)) = (b < a) := by
  apply propext
  have h := lg_cmp_le (Int64.ofInt a) (Int64.ofInt b)
  rw [Int64.le_iff_toInt_le, lk_toInt ⟨a0, a1⟩, lk_toInt ⟨b0, b1⟩] at h
  constructor
  · intro q
    by_cases hz : a ≤ b
    · exact absurd q (k2_nlt (h.mpr hz))
    · omega
  · intro q
    exact k2_lt (fun z => by have := h.mp z; omega)
theorem zmax {a b : Int} (a0 : -9223372036854775808 ≤ a) (a1 : a < 9223372036854775808) (b0 : -9223372036854775808 ≤ b) (b1 : b < 9223372036854775808) : xmax (Int64.ofInt a) (Int64.ofInt b) = Int64.ofInt (max a b) := by
  unfold xmax
  have h : (Int64.ofInt b < Int64.ofInt a) ↔ b < a := by rw [Int64.lt_iff_toInt_lt, lk_toInt ⟨a0, a1⟩, lk_toInt ⟨b0, b1⟩]
  by_cases hb : b < a
  · rw [if_pos (h.mpr hb), show max a b = a by omega]
  · rw [if_neg (fun q => hb (h.mp q)), show max a b = b by omega]
theorem zmin {a b : Int} (a0 : -2147483648 ≤ a) (a1 : a < 2147483648) (b0 : -2147483648 ≤ b) (b1 : b < 2147483648) : xmin (xk a) (xk b) = xk (min a b) := by
  unfold xmin
  simp only [zk_lt b0 b1 a0 a1]
  by_cases hb : b < a
  · rw [if_pos hb, show min a b = b by omega]
  · rw [if_neg hb, show min a b = a by omega]
theorem xk_m1 : xk (-1) = (-1 : Int32) := rfl
theorem zdiv {a b : Int} (a0 : 0 ≤ a) (a1 : a < 2147483648) (b0 : 0 < b) (b1 : b < 2147483648) : xk a / xk b = xk (a / b) := by
  have hq : a / b ≤ a := Int.ediv_le_self b a0
  have hp : 0 ≤ a / b := Int.ediv_nonneg a0 (by omega)
  apply Int32.toInt_inj.mp
  rw [xk_toInt ⟨by omega, by omega⟩, Int32.toInt_div_of_ne_right _ _ (fun z => by
    have := (xk_inj (a := b) (b := -1) ⟨by omega, by omega⟩ ⟨by decide, by decide⟩).mp (z.trans xk_m1.symm)
    omega), xk_toInt ⟨by omega, by omega⟩, xk_toInt ⟨by omega, by omega⟩, Int.tdiv_eq_ediv_of_nonneg a0]
theorem rb1 {A B : XR} : (if xk 1 = 0 ∨ xk 1 = 1 then A else B) = A := if_pos (Or.inr xk_one)
theorem rb0 {A B : XR} : (if xk 0 = 0 ∨ xk 0 = 1 then A else B) = A := if_pos (Or.inl xk_zero)
theorem rbp {p : Prop} [Decidable p] {A B : XR} : (if xk (bI p) = 0 ∨ xk (bI p) = 1 then A else B) = A := by
  by_cases h : p
  · rw [bI, if_pos h, rb1]
  · rw [bI, if_neg h, rb0]
theorem i32_m : (1000000 : Int32) = xk 1000000 := rfl
theorem ll_n1 : (-1 : Int64) = Int64.ofInt (-1) := rfl
theorem ll_n10 : (-10 : Int64) = Int64.ofInt (-10) := rfl
theorem ll_10 : (10 : Int64) = Int64.ofInt (10) := rfl
theorem ll_1000 : (1000 : Int64) = Int64.ofInt (1000) := rfl
theorem ll_10000 : (10000 : Int64) = Int64.ofInt (10000) := rfl
theorem ll_1000000 : (1000000 : Int64) = Int64.ofInt (1000000) := rfl
theorem ll_150 : (150 : Int64) = Int64.ofInt (150) := rfl
theorem ll_20 : (20 : Int64) = Int64.ofInt (20) := rfl
theorem ll_200 : (200 : Int64) = Int64.ofInt (200) := rfl
theorem ll_3 : (3 : Int64) = Int64.ofInt (3) := rfl
theorem ll_4 : (4 : Int64) = Int64.ofInt (4) := rfl
theorem ll_40 : (40 : Int64) = Int64.ofInt (40) := rfl
theorem ll_7 : (7 : Int64) = Int64.ofInt (7) := rfl
theorem ll_79 : (79 : Int64) = Int64.ofInt (79) := rfl
theorem ll_8 : (8 : Int64) = Int64.ofInt (8) := rfl
theorem ll_9 : (9 : Int64) = Int64.ofInt (9) := rfl
theorem Ev.ite {p : Prop} [Decidable p] {a b : Nat → XR} {r : XV × XH} (h1 : p → Ev a r) (h2 : ¬ p → Ev b r) : Ev (fun F => if p then a F else b F) r := by
  by_cases h : p
  · simp only [if_pos h]; exact h1 h
  · simp only [if_neg h]; exact h2 h
theorem Ev.ret {r r' : XV × XH} (h : r = r') : Ev (fun _ => some r) r' := ⟨0, fun _ _ => by rw [h]⟩
theorem Ev.cast {f : Nat → XR} {r r' : XV × XH} (h : Ev f r) (e : r = r') : Ev f r' := e ▸ h
theorem Ev.kI {c : Nat → XR} {k : Nat → Int32 → XH → XR} {x : Int} {σ : XH} {r : XV × XH} (hc : Ev c (rI x σ)) (hk : Ev (fun F => k F (xk x) σ) r) : Ev (fun F => xci (c F) (k F)) r := Ev.ci hc (fun _ => rfl) hk
theorem Ev.kL {c : Nat → XR} {k : Nat → Int64 → XH → XR} {x : Int} {σ : XH} {r : XV × XH} (hc : Ev c (rL x σ)) (hk : Ev (fun F => k F (Int64.ofInt x) σ) r) : Ev (fun F => xcl (c F) (k F)) r := Ev.cl hc (fun _ => rfl) hk
theorem Ev.kR {c : Nat → XR} {k : Nat → Option Nat → XH → XR} {x : Option Nat} {σ : XH} {r : XV × XH} (hc : Ev c (rR x σ)) (hk : Ev (fun F => k F x σ) r) : Ev (fun F => xcr (c F) (k F)) r := Ev.cr hc (fun _ => rfl) hk
theorem Ev.kV {c : Nat → XR} {k : Nat → XH → XR} {σ : XH} {r : XV × XH} (hc : Ev c (rV σ)) (hk : Ev (fun F => k F σ) r) : Ev (fun F => xcv (c F) (k F)) r := Ev.cv hc (fun _ => rfl) hk
theorem Ev.kB {c : Nat → XR} {k : Nat → Int32 → XH → XR} {p : Prop} [Decidable p] {σ : XH} {r : XV × XH} (hc : Ev c (rI (bI p) σ)) (h1 : p → Ev (fun F => k F (xk 1) σ) r) (h2 : ¬ p → Ev (fun F => k F (xk 0) σ) r) : Ev (fun F => xci (c F) (k F)) r := by
  by_cases h : p
  · rw [bI, if_pos h] at hc
    exact Ev.kI hc (h1 h)
  · rw [bI, if_neg h] at hc
    exact Ev.kI hc (h2 h)
theorem bI_t {p : Prop} [Decidable p] (h : p) : bI p = 1 := if_pos h
theorem bI_f {p : Prop} [Decidable p] (h : ¬ p) : bI p = 0 := if_neg h
/-! up -/
theorem up_s {S : ST} {k : Nat} {i j v : Int} : up S k i j v k i j = v := by simp [up]
theorem up_k {S : ST} {k k' : Nat} {i j v i' j' : Int} (h : k' ≠ k) : up S k i j v k' i' j' = S k' i' j' := by simp [up, h]
theorem up_i {S : ST} {k k' : Nat} {i j v i' j' : Int} (h : i' ≠ i) : up S k i j v k' i' j' = S k' i' j' := by simp [up, h]
theorem up_j {S : ST} {k k' : Nat} {i j v i' j' : Int} (h : j' ≠ j) : up S k i j v k' i' j' = S k' i' j' := by simp [up, h]
end
section
/-! the reference's arrays are in bounds (printed) -/
def rbt : List (Nat × Int × Int × Int) := [(22, 0, 2, 150), (23, -1, 149, 150), (24, 0, 19, 150), (25, 0, 19, 150), (26, 0, 9, 150), (27, 0, 1000000, 150), (28, -10, 10, 150), (29, 0, 1, 150), (32, 0, 40, 3000), (34, -1, 19, 20), (35, 0, 149, 20), (36, 0, 40, 20), (38, -1, 19, 20), (39, 0, 150, 20), (40, 0, 1000000, 20), (41, 0, 1000, 20), (42, 0, 20, 20), (43, 0, 1000000, 20), (49, 0, 79, 10), (50, 0, 1, 80), (51, 0, 9, 80), (52, -1, 79, 80), (53, 0, 14, 80), (54, 0, 9, 80), (59, 0, 1, 20), (60, -1, 79, 80)]
def RB (I : ST) : Prop := (∀ r ∈ rbt, ∀ j, 0 ≤ j → j < r.2.2.2 → r.2.1 ≤ I r.1 0 j ∧ I r.1 0 j ≤ r.2.2.1) ∧ (∀ g, 0 ≤ g → g < 20 → I 34 0 g < g ∧ I 38 0 g < g) ∧ (1 ≤ I 12 0 1 ∧ I 12 0 1 ≤ 150) ∧ (1 ≤ I 12 0 13 ∧ I 12 0 13 ≤ 20) ∧ (1 ≤ I 12 0 17 ∧ I 12 0 17 ≤ 20) ∧ (1 ≤ I 12 0 28 ∧ I 12 0 28 ≤ 10)
section RBs
variable {I : ST}
theorem RB.tasks (hB : RB I) : 1 ≤ I 12 0 1 ∧ I 12 0 1 ≤ 150 := hB.2.2.1
theorem RB.spaces (hB : RB I) : 1 ≤ I 12 0 13 ∧ I 12 0 13 ≤ 20 := hB.2.2.2.1
theorem RB.groups (hB : RB I) : 1 ≤ I 12 0 17 ∧ I 12 0 17 ≤ 20 := hB.2.2.2.2.1
theorem RB.views (hB : RB I) : 1 ≤ I 12 0 28 ∧ I 12 0 28 ≤ 10 := hB.2.2.2.2.2
theorem RB.state (hB : RB I) {j : Int} (h0 : 0 ≤ j) (h1 : j < 150) : 0 ≤ I 22 0 j ∧ I 22 0 j ≤ 2 := hB.1 (22, 0, 2, 150) (by decide) j h0 h1
theorem RB.parent (hB : RB I) {j : Int} (h0 : 0 ≤ j) (h1 : j < 150) : -1 ≤ I 23 0 j ∧ I 23 0 j ≤ 149 := hB.1 (23, -1, 149, 150) (by decide) j h0 h1
theorem RB.space (hB : RB I) {j : Int} (h0 : 0 ≤ j) (h1 : j < 150) : 0 ≤ I 24 0 j ∧ I 24 0 j ≤ 19 := hB.1 (24, 0, 19, 150) (by decide) j h0 h1
theorem RB.group (hB : RB I) {j : Int} (h0 : 0 ≤ j) (h1 : j < 150) : 0 ≤ I 25 0 j ∧ I 25 0 j ≤ 19 := hB.1 (25, 0, 19, 150) (by decide) j h0 h1
theorem RB.view (hB : RB I) {j : Int} (h0 : 0 ≤ j) (h1 : j < 150) : 0 ≤ I 26 0 j ∧ I 26 0 j ≤ 9 := hB.1 (26, 0, 9, 150) (by decide) j h0 h1
theorem RB.pages (hB : RB I) {j : Int} (h0 : 0 ≤ j) (h1 : j < 150) : 0 ≤ I 27 0 j ∧ I 27 0 j ≤ 1000000 := hB.1 (27, 0, 1000000, 150) (by decide) j h0 h1
theorem RB.badness (hB : RB I) {j : Int} (h0 : 0 ≤ j) (h1 : j < 150) : -10 ≤ I 28 0 j ∧ I 28 0 j ≤ 10 := hB.1 (28, -10, 10, 150) (by decide) j h0 h1
theorem RB.asleep (hB : RB I) {j : Int} (h0 : 0 ≤ j) (h1 : j < 150) : 0 ≤ I 29 0 j ∧ I 29 0 j ≤ 1 := hB.1 (29, 0, 1, 150) (by decide) j h0 h1
theorem RB.numbers (hB : RB I) {j : Int} (h0 : 0 ≤ j) (h1 : j < 3000) : 0 ≤ I 32 0 j ∧ I 32 0 j ≤ 40 := hB.1 (32, 0, 40, 3000) (by decide) j h0 h1
theorem RB.around (hB : RB I) {j : Int} (h0 : 0 ≤ j) (h1 : j < 20) : -1 ≤ I 34 0 j ∧ I 34 0 j ≤ 19 := hB.1 (34, -1, 19, 20) (by decide) j h0 h1
theorem RB.init (hB : RB I) {j : Int} (h0 : 0 ≤ j) (h1 : j < 20) : 0 ≤ I 35 0 j ∧ I 35 0 j ≤ 149 := hB.1 (35, 0, 149, 20) (by decide) j h0 h1
theorem RB.given (hB : RB I) {j : Int} (h0 : 0 ≤ j) (h1 : j < 20) : 0 ≤ I 36 0 j ∧ I 36 0 j ≤ 40 := hB.1 (36, 0, 40, 20) (by decide) j h0 h1
theorem RB.within (hB : RB I) {j : Int} (h0 : 0 ≤ j) (h1 : j < 20) : -1 ≤ I 38 0 j ∧ I 38 0 j ≤ 19 := hB.1 (38, -1, 19, 20) (by decide) j h0 h1
theorem RB.most (hB : RB I) {j : Int} (h0 : 0 ≤ j) (h1 : j < 20) : 0 ≤ I 39 0 j ∧ I 39 0 j ≤ 150 := hB.1 (39, 0, 150, 20) (by decide) j h0 h1
theorem RB.max (hB : RB I) {j : Int} (h0 : 0 ≤ j) (h1 : j < 20) : 0 ≤ I 40 0 j ∧ I 40 0 j ≤ 1000000 := hB.1 (40, 0, 1000000, 20) (by decide) j h0 h1
theorem RB.weight (hB : RB I) {j : Int} (h0 : 0 ≤ j) (h1 : j < 20) : 0 ≤ I 41 0 j ∧ I 41 0 j ≤ 1000 := hB.1 (41, 0, 1000, 20) (by decide) j h0 h1
theorem RB.quota (hB : RB I) {j : Int} (h0 : 0 ≤ j) (h1 : j < 20) : 0 ≤ I 42 0 j ∧ I 42 0 j ≤ 20 := hB.1 (42, 0, 20, 20) (by decide) j h0 h1
theorem RB.cached (hB : RB I) {j : Int} (h0 : 0 ≤ j) (h1 : j < 20) : 0 ≤ I 43 0 j ∧ I 43 0 j ≤ 1000000 := hB.1 (43, 0, 1000000, 20) (by decide) j h0 h1
theorem RB.root (hB : RB I) {j : Int} (h0 : 0 ≤ j) (h1 : j < 10) : 0 ≤ I 49 0 j ∧ I 49 0 j ≤ 79 := hB.1 (49, 0, 79, 10) (by decide) j h0 h1
theorem RB.there (hB : RB I) {j : Int} (h0 : 0 ≤ j) (h1 : j < 80) : 0 ≤ I 50 0 j ∧ I 50 0 j ≤ 1 := hB.1 (50, 0, 1, 80) (by decide) j h0 h1
theorem RB.viewOf (hB : RB I) {j : Int} (h0 : 0 ≤ j) (h1 : j < 80) : 0 ≤ I 51 0 j ∧ I 51 0 j ≤ 9 := hB.1 (51, 0, 9, 80) (by decide) j h0 h1
theorem RB.inMount (hB : RB I) {j : Int} (h0 : 0 ≤ j) (h1 : j < 80) : -1 ≤ I 52 0 j ∧ I 52 0 j ≤ 79 := hB.1 (52, -1, 79, 80) (by decide) j h0 h1
theorem RB.inPlace (hB : RB I) {j : Int} (h0 : 0 ≤ j) (h1 : j < 80) : 0 ≤ I 53 0 j ∧ I 53 0 j ≤ 14 := hB.1 (53, 0, 14, 80) (by decide) j h0 h1
theorem RB.volumes (hB : RB I) {j : Int} (h0 : 0 ≤ j) (h1 : j < 80) : 0 ≤ I 54 0 j ∧ I 54 0 j ≤ 9 := hB.1 (54, 0, 9, 80) (by decide) j h0 h1
theorem RB.has (hB : RB I) {j : Int} (h0 : 0 ≤ j) (h1 : j < 20) : 0 ≤ I 59 0 j ∧ I 59 0 j ≤ 1 := hB.1 (59, 0, 1, 20) (by decide) j h0 h1
theorem RB.copies (hB : RB I) {j : Int} (h0 : 0 ≤ j) (h1 : j < 80) : -1 ≤ I 60 0 j ∧ I 60 0 j ≤ 79 := hB.1 (60, -1, 79, 80) (by decide) j h0 h1
theorem RB.arw (hB : RB I) {j : Int} (h0 : 0 ≤ j) (h1 : j < 20) : I 34 0 j < j := (hB.2.1 j h0 h1).1
theorem RB.wiw (hB : RB I) {j : Int} (h0 : 0 ≤ j) (h1 : j < 20) : I 38 0 j < j := (hB.2.1 j h0 h1).2
theorem RB.uG (hB : RB I) {k : Nat} {i j v : Int} (hv : ∀ r ∈ rbt, r.1 = k → r.2.1 ≤ v ∧ v ≤ r.2.2.1) (hw : k = 34 ∨ k = 38 → v < j) (hs : k ≠ 12) : RB (up I k i j v) := by
  obtain ⟨h1, h2, h3, h4, h5, h6⟩ := hB
  refine ⟨fun r hr a a0 a1 => ?_, fun g g0 g1 => ?_, ?_, ?_, ?_, ?_⟩
  · unfold up
    by_cases h : r.1 = k ∧ (0 : Int) = i ∧ a = j
    · rw [if_pos h]; exact hv r hr h.1
    · rw [if_neg h]; exact h1 r hr a a0 a1
  · unfold up
    refine ⟨?_, ?_⟩
    · by_cases h : 34 = k ∧ (0 : Int) = i ∧ g = j
      · rw [if_pos h]; have := hw (Or.inl h.1.symm); omega
      · rw [if_neg h]; exact (h2 g g0 g1).1
    · by_cases h : 38 = k ∧ (0 : Int) = i ∧ g = j
      · rw [if_pos h]; have := hw (Or.inr h.1.symm); omega
      · rw [if_neg h]; exact (h2 g g0 g1).2
  all_goals
    rw [up_k (Ne.symm hs)]
    assumption
theorem RB.uS (hB : RB I) {i j v : Int} (h1 : j = 1 → 1 ≤ v ∧ v ≤ 150) (h2 : j = 13 → 1 ≤ v ∧ v ≤ 20) (h3 : j = 17 → 1 ≤ v ∧ v ≤ 20) (h4 : j = 28 → 1 ≤ v ∧ v ≤ 10) : RB (up I 12 i j v) := by
  obtain ⟨g1, g2, g3, g4, g5, g6⟩ := hB
  refine ⟨fun r hr a a0 a1 => ?_, fun g g0 g1 => ?_, ?_, ?_, ?_, ?_⟩
  · have : r.1 ≠ 12 := by
      intro h
      have hh : ∀ r ∈ rbt, r.1 ≠ 12 := by decide
      exact hh r hr h
    rw [up_k this]; exact g1 r hr a a0 a1
  · rw [up_k (by decide), up_k (by decide)]; exact g2 g g0 (by assumption)
  · unfold up
    by_cases h : 12 = 12 ∧ (0 : Int) = i ∧ 1 = j
    · rw [if_pos h]; exact h1 h.2.2.symm
    · rw [if_neg h]; exact g3
  · unfold up
    by_cases h : 12 = 12 ∧ (0 : Int) = i ∧ 13 = j
    · rw [if_pos h]; exact h2 h.2.2.symm
    · rw [if_neg h]; exact g4
  · unfold up
    by_cases h : 12 = 12 ∧ (0 : Int) = i ∧ 17 = j
    · rw [if_pos h]; exact h3 h.2.2.symm
    · rw [if_neg h]; exact g5
  · unfold up
    by_cases h : 12 = 12 ∧ (0 : Int) = i ∧ 28 = j
    · rw [if_pos h]; exact h4 h.2.2.symm
    · rw [if_neg h]; exact g6
theorem RB.u_state (hB : RB I) {i j v : Int} (h0 : 0 ≤ v) (h1 : v ≤ 2) : RB (up I 22 i j v) := hB.uG (by
  intro r hr h
  have hh : ∀ r ∈ rbt, r.1 = 22 → r.2.1 = 0 ∧ r.2.2.1 = 2 := by decide
  have := hh r hr h
  omega) (by omega) (by decide)
theorem RB.u_parent (hB : RB I) {i j v : Int} (h0 : -1 ≤ v) (h1 : v ≤ 149) : RB (up I 23 i j v) := hB.uG (by
  intro r hr h
  have hh : ∀ r ∈ rbt, r.1 = 23 → r.2.1 = -1 ∧ r.2.2.1 = 149 := by decide
  have := hh r hr h
  omega) (by omega) (by decide)
theorem RB.u_space (hB : RB I) {i j v : Int} (h0 : 0 ≤ v) (h1 : v ≤ 19) : RB (up I 24 i j v) := hB.uG (by
  intro r hr h
  have hh : ∀ r ∈ rbt, r.1 = 24 → r.2.1 = 0 ∧ r.2.2.1 = 19 := by decide
  have := hh r hr h
  omega) (by omega) (by decide)
theorem RB.u_group (hB : RB I) {i j v : Int} (h0 : 0 ≤ v) (h1 : v ≤ 19) : RB (up I 25 i j v) := hB.uG (by
  intro r hr h
  have hh : ∀ r ∈ rbt, r.1 = 25 → r.2.1 = 0 ∧ r.2.2.1 = 19 := by decide
  have := hh r hr h
  omega) (by omega) (by decide)
theorem RB.u_view (hB : RB I) {i j v : Int} (h0 : 0 ≤ v) (h1 : v ≤ 9) : RB (up I 26 i j v) := hB.uG (by
  intro r hr h
  have hh : ∀ r ∈ rbt, r.1 = 26 → r.2.1 = 0 ∧ r.2.2.1 = 9 := by decide
  have := hh r hr h
  omega) (by omega) (by decide)
theorem RB.u_pages (hB : RB I) {i j v : Int} (h0 : 0 ≤ v) (h1 : v ≤ 1000000) : RB (up I 27 i j v) := hB.uG (by
  intro r hr h
  have hh : ∀ r ∈ rbt, r.1 = 27 → r.2.1 = 0 ∧ r.2.2.1 = 1000000 := by decide
  have := hh r hr h
  omega) (by omega) (by decide)
theorem RB.u_badness (hB : RB I) {i j v : Int} (h0 : -10 ≤ v) (h1 : v ≤ 10) : RB (up I 28 i j v) := hB.uG (by
  intro r hr h
  have hh : ∀ r ∈ rbt, r.1 = 28 → r.2.1 = -10 ∧ r.2.2.1 = 10 := by decide
  have := hh r hr h
  omega) (by omega) (by decide)
theorem RB.u_asleep (hB : RB I) {i j v : Int} (h0 : 0 ≤ v) (h1 : v ≤ 1) : RB (up I 29 i j v) := hB.uG (by
  intro r hr h
  have hh : ∀ r ∈ rbt, r.1 = 29 → r.2.1 = 0 ∧ r.2.2.1 = 1 := by decide
  have := hh r hr h
  omega) (by omega) (by decide)
theorem RB.u_time (hB : RB I) {i j v : Int} : RB (up I 30 i j v) := hB.uG (by
  intro r hr h
  have hh : ∀ r ∈ rbt, r.1 ≠ 30 := by decide
  exact absurd h (hh r hr)) (by omega) (by decide)
theorem RB.u_ran (hB : RB I) {i j v : Int} : RB (up I 31 i j v) := hB.uG (by
  intro r hr h
  have hh : ∀ r ∈ rbt, r.1 ≠ 31 := by decide
  exact absurd h (hh r hr)) (by omega) (by decide)
theorem RB.u_numbers (hB : RB I) {i j v : Int} (h0 : 0 ≤ v) (h1 : v ≤ 40) : RB (up I 32 i j v) := hB.uG (by
  intro r hr h
  have hh : ∀ r ∈ rbt, r.1 = 32 → r.2.1 = 0 ∧ r.2.2.1 = 40 := by decide
  have := hh r hr h
  omega) (by omega) (by decide)
theorem RB.u_around (hB : RB I) {i j v : Int} (h0 : -1 ≤ v) (h1 : v ≤ 19) (hw : v < j) : RB (up I 34 i j v) := hB.uG (by
  intro r hr h
  have hh : ∀ r ∈ rbt, r.1 = 34 → r.2.1 = -1 ∧ r.2.2.1 = 19 := by decide
  have := hh r hr h
  omega) (by intro; exact hw) (by decide)
theorem RB.u_init (hB : RB I) {i j v : Int} (h0 : 0 ≤ v) (h1 : v ≤ 149) : RB (up I 35 i j v) := hB.uG (by
  intro r hr h
  have hh : ∀ r ∈ rbt, r.1 = 35 → r.2.1 = 0 ∧ r.2.2.1 = 149 := by decide
  have := hh r hr h
  omega) (by omega) (by decide)
theorem RB.u_given (hB : RB I) {i j v : Int} (h0 : 0 ≤ v) (h1 : v ≤ 40) : RB (up I 36 i j v) := hB.uG (by
  intro r hr h
  have hh : ∀ r ∈ rbt, r.1 = 36 → r.2.1 = 0 ∧ r.2.2.1 = 40 := by decide
  have := hh r hr h
  omega) (by omega) (by decide)
theorem RB.u_within (hB : RB I) {i j v : Int} (h0 : -1 ≤ v) (h1 : v ≤ 19) (hw : v < j) : RB (up I 38 i j v) := hB.uG (by
  intro r hr h
  have hh : ∀ r ∈ rbt, r.1 = 38 → r.2.1 = -1 ∧ r.2.2.1 = 19 := by decide
  have := hh r hr h
  omega) (by intro; exact hw) (by decide)
theorem RB.u_most (hB : RB I) {i j v : Int} (h0 : 0 ≤ v) (h1 : v ≤ 150) : RB (up I 39 i j v) := hB.uG (by
  intro r hr h
  have hh : ∀ r ∈ rbt, r.1 = 39 → r.2.1 = 0 ∧ r.2.2.1 = 150 := by decide
  have := hh r hr h
  omega) (by omega) (by decide)
theorem RB.u_max (hB : RB I) {i j v : Int} (h0 : 0 ≤ v) (h1 : v ≤ 1000000) : RB (up I 40 i j v) := hB.uG (by
  intro r hr h
  have hh : ∀ r ∈ rbt, r.1 = 40 → r.2.1 = 0 ∧ r.2.2.1 = 1000000 := by decide
  have := hh r hr h
  omega) (by omega) (by decide)
theorem RB.u_weight (hB : RB I) {i j v : Int} (h0 : 0 ≤ v) (h1 : v ≤ 1000) : RB (up I 41 i j v) := hB.uG (by
  intro r hr h
  have hh : ∀ r ∈ rbt, r.1 = 41 → r.2.1 = 0 ∧ r.2.2.1 = 1000 := by decide
  have := hh r hr h
  omega) (by omega) (by decide)
theorem RB.u_quota (hB : RB I) {i j v : Int} (h0 : 0 ≤ v) (h1 : v ≤ 20) : RB (up I 42 i j v) := hB.uG (by
  intro r hr h
  have hh : ∀ r ∈ rbt, r.1 = 42 → r.2.1 = 0 ∧ r.2.2.1 = 20 := by decide
  have := hh r hr h
  omega) (by omega) (by decide)
theorem RB.u_cached (hB : RB I) {i j v : Int} (h0 : 0 ≤ v) (h1 : v ≤ 1000000) : RB (up I 43 i j v) := hB.uG (by
  intro r hr h
  have hh : ∀ r ∈ rbt, r.1 = 43 → r.2.1 = 0 ∧ r.2.2.1 = 1000000 := by decide
  have := hh r hr h
  omega) (by omega) (by decide)
theorem RB.u_ranNow (hB : RB I) {i j v : Int} : RB (up I 44 i j v) := hB.uG (by
  intro r hr h
  have hh : ∀ r ∈ rbt, r.1 ≠ 44 := by decide
  exact absurd h (hh r hr)) (by omega) (by decide)
theorem RB.u_groupTime (hB : RB I) {i j v : Int} : RB (up I 45 i j v) := hB.uG (by
  intro r hr h
  have hh : ∀ r ∈ rbt, r.1 ≠ 45 := by decide
  exact absurd h (hh r hr)) (by omega) (by decide)
theorem RB.u_root (hB : RB I) {i j v : Int} (h0 : 0 ≤ v) (h1 : v ≤ 79) : RB (up I 49 i j v) := hB.uG (by
  intro r hr h
  have hh : ∀ r ∈ rbt, r.1 = 49 → r.2.1 = 0 ∧ r.2.2.1 = 79 := by decide
  have := hh r hr h
  omega) (by omega) (by decide)
theorem RB.u_there (hB : RB I) {i j v : Int} (h0 : 0 ≤ v) (h1 : v ≤ 1) : RB (up I 50 i j v) := hB.uG (by
  intro r hr h
  have hh : ∀ r ∈ rbt, r.1 = 50 → r.2.1 = 0 ∧ r.2.2.1 = 1 := by decide
  have := hh r hr h
  omega) (by omega) (by decide)
theorem RB.u_viewOf (hB : RB I) {i j v : Int} (h0 : 0 ≤ v) (h1 : v ≤ 9) : RB (up I 51 i j v) := hB.uG (by
  intro r hr h
  have hh : ∀ r ∈ rbt, r.1 = 51 → r.2.1 = 0 ∧ r.2.2.1 = 9 := by decide
  have := hh r hr h
  omega) (by omega) (by decide)
theorem RB.u_inMount (hB : RB I) {i j v : Int} (h0 : -1 ≤ v) (h1 : v ≤ 79) : RB (up I 52 i j v) := hB.uG (by
  intro r hr h
  have hh : ∀ r ∈ rbt, r.1 = 52 → r.2.1 = -1 ∧ r.2.2.1 = 79 := by decide
  have := hh r hr h
  omega) (by omega) (by decide)
theorem RB.u_inPlace (hB : RB I) {i j v : Int} (h0 : 0 ≤ v) (h1 : v ≤ 14) : RB (up I 53 i j v) := hB.uG (by
  intro r hr h
  have hh : ∀ r ∈ rbt, r.1 = 53 → r.2.1 = 0 ∧ r.2.2.1 = 14 := by decide
  have := hh r hr h
  omega) (by omega) (by decide)
theorem RB.u_volumes (hB : RB I) {i j v : Int} (h0 : 0 ≤ v) (h1 : v ≤ 9) : RB (up I 54 i j v) := hB.uG (by
  intro r hr h
  have hh : ∀ r ∈ rbt, r.1 = 54 → r.2.1 = 0 ∧ r.2.2.1 = 9 := by decide
  have := hh r hr h
  omega) (by omega) (by decide)
theorem RB.u_peers (hB : RB I) {i j v : Int} : RB (up I 55 i j v) := hB.uG (by
  intro r hr h
  have hh : ∀ r ∈ rbt, r.1 ≠ 55 := by decide
  exact absurd h (hh r hr)) (by omega) (by decide)
theorem RB.u_has (hB : RB I) {i j v : Int} (h0 : 0 ≤ v) (h1 : v ≤ 1) : RB (up I 59 i j v) := hB.uG (by
  intro r hr h
  have hh : ∀ r ∈ rbt, r.1 = 59 → r.2.1 = 0 ∧ r.2.2.1 = 1 := by decide
  have := hh r hr h
  omega) (by omega) (by decide)
theorem RB.u_copies (hB : RB I) {i j v : Int} (h0 : -1 ≤ v) (h1 : v ≤ 79) : RB (up I 60 i j v) := hB.uG (by
  intro r hr h
  have hh : ∀ r ∈ rbt, r.1 = 60 → r.2.1 = -1 ∧ r.2.2.1 = 79 := by decide
  have := hh r hr h
  omega) (by omega) (by decide)
end RBs
end
section
/-! the reference's small methods -/
section RA
variable {e : EN} {C I : ST} {z : Nat × Nat × Nat × Nat}
theorem in_ev {a b c : Int} {σ : XH} (ha : i64 a) (hb : i64 b) (hc : i64 c) : Ev (fun F => J12_in F (Int64.ofInt a) (Int64.ofInt b) (Int64.ofInt c) σ) (rI (bI (b ≤ a ∧ a ≤ c)) σ) := by
  obtain ⟨a0, a1⟩ := ha
  obtain ⟨b0, b1⟩ := hb
  obtain ⟨c0, c1⟩ := hc
  refine Ev.step (fun F => E12_in F _ _ _ _) ?_
  simp (disch := omega) only [Option.bind_some, xk_add, xk_sub, xk_mul, xk_neg, lk_add, lN_z, rf_none, rb1, rb0, rbp, xk_nI, zk_eq, zk_lt, zk_eq0, zk_lt0, zk_0lt, zk_long, lz_lt, lz_gt, zmax, zmin, ↓reduceIte, Int.reduceEq, Int.reduceLT, Int.reduceNeg, Int.reduceAdd, Int.reduceSub, Int.reduceMul, Int.ofNat_eq_natCast, Int.cast_ofNat_Int]
  refine Ev.ite (fun h => ?_) (fun h => ?_)
  · exact Ev.ret (by rw [bI_f (by omega)]; rfl)
  · refine Ev.ite (fun h => ?_) (fun h => ?_)
    · exact Ev.ret (by rw [bI_f (by omega)]; rfl)
    · exact Ev.ret (by rw [bI_t (by omega)]; rfl)
theorem isTask_ev (hA : WA e z) (hR : WR e) {t : Int} (t0 : -2147483648 ≤ t) (t1 : t < 2147483648) (n0 : 0 ≤ (I 12 0 1)) (n1 : (I 12 0 1) ≤ 150) : Ev (fun F => J12_isTask F (rf e 12 0) (xk t) (HS e C I z)) (rI (bI (0 ≤ t ∧ t < (I 12 0 1))) (HS e C I z)) := by
  refine Ev.step (fun F => E12_isTask F _ _ _) ?_
  simp (disch := omega) only [g_12_1 hA hR, Option.bind_some, xk_add, xk_sub, xk_mul, xk_neg, lk_add, lN_z, rf_none, rb1, rb0, rbp, xk_nI, zk_eq, zk_lt, zk_eq0, zk_lt0, zk_0lt, zk_long, lz_lt, lz_gt, zmax, zmin, ↓reduceIte, Int.reduceEq, Int.reduceLT, Int.reduceNeg, Int.reduceAdd, Int.reduceSub, Int.reduceMul, Int.ofNat_eq_natCast, Int.cast_ofNat_Int]
  refine Ev.kB (in_ev ⟨by omega, by omega⟩ ⟨by decide, by decide⟩ ⟨by omega, by omega⟩) (fun h => ?_) (fun h => ?_)
  · simp only [rb1]; exact Ev.ret (by rw [bI_t (by omega)]; rfl)
  · simp only [rb0]; exact Ev.ret (by rw [bI_f (by omega)]; rfl)
theorem isLive_ev (hA : WA e z) (hR : WR e) {t : Int} (t0 : -2147483648 ≤ t) (t1 : t < 2147483648) (n0 : 0 ≤ (I 12 0 1)) (n1 : (I 12 0 1) ≤ 150) (hs : ∀ t, 0 ≤ t → t < 150 → 0 ≤ (I 22 0 t) ∧ (I 22 0 t) ≤ 2) : Ev (fun F => J12_isLive F (rf e 12 0) (xk t) (HS e C I z)) (rI (bI (0 ≤ t ∧ t < (I 12 0 1) ∧ (I 22 0 t) = 0)) (HS e C I z)) := by
  refine Ev.step (fun F => E12_isLive F _ _ _) ?_
  simp (disch := omega) only [a_22 hA hR, d_12 hA hR, g_12_2 hA hR, Option.bind_some, xk_add, xk_sub, xk_mul, xk_neg, lk_add, lN_z, rf_none, rb1, rb0, rbp, xk_nI, zk_eq, zk_lt, zk_eq0, zk_lt0, zk_0lt, zk_long, lz_lt, lz_gt, zmax, zmin, ↓reduceIte, Int.reduceEq, Int.reduceLT, Int.reduceNeg, Int.reduceAdd, Int.reduceSub, Int.reduceMul, Int.ofNat_eq_natCast, Int.cast_ofNat_Int]
  refine Ev.kB (isTask_ev hA hR t0 t1 n0 n1) (fun h => ?_) (fun h => ?_)
  · have := hs t (by omega) (by omega)
    simp (disch := omega) only [Option.bind_some, xk_add, xk_sub, xk_mul, xk_neg, lk_add, lN_z, rf_none, rb1, rb0, rbp, xk_nI, zk_eq, zk_lt, zk_eq0, zk_lt0, zk_0lt, zk_long, lz_lt, lz_gt, zmax, zmin, ↓reduceIte, Int.reduceEq, Int.reduceLT, Int.reduceNeg, Int.reduceAdd, Int.reduceSub, Int.reduceMul, Int.ofNat_eq_natCast, Int.cast_ofNat_Int, a_22 hA hR, d_12 hA hR, g_12_2 hA hR]
    refine Ev.ite (fun h => ?_) (fun h => ?_)
    · exact Ev.ret (by rw [bI_t (by omega)]; rfl)
    · exact Ev.ret (by rw [bI_f (by omega)]; rfl)
  · simp (disch := omega) only [Option.bind_some, xk_add, xk_sub, xk_mul, xk_neg, lk_add, lN_z, rf_none, rb1, rb0, rbp, xk_nI, zk_eq, zk_lt, zk_eq0, zk_lt0, zk_0lt, zk_long, lz_lt, lz_gt, zmax, zmin, ↓reduceIte, Int.reduceEq, Int.reduceLT, Int.reduceNeg, Int.reduceAdd, Int.reduceSub, Int.reduceMul, Int.ofNat_eq_natCast, Int.cast_ofNat_Int]
    exact Ev.ret (by rw [bI_f (by omega)]; rfl)
end RA
end
section
/-! the reference: chains, sums, first ones -/
theorem lpN {P : Int → Prop} (N : Int) (h : ∀ t, (t < N → P (t + 1)) → P t) (t : Int) : P t := by
  have : ∀ (d : Nat) (t : Int), N - t ≤ d → P t := by
    intro d
    induction d with
    | zero => intro t ht; exact h t (fun q => absurd q (by omega))
    | succ d ih => intro t ht; exact h t (fun q => ih (t + 1) (by omega))
  exact this (N - t).toNat t (by omega)
theorem lpD {P : Int → Prop} (h : ∀ k, -1 ≤ k → (∀ j, -1 ≤ j → j < k → P j) → P k) (k : Int) (hk : -1 ≤ k) : P k := by
  have : ∀ (d : Nat) (k : Int), -1 ≤ k → k < d → P k := by
    intro d
    induction d with
    | zero => intro k h1 h2; exact h k h1 (fun j j1 j2 => absurd j2 (by omega))
    | succ d ih => intro k h1 h2; exact h k h1 (fun j j1 j2 => ih j j1 (by omega))
  exact this (k + 1).toNat k hk (by omega)
/-! a chain outwards -/
def chF (w : Int → Int) : Nat → Int → Int → Bool
  | 0, k, o => decide (k = o)
  | n + 1, k, o => if k = o then true else if k < 0 then false else chF w n (w k) o
theorem chF_s {w : Int → Int} {o : Int} (hw : ∀ k, 0 ≤ k → k < 20 → -1 ≤ w k ∧ w k < k) : ∀ (n : Nat) (k : Int), -1 ≤ k → k < n → k < 20 → chF w n k o = chF w (n + 1) k o
  | 0, k, h1, h2, h3 => by
    simp only [chF]
    by_cases h : k = o
    · simp [h]
    · rw [if_neg h, if_pos (by omega)]; simp [h]
  | n + 1, k, h1, h2, h3 => by
    rw [chF, chF]
    by_cases h : k = o
    · rw [if_pos h, if_pos h]
    · rw [if_neg h, if_neg h]
      by_cases h' : k < 0
      · rw [if_pos h', if_pos h']
      · have := hw k (by omega) h3
        rw [if_neg h', if_neg h', chF_s hw n (w k) (by omega) (by omega) (by omega)]
def chn (w : Int → Int) (k o : Int) : Bool := chF w 21 k o
theorem chn_u {w : Int → Int} {o k : Int} (hw : ∀ k, 0 ≤ k → k < 20 → -1 ≤ w k ∧ w k < k) (h1 : -1 ≤ k) (h2 : k < 20) : chn w k o = if k = o then true else if k < 0 then false else chn w (w k) o := by
  unfold chn
  rw [chF]
  by_cases h : k = o
  · rw [if_pos h, if_pos h]
  · rw [if_neg h, if_neg h]
    by_cases h' : k < 0
    · rw [if_pos h', if_pos h']
    · have := hw k (by omega) h2
      rw [if_neg h', if_neg h', chF_s hw 20 (w k) (by omega) (by omega) (by omega)]
/-- group k lies within o; space k lies in o -/
def win (I : ST) (k o : Int) : Bool := chn (fun k => (I 38 0 k)) k o
def lin (I : ST) (k o : Int) : Bool := chn (fun k => (I 34 0 k)) k o
theorem win_u {I : ST} (hB : RB I) {o k : Int} (h1 : -1 ≤ k) (h2 : k < 20) : win I k o = if k = o then true else if k < 0 then false else win I ((I 38 0 k)) o := chn_u (fun k a b => ⟨(RB.within hB a b).1, RB.wiw hB a b⟩) h1 h2
theorem lin_u {I : ST} (hB : RB I) {o k : Int} (h1 : -1 ≤ k) (h2 : k < 20) : lin I k o = if k = o then true else if k < 0 then false else lin I ((I 34 0 k)) o := chn_u (fun k a b => ⟨(RB.around hB a b).1, RB.arw hB a b⟩) h1 h2
/-! sums -/
def smN (f : Int → Int) : Nat → Int
  | 0 => 0
  | n + 1 => smN f n + f n
def sm (f : Int → Int) (t : Int) : Int := smN f t.toNat
theorem sm_0 {f : Int → Int} : sm f 0 = 0 := rfl
theorem sm_s {f : Int → Int} {t : Int} (h : 0 ≤ t) : sm f (t + 1) = sm f t + f t := by
  unfold sm
  rw [show (t + 1).toNat = t.toNat + 1 by omega, smN, Int.toNat_of_nonneg h]
section RA
variable {e : EN} {C I : ST} {z : Nat × Nat × Nat × Nat}
theorem isGroup_ev (hA : WA e z) (hR : WR e) (hB : RB I) {t : Int} (t0 : -2147483648 ≤ t) (t1 : t < 2147483648) : Ev (fun F => J12_isGroup F (rf e 12 0) (xk t) (HS e C I z)) (rI (bI (0 ≤ t ∧ t < (I 12 0 17))) (HS e C I z)) := by
  have := RB.groups hB
  refine Ev.step (fun F => E12_isGroup F _ _ _) ?_
  simp (disch := omega) only [g_12_17 hA hR, Option.bind_some, xk_add, xk_sub, xk_mul, xk_neg, lk_add, lN_z, rf_none, rb1, rb0, rbp, xk_nI, zk_eq, zk_lt, zk_eq0, zk_lt0, zk_0lt, zk_long, lz_lt, lz_gt, zmax, zmin, ↓reduceIte, Int.reduceEq, Int.reduceLT, Int.reduceNeg, Int.reduceAdd, Int.reduceSub, Int.reduceMul, Int.ofNat_eq_natCast, Int.cast_ofNat_Int]
  refine Ev.kB (in_ev ⟨by omega, by omega⟩ ⟨by decide, by decide⟩ ⟨by omega, by omega⟩) (fun h => ?_) (fun h => ?_)
  · simp only [rb1]; exact Ev.ret (by rw [bI_t (by omega)]; rfl)
  · simp only [rb0]; exact Ev.ret (by rw [bI_f (by omega)]; rfl)
theorem isWithin_ev (hA : WA e z) (hR : WR e) (hB : RB I) {k o : Int} (o0 : -1 ≤ o) (o1 : o < 20) (k0 : -1 ≤ k) (k1 : k < 20) : Ev (fun F => J12_isWithin F (rf e 12 0) (xk k) (xk o) (HS e C I z)) (rI (bI (win I k o = true)) (HS e C I z)) := by
  refine Ev.step (fun F => E12_isWithin F _ _ _ _) ?_
  refine lpD (P := fun k => k < 20 → Ev (fun F => J12_isWithin_2 F (rf e 12 0) (xk o) (xk k) (HS e C I z)) (rI (bI (win I k o = true)) (HS e C I z))) (fun k k0 ih k1 => ?_) k k0 k1
  rw [win_u hB k0 k1]
  refine Ev.step (fun F => E12_isWithin_2 F _ _ _ _) ?_
  simp (disch := omega) only [a_38 hA hR, g_12_18 hA hR, Option.bind_some, xk_add, xk_sub, xk_mul, xk_neg, lk_add, lN_z, rf_none, rb1, rb0, rbp, xk_nI, zk_eq, zk_lt, zk_eq0, zk_lt0, zk_0lt, zk_long, lz_lt, lz_gt, zmax, zmin, ↓reduceIte, Int.reduceEq, Int.reduceLT, Int.reduceNeg, Int.reduceAdd, Int.reduceSub, Int.reduceMul, Int.ofNat_eq_natCast, Int.cast_ofNat_Int]
  refine Ev.ite (fun h => ?_) (fun h => ?_)
  · refine Ev.ite (fun h => ?_) (fun h => ?_)
    · exact Ev.ret (by rw [bI_t (by rw [if_pos h])]; rfl)
    · exact Ev.ret (by rw [bI_f (by rw [if_neg h, if_pos (by omega)]; decide)]; rfl)
  · refine Ev.ite (fun h => ?_) (fun h => ?_)
    · simp only [if_pos h]
      exact Ev.ret (by rw [bI_t trivial]; rfl)
    · have := RB.within hB (j := k) (by omega) (by omega)
      have := RB.wiw hB (j := k) (by omega) (by omega)
      rw [if_neg h, if_neg (by omega)]
      try simp (disch := omega) only [a_38 hA hR, g_12_18 hA hR, Option.bind_some, xk_add, xk_sub, xk_mul, xk_neg, lk_add, lN_z, rf_none, rb1, rb0, rbp, xk_nI, zk_eq, zk_lt, zk_eq0, zk_lt0, zk_0lt, zk_long, lz_lt, lz_gt, zmax, zmin, ↓reduceIte, Int.reduceEq, Int.reduceLT, Int.reduceNeg, Int.reduceAdd, Int.reduceSub, Int.reduceMul, Int.ofNat_eq_natCast, Int.cast_ofNat_Int]
      exact ih _ (by omega) (by omega) (by omega)
theorem liesIn_ev (hA : WA e z) (hR : WR e) (hB : RB I) {k o : Int} (o0 : -1 ≤ o) (o1 : o < 20) (k0 : -1 ≤ k) (k1 : k < 20) : Ev (fun F => J12_liesIn F (rf e 12 0) (xk k) (xk o) (HS e C I z)) (rI (bI (lin I k o = true)) (HS e C I z)) := by
  refine Ev.step (fun F => E12_liesIn F _ _ _ _) ?_
  refine lpD (P := fun k => k < 20 → Ev (fun F => J12_liesIn_2 F (rf e 12 0) (xk o) (xk k) (HS e C I z)) (rI (bI (lin I k o = true)) (HS e C I z))) (fun k k0 ih k1 => ?_) k k0 k1
  rw [lin_u hB k0 k1]
  refine Ev.step (fun F => E12_liesIn_2 F _ _ _ _) ?_
  simp (disch := omega) only [a_34 hA hR, g_12_14 hA hR, Option.bind_some, xk_add, xk_sub, xk_mul, xk_neg, lk_add, lN_z, rf_none, rb1, rb0, rbp, xk_nI, zk_eq, zk_lt, zk_eq0, zk_lt0, zk_0lt, zk_long, lz_lt, lz_gt, zmax, zmin, ↓reduceIte, Int.reduceEq, Int.reduceLT, Int.reduceNeg, Int.reduceAdd, Int.reduceSub, Int.reduceMul, Int.ofNat_eq_natCast, Int.cast_ofNat_Int]
  refine Ev.ite (fun h => ?_) (fun h => ?_)
  · refine Ev.ite (fun h => ?_) (fun h => ?_)
    · exact Ev.ret (by rw [bI_t (by rw [if_pos h])]; rfl)
    · exact Ev.ret (by rw [bI_f (by rw [if_neg h, if_pos (by omega)]; decide)]; rfl)
  · refine Ev.ite (fun h => ?_) (fun h => ?_)
    · simp only [if_pos h]
      exact Ev.ret (by rw [bI_t trivial]; rfl)
    · have := RB.around hB (j := k) (by omega) (by omega)
      have := RB.arw hB (j := k) (by omega) (by omega)
      rw [if_neg h, if_neg (by omega)]
      try simp (disch := omega) only [a_34 hA hR, g_12_14 hA hR, Option.bind_some, xk_add, xk_sub, xk_mul, xk_neg, lk_add, lN_z, rf_none, rb1, rb0, rbp, xk_nI, zk_eq, zk_lt, zk_eq0, zk_lt0, zk_0lt, zk_long, lz_lt, lz_gt, zmax, zmin, ↓reduceIte, Int.reduceEq, Int.reduceLT, Int.reduceNeg, Int.reduceAdd, Int.reduceSub, Int.reduceMul, Int.ofNat_eq_natCast, Int.cast_ofNat_Int]
      exact ih _ (by omega) (by omega) (by omega)
/-- live tasks in a group; what it uses -/
def lvT (I : ST) (g t : Int) : Int := if (I 22 0 t) = 0 ∧ win I ((I 25 0 t)) g = true then 1 else 0
def usT (I : ST) (g t : Int) : Int := if (I 22 0 t) = 0 ∧ win I ((I 25 0 t)) g = true then (I 27 0 t) else 0
def usK (I : ST) (g k : Int) : Int := if win I k g = true then (I 43 0 k) else 0
def lvF (I : ST) (g : Int) : Int := sm (lvT I g) (I 12 0 1)
def usF (I : ST) (g : Int) : Int := sm (usT I g) (I 12 0 1) + sm (usK I g) (I 12 0 17)
theorem liveIn_ev (hA : WA e z) (hR : WR e) (hB : RB I) {g : Int} (g0 : -1 ≤ g) (g1 : g < 20) : Ev (fun F => J12_liveIn F (rf e 12 0) (xk g) (HS e C I z)) (rI (lvF I g) (HS e C I z)) := by
  have := RB.tasks hB
  refine Ev.step (fun F => E12_liveIn F _ _ _) ?_
  refine lpN (P := fun t => ∀ acc, 0 ≤ t → t ≤ (I 12 0 1) → acc = sm (lvT I g) t → Ev (fun F => J12_liveIn_4 F (rf e 12 0) (xk g) (xk acc) (xk t) (HS e C I z)) (rI (lvF I g) (HS e C I z))) (I 12 0 1) (fun t ih acc t0 t1 ha => ?_) 0 0 (by omega) (by omega) rfl
  refine Ev.step (fun F => E12_liveIn_4 F _ _ _ _ _) ?_
  simp (disch := omega) only [a_22 hA hR, a_25 hA hR, d_12 hA hR, g_12_1 hA hR, g_12_2 hA hR, g_12_5 hA hR, Option.bind_some, xk_add, xk_sub, xk_mul, xk_neg, lk_add, lN_z, rf_none, rb1, rb0, rbp, xk_nI, zk_eq, zk_lt, zk_eq0, zk_lt0, zk_0lt, zk_long, lz_lt, lz_gt, zmax, zmin, ↓reduceIte, Int.reduceEq, Int.reduceLT, Int.reduceNeg, Int.reduceAdd, Int.reduceSub, Int.reduceMul, Int.ofNat_eq_natCast, Int.cast_ofNat_Int]
  refine Ev.ite (fun h => ?_) (fun h => ?_)
  · have := RB.state hB (j := t) (by omega) (by omega)
    have := RB.group hB (j := t) (by omega) (by omega)
    have ih := fun a => ih h a (by omega) (by omega)
    rw [sm_s t0, ← ha] at ih
    try simp (disch := omega) only [a_22 hA hR, a_25 hA hR, d_12 hA hR, g_12_1 hA hR, g_12_2 hA hR, g_12_5 hA hR, Option.bind_some, xk_add, xk_sub, xk_mul, xk_neg, lk_add, lN_z, rf_none, rb1, rb0, rbp, xk_nI, zk_eq, zk_lt, zk_eq0, zk_lt0, zk_0lt, zk_long, lz_lt, lz_gt, zmax, zmin, ↓reduceIte, Int.reduceEq, Int.reduceLT, Int.reduceNeg, Int.reduceAdd, Int.reduceSub, Int.reduceMul, Int.ofNat_eq_natCast, Int.cast_ofNat_Int]
    refine Ev.ite (fun hs => ?_) (fun hs => ?_)
    · refine Ev.kB (isWithin_ev hA hR hB g0 g1 (by omega) (by omega)) (fun hw => ?_) (fun hw => ?_)
      · try simp (disch := omega) only [a_22 hA hR, a_25 hA hR, d_12 hA hR, g_12_1 hA hR, g_12_2 hA hR, g_12_5 hA hR, Option.bind_some, xk_add, xk_sub, xk_mul, xk_neg, lk_add, lN_z, rf_none, rb1, rb0, rbp, xk_nI, zk_eq, zk_lt, zk_eq0, zk_lt0, zk_0lt, zk_long, lz_lt, lz_gt, zmax, zmin, ↓reduceIte, Int.reduceEq, Int.reduceLT, Int.reduceNeg, Int.reduceAdd, Int.reduceSub, Int.reduceMul, Int.ofNat_eq_natCast, Int.cast_ofNat_Int]
        exact ih _ (by rw [lvT, if_pos ⟨hs, hw⟩])
      · try simp (disch := omega) only [a_22 hA hR, a_25 hA hR, d_12 hA hR, g_12_1 hA hR, g_12_2 hA hR, g_12_5 hA hR, Option.bind_some, xk_add, xk_sub, xk_mul, xk_neg, lk_add, lN_z, rf_none, rb1, rb0, rbp, xk_nI, zk_eq, zk_lt, zk_eq0, zk_lt0, zk_0lt, zk_long, lz_lt, lz_gt, zmax, zmin, ↓reduceIte, Int.reduceEq, Int.reduceLT, Int.reduceNeg, Int.reduceAdd, Int.reduceSub, Int.reduceMul, Int.ofNat_eq_natCast, Int.cast_ofNat_Int]
        exact ih _ (by rw [lvT, if_neg (fun q => hw q.2)])
    · exact ih _ (by rw [lvT, if_neg (fun q => hs q.1)])
  · have : t = (I 12 0 1) := by omega
    subst this
    exact Ev.ret (by rw [ha]; rfl)
end RA
end
section
/-! the reference: searches and counts -/
def foN {α : Type} (st : Int → α → α) (a : α) : Nat → α
  | 0 => a
  | n + 1 => st n (foN st a n)
def fo {α : Type} (st : Int → α → α) (a : α) (t : Int) : α := foN st a t.toNat
theorem fo_s {α : Type} {st : Int → α → α} {a : α} {t : Int} (h : 0 ≤ t) : fo st a (t + 1) = st t (fo st a t) := by
  unfold fo
  rw [show (t + 1).toNat = t.toNat + 1 by omega, foN, Int.toNat_of_nonneg h]
theorem sm_nn {f : Int → Int} (h : ∀ k, 0 ≤ f k) (n : Int) : 0 ≤ sm f n := by
  unfold sm
  generalize n.toNat = m
  induction m with
  | zero => exact Int.le_refl 0
  | succ m ih => rw [smN]; have := h m; omega
theorem sm_ge {f : Int → Int} (h : ∀ k, 0 ≤ f k) {t n : Int} (h0 : 0 ≤ t) (h1 : t < n) : f t ≤ sm f n := by
  have : ∀ m : Nat, t < m → f t ≤ smN f m := by
    intro m
    induction m with
    | zero => intro q; omega
    | succ m ih =>
      intro q
      rw [smN]
      by_cases hm : t = m
      · subst hm
        have := sm_nn h m
        unfold sm at this
        simp only [Int.toNat_natCast] at this
        omega
      · have := ih (by omega)
        have := h m
        omega
  exact this n.toNat (by omega)
section RA
variable {e : EN} {C I : ST} {z : Nat × Nat × Nat × Nat}
theorem uses_ev (hA : WA e z) (hR : WR e) (hB : RB I) {g : Int} (g0 : -1 ≤ g) (g1 : g < 20) : Ev (fun F => J12_uses F (rf e 12 0) (xk g) (HS e C I z)) (rI (usF I g) (HS e C I z)) := by
  have := RB.tasks hB
  have := RB.groups hB
  refine Ev.step (fun F => E12_uses F _ _ _) ?_
  refine lpN (P := fun t => ∀ acc, 0 ≤ t → t ≤ (I 12 0 1) → acc = sm (usT I g) t → Ev (fun F => J12_uses_4 F (rf e 12 0) (xk g) (xk acc) (xk t) (HS e C I z)) (rI (usF I g) (HS e C I z))) (I 12 0 1) (fun t ih acc t0 t1 ha => ?_) 0 0 (by omega) (by omega) rfl
  refine Ev.step (fun F => E12_uses_4 F _ _ _ _ _) ?_
  simp (disch := omega) only [a_22 hA hR, a_25 hA hR, a_27 hA hR, d_12 hA hR, g_12_1 hA hR, g_12_2 hA hR, g_12_5 hA hR, g_12_7 hA hR, Option.bind_some, xk_add, xk_sub, xk_mul, xk_neg, lk_add, lN_z, rf_none, rb1, rb0, rbp, xk_nI, zk_eq, zk_lt, zk_eq0, zk_lt0, zk_0lt, zk_long, lz_lt, lz_gt, zmax, zmin, ↓reduceIte, Int.reduceEq, Int.reduceLT, Int.reduceNeg, Int.reduceAdd, Int.reduceSub, Int.reduceMul, Int.ofNat_eq_natCast, Int.cast_ofNat_Int]
  refine Ev.ite (fun h => ?_) (fun h => ?_)
  · have := RB.state hB (j := t) (by omega) (by omega)
    have := RB.group hB (j := t) (by omega) (by omega)
    have ih := fun a => ih h a (by omega) (by omega)
    rw [sm_s t0, ← ha] at ih
    try simp (disch := omega) only [a_22 hA hR, a_25 hA hR, a_27 hA hR, d_12 hA hR, g_12_1 hA hR, g_12_2 hA hR, g_12_5 hA hR, g_12_7 hA hR, Option.bind_some, xk_add, xk_sub, xk_mul, xk_neg, lk_add, lN_z, rf_none, rb1, rb0, rbp, xk_nI, zk_eq, zk_lt, zk_eq0, zk_lt0, zk_0lt, zk_long, lz_lt, lz_gt, zmax, zmin, ↓reduceIte, Int.reduceEq, Int.reduceLT, Int.reduceNeg, Int.reduceAdd, Int.reduceSub, Int.reduceMul, Int.ofNat_eq_natCast, Int.cast_ofNat_Int]
    refine Ev.ite (fun hs => ?_) (fun hs => ?_)
    · refine Ev.kB (isWithin_ev hA hR hB g0 g1 (by omega) (by omega)) (fun hw => ?_) (fun hw => ?_)
      · try simp (disch := omega) only [a_22 hA hR, a_25 hA hR, a_27 hA hR, d_12 hA hR, g_12_1 hA hR, g_12_2 hA hR, g_12_5 hA hR, g_12_7 hA hR, Option.bind_some, xk_add, xk_sub, xk_mul, xk_neg, lk_add, lN_z, rf_none, rb1, rb0, rbp, xk_nI, zk_eq, zk_lt, zk_eq0, zk_lt0, zk_0lt, zk_long, lz_lt, lz_gt, zmax, zmin, ↓reduceIte, Int.reduceEq, Int.reduceLT, Int.reduceNeg, Int.reduceAdd, Int.reduceSub, Int.reduceMul, Int.ofNat_eq_natCast, Int.cast_ofNat_Int]
        exact ih _ (by rw [usT, if_pos ⟨hs, hw⟩])
      · try simp (disch := omega) only [a_22 hA hR, a_25 hA hR, a_27 hA hR, d_12 hA hR, g_12_1 hA hR, g_12_2 hA hR, g_12_5 hA hR, g_12_7 hA hR, Option.bind_some, xk_add, xk_sub, xk_mul, xk_neg, lk_add, lN_z, rf_none, rb1, rb0, rbp, xk_nI, zk_eq, zk_lt, zk_eq0, zk_lt0, zk_0lt, zk_long, lz_lt, lz_gt, zmax, zmin, ↓reduceIte, Int.reduceEq, Int.reduceLT, Int.reduceNeg, Int.reduceAdd, Int.reduceSub, Int.reduceMul, Int.ofNat_eq_natCast, Int.cast_ofNat_Int]
        exact ih _ (by rw [usT, if_neg (fun q => hw q.2)])
    · exact ih _ (by rw [usT, if_neg (fun q => hs q.1)])
  · have : t = (I 12 0 1) := by omega
    subst this
    refine lpN (P := fun t => ∀ acc, 0 ≤ t → t ≤ (I 12 0 17) → acc = sm (usT I g) (I 12 0 1) + sm (usK I g) t → Ev (fun F => J12_uses_56 F (rf e 12 0) (xk g) (xk acc) (xk t) (HS e C I z)) (rI (usF I g) (HS e C I z))) (I 12 0 17) (fun t ih acc t0 t1 ha => ?_) 0 acc (by omega) (by omega) (by rw [ha, sm_0, Int.add_zero])
    refine Ev.step (fun F => E12_uses_56 F _ _ _ _ _) ?_
    simp (disch := omega) only [a_43 hA hR, d_12 hA hR, g_12_17 hA hR, g_12_23 hA hR, Option.bind_some, xk_add, xk_sub, xk_mul, xk_neg, lk_add, lN_z, rf_none, rb1, rb0, rbp, xk_nI, zk_eq, zk_lt, zk_eq0, zk_lt0, zk_0lt, zk_long, lz_lt, lz_gt, zmax, zmin, ↓reduceIte, Int.reduceEq, Int.reduceLT, Int.reduceNeg, Int.reduceAdd, Int.reduceSub, Int.reduceMul, Int.ofNat_eq_natCast, Int.cast_ofNat_Int]
    refine Ev.ite (fun h => ?_) (fun h => ?_)
    · have ih := fun a => ih h a (by omega) (by omega)
      rw [sm_s t0] at ih
      try simp (disch := omega) only [a_43 hA hR, d_12 hA hR, g_12_17 hA hR, g_12_23 hA hR, Option.bind_some, xk_add, xk_sub, xk_mul, xk_neg, lk_add, lN_z, rf_none, rb1, rb0, rbp, xk_nI, zk_eq, zk_lt, zk_eq0, zk_lt0, zk_0lt, zk_long, lz_lt, lz_gt, zmax, zmin, ↓reduceIte, Int.reduceEq, Int.reduceLT, Int.reduceNeg, Int.reduceAdd, Int.reduceSub, Int.reduceMul, Int.ofNat_eq_natCast, Int.cast_ofNat_Int]
      refine Ev.kB (isWithin_ev hA hR hB g0 g1 (by omega) (by omega)) (fun hw => ?_) (fun hw => ?_)
      · try simp (disch := omega) only [a_43 hA hR, d_12 hA hR, g_12_17 hA hR, g_12_23 hA hR, Option.bind_some, xk_add, xk_sub, xk_mul, xk_neg, lk_add, lN_z, rf_none, rb1, rb0, rbp, xk_nI, zk_eq, zk_lt, zk_eq0, zk_lt0, zk_0lt, zk_long, lz_lt, lz_gt, zmax, zmin, ↓reduceIte, Int.reduceEq, Int.reduceLT, Int.reduceNeg, Int.reduceAdd, Int.reduceSub, Int.reduceMul, Int.ofNat_eq_natCast, Int.cast_ofNat_Int]
        exact ih _ (by rw [usK, if_pos hw]; omega)
      · try simp (disch := omega) only [a_43 hA hR, d_12 hA hR, g_12_17 hA hR, g_12_23 hA hR, Option.bind_some, xk_add, xk_sub, xk_mul, xk_neg, lk_add, lN_z, rf_none, rb1, rb0, rbp, xk_nI, zk_eq, zk_lt, zk_eq0, zk_lt0, zk_0lt, zk_long, lz_lt, lz_gt, zmax, zmin, ↓reduceIte, Int.reduceEq, Int.reduceLT, Int.reduceNeg, Int.reduceAdd, Int.reduceSub, Int.reduceMul, Int.ofNat_eq_natCast, Int.cast_ofNat_Int]
        exact ih _ (by rw [usK, if_neg hw]; omega)
    · have : t = (I 12 0 17) := by omega
      subst this
      exact Ev.ret (by rw [ha]; rfl)
/-- who holds a number in a space -/
def HoR (I : ST) (s n x : Int) : Prop := (-1 ≤ x ∧ x < (I 12 0 1)) ∧ ∀ t, 0 ≤ t → t < (I 12 0 1) → (((I 22 0 t) ≠ 2 ∧ (I 32 0 (20 * t + s)) = n) ↔ t = x)
theorem holder_ev (hA : WA e z) (hR : WR e) (hB : RB I) {s n x : Int} (s0 : 0 ≤ s) (s1 : s < 20) (n0 : -2147483648 ≤ n) (n1 : n < 2147483648) (hx : HoR I s n x) : Ev (fun F => J12_holder F (rf e 12 0) (xk s) (xk n) (HS e C I z)) (rI x (HS e C I z)) := by
  have := RB.tasks hB
  refine Ev.step (fun F => E12_holder F _ _ _ _) ?_
  refine lpN (P := fun t => 0 ≤ t → t ≤ (I 12 0 1) → (x = -1 ∨ t ≤ x) → Ev (fun F => J12_holder_2 F (rf e 12 0) (xk s) (xk n) (xk t) (HS e C I z)) (rI x (HS e C I z))) (I 12 0 1) (fun t ih t0 t1 ht => ?_) 0 (by omega) (by omega) (by have := hx.1; omega)
  refine Ev.step (fun F => E12_holder_2 F _ _ _ _ _) ?_
  simp (disch := omega) only [a_22 hA hR, a_32 hA hR, g_12_1 hA hR, g_12_12 hA hR, g_12_2 hA hR, Option.bind_some, xk_add, xk_sub, xk_mul, xk_neg, lk_add, lN_z, rf_none, rb1, rb0, rbp, xk_nI, zk_eq, zk_lt, zk_eq0, zk_lt0, zk_0lt, zk_long, lz_lt, lz_gt, zmax, zmin, ↓reduceIte, Int.reduceEq, Int.reduceLT, Int.reduceNeg, Int.reduceAdd, Int.reduceSub, Int.reduceMul, Int.ofNat_eq_natCast, Int.cast_ofNat_Int]
  refine Ev.ite (fun h => ?_) (fun h => ?_)
  · have := RB.state hB (j := t) (by omega) (by omega)
    have := RB.numbers hB (j := (20 * t + s)) (by omega) (by omega)
    have hq := hx.2 t t0 h
    try simp (disch := omega) only [a_22 hA hR, a_32 hA hR, g_12_1 hA hR, g_12_12 hA hR, g_12_2 hA hR, Option.bind_some, xk_add, xk_sub, xk_mul, xk_neg, lk_add, lN_z, rf_none, rb1, rb0, rbp, xk_nI, zk_eq, zk_lt, zk_eq0, zk_lt0, zk_0lt, zk_long, lz_lt, lz_gt, zmax, zmin, ↓reduceIte, Int.reduceEq, Int.reduceLT, Int.reduceNeg, Int.reduceAdd, Int.reduceSub, Int.reduceMul, Int.ofNat_eq_natCast, Int.cast_ofNat_Int]
    refine Ev.ite (fun hs => ?_) (fun hs => ?_)
    · refine ih h (by omega) (by omega) ?_
      have : t ≠ x := fun q => (hq.mpr q).1 hs
      omega
    · refine Ev.ite (fun hn => ?_) (fun hn => ?_)
      · have := hq.mp ⟨hs, hn⟩
        exact Ev.ret (by rw [this]; rfl)
      · refine ih h (by omega) (by omega) ?_
        have : t ≠ x := fun q => hn (hq.mpr q).2
        omega
  · have := hx.1
    exact Ev.ret (by rw [show x = -1 by omega]; rfl)
/-- the next number: d tries behind n -/
def nxF (h : Int → Int) : Nat → Int → Int
  | 0, _ => 0
  | d + 1, n => if h (if n = 40 then 1 else n + 1) < 0 then (if n = 40 then 1 else n + 1) else nxF h d (if n = 40 then 1 else n + 1)
theorem nextNumber_ev (hA : WA e z) (hR : WR e) (hB : RB I) {s : Int} {h : Int → Int} (s0 : 0 ≤ s) (s1 : s < 20) (hx : ∀ n, 1 ≤ n → n ≤ 40 → HoR I s n (h n)) : Ev (fun F => J12_nextNumber F (rf e 12 0) (xk s) (HS e C I z)) (rI (nxF h 40 (I 36 0 s)) (HS e C I z)) := by
  have := RB.given hB (j := s) (by omega) (by omega)
  have := RB.tasks hB
  refine Ev.step (fun F => E12_nextNumber F _ _ _) ?_
  simp (disch := omega) only [a_36 hA hR, g_12_16 hA hR, Option.bind_some, xk_add, xk_sub, xk_mul, xk_neg, lk_add, lN_z, rf_none, rb1, rb0, rbp, xk_nI, zk_eq, zk_lt, zk_eq0, zk_lt0, zk_0lt, zk_long, lz_lt, lz_gt, zmax, zmin, ↓reduceIte, Int.reduceEq, Int.reduceLT, Int.reduceNeg, Int.reduceAdd, Int.reduceSub, Int.reduceMul, Int.ofNat_eq_natCast, Int.cast_ofNat_Int]
  have : ∀ (d : Nat) (k n : Int), 0 ≤ k → k + d = 40 → 0 ≤ n → n ≤ 40 → Ev (fun F => J12_nextNumber_9 F (rf e 12 0) (xk s) (xk n) (xk k) (HS e C I z)) (rI (nxF h d n) (HS e C I z)) := by
    intro d
    induction d with
    | zero =>
      intro k n k0 hk n0 n1
      refine Ev.step (fun F => E12_nextNumber_9 F _ _ _ _ _) ?_
      simp (disch := omega) only [d_12 hA hR, Option.bind_some, xk_add, xk_sub, xk_mul, xk_neg, lk_add, lN_z, rf_none, rb1, rb0, rbp, xk_nI, zk_eq, zk_lt, zk_eq0, zk_lt0, zk_0lt, zk_long, lz_lt, lz_gt, zmax, zmin, ↓reduceIte, Int.reduceEq, Int.reduceLT, Int.reduceNeg, Int.reduceAdd, Int.reduceSub, Int.reduceMul, Int.ofNat_eq_natCast, Int.cast_ofNat_Int]
      exact Ev.ite (fun q => absurd q (by omega)) (fun _ => Ev.ret rfl)
    | succ d ih =>
      intro k n k0 hk n0 n1
      refine Ev.step (fun F => E12_nextNumber_9 F _ _ _ _ _) ?_
      simp (disch := omega) only [d_12 hA hR, Option.bind_some, xk_add, xk_sub, xk_mul, xk_neg, lk_add, lN_z, rf_none, rb1, rb0, rbp, xk_nI, zk_eq, zk_lt, zk_eq0, zk_lt0, zk_0lt, zk_long, lz_lt, lz_gt, zmax, zmin, ↓reduceIte, Int.reduceEq, Int.reduceLT, Int.reduceNeg, Int.reduceAdd, Int.reduceSub, Int.reduceMul, Int.ofNat_eq_natCast, Int.cast_ofNat_Int]
      refine Ev.ite (fun _ => ?_) (fun q => absurd q (by omega))
      rw [nxF]
      refine Ev.ite (fun hn => ?_) (fun hn => ?_)
      · simp only [if_pos hn]
        have hh := hx 1 (by omega) (by omega)
        have := hh.1
        refine Ev.kI (holder_ev hA hR hB s0 s1 (by omega) (by omega) hh) ?_
        try simp (disch := omega) only [d_12 hA hR, Option.bind_some, xk_add, xk_sub, xk_mul, xk_neg, lk_add, lN_z, rf_none, rb1, rb0, rbp, xk_nI, zk_eq, zk_lt, zk_eq0, zk_lt0, zk_0lt, zk_long, lz_lt, lz_gt, zmax, zmin, ↓reduceIte, Int.reduceEq, Int.reduceLT, Int.reduceNeg, Int.reduceAdd, Int.reduceSub, Int.reduceMul, Int.ofNat_eq_natCast, Int.cast_ofNat_Int]
        refine Ev.ite (fun hq => ?_) (fun hq => ?_)
        · exact Ev.ret (by rw [if_pos (by omega)]; rfl)
        · rw [if_neg (by omega)]
          exact ih _ _ (by omega) (by omega) (by omega) (by omega)
      · simp only [if_neg hn]
        have hh := hx (n + 1) (by omega) (by omega)
        have := hh.1
        refine Ev.kI (holder_ev hA hR hB s0 s1 (by omega) (by omega) hh) ?_
        try simp (disch := omega) only [d_12 hA hR, Option.bind_some, xk_add, xk_sub, xk_mul, xk_neg, lk_add, lN_z, rf_none, rb1, rb0, rbp, xk_nI, zk_eq, zk_lt, zk_eq0, zk_lt0, zk_0lt, zk_long, lz_lt, lz_gt, zmax, zmin, ↓reduceIte, Int.reduceEq, Int.reduceLT, Int.reduceNeg, Int.reduceAdd, Int.reduceSub, Int.reduceMul, Int.ofNat_eq_natCast, Int.cast_ofNat_Int]
        refine Ev.ite (fun hq => ?_) (fun hq => ?_)
        · exact Ev.ret (by rw [if_pos (by omega)]; rfl)
        · rw [if_neg (by omega)]
          exact ih _ _ (by omega) (by omega) (by omega) (by omega)
  exact this 40 0 _ (by omega) (by omega) (by omega) (by omega)
theorem depth_ev (hA : WA e z) (hR : WR e) (hB : RB I) {s : Int} {dp : Int → Int} (s0 : 0 ≤ s) (s1 : s < 20) (hd : ∀ k, 0 ≤ k → k < 20 → dp k = if (I 34 0 k) = -1 then 0 else dp (I 34 0 k) + 1) : Ev (fun F => J12_depth F (rf e 12 0) (xk s) (HS e C I z)) (rI (dp s) (HS e C I z)) := by
  have := RB.around hB (j := s) (by omega) (by omega)
  have := RB.arw hB (j := s) (by omega) (by omega)
  refine Ev.step (fun F => E12_depth F _ _ _) ?_
  simp (disch := omega) only [a_34 hA hR, g_12_14 hA hR, Option.bind_some, xk_add, xk_sub, xk_mul, xk_neg, lk_add, lN_z, rf_none, rb1, rb0, rbp, xk_nI, zk_eq, zk_lt, zk_eq0, zk_lt0, zk_0lt, zk_long, lz_lt, lz_gt, zmax, zmin, ↓reduceIte, Int.reduceEq, Int.reduceLT, Int.reduceNeg, Int.reduceAdd, Int.reduceSub, Int.reduceMul, Int.ofNat_eq_natCast, Int.cast_ofNat_Int]
  refine lpD (P := fun k => k < 20 → ∀ n, n + (if k = -1 then 0 else dp k + 1) = dp s → Ev (fun F => J12_depth_9 F (rf e 12 0) (xk n) (xk k) (HS e C I z)) (rI (dp s) (HS e C I z))) (fun k k0 ih k1 n hn => ?_) (I 34 0 s) (by omega) (by omega) 0 (by rw [hd s s0 s1, Int.zero_add])
  refine Ev.step (fun F => E12_depth_9 F _ _ _ _) ?_
  simp (disch := omega) only [a_34 hA hR, g_12_14 hA hR, Option.bind_some, xk_add, xk_sub, xk_mul, xk_neg, lk_add, lN_z, rf_none, rb1, rb0, rbp, xk_nI, zk_eq, zk_lt, zk_eq0, zk_lt0, zk_0lt, zk_long, lz_lt, lz_gt, zmax, zmin, ↓reduceIte, Int.reduceEq, Int.reduceLT, Int.reduceNeg, Int.reduceAdd, Int.reduceSub, Int.reduceMul, Int.ofNat_eq_natCast, Int.cast_ofNat_Int]
  refine Ev.ite (fun h => ?_) (fun h => ?_)
  · rw [if_pos h] at hn
    exact Ev.ret (by rw [← hn, Int.add_zero]; rfl)
  · rw [if_neg h] at hn
    have := RB.around hB (j := k) (by omega) (by omega)
    have := RB.arw hB (j := k) (by omega) (by omega)
    try simp (disch := omega) only [a_34 hA hR, g_12_14 hA hR, Option.bind_some, xk_add, xk_sub, xk_mul, xk_neg, lk_add, lN_z, rf_none, rb1, rb0, rbp, xk_nI, zk_eq, zk_lt, zk_eq0, zk_lt0, zk_0lt, zk_long, lz_lt, lz_gt, zmax, zmin, ↓reduceIte, Int.reduceEq, Int.reduceLT, Int.reduceNeg, Int.reduceAdd, Int.reduceSub, Int.reduceMul, Int.ofNat_eq_natCast, Int.cast_ofNat_Int]
    refine ih _ (by omega) (by omega) (by omega) _ ?_
    have := hd k (by omega) k1
    omega
theorem freeMounts_ev (hA : WA e z) (hR : WR e) (hB : RB I) : Ev (fun F => J12_freeMounts F (rf e 12 0) (HS e C I z)) (rI (80 - sm (fun k => (I 50 0 k)) 80) (HS e C I z)) := by
  refine Ev.step (fun F => E12_freeMounts F _ _) ?_
  refine lpN (P := fun t => ∀ acc, 0 ≤ t → t ≤ 80 → acc = t - sm (fun k => (I 50 0 k)) t → Ev (fun F => J12_freeMounts_4 F (rf e 12 0) (xk acc) (xk t) (HS e C I z)) (rI (80 - sm (fun k => (I 50 0 k)) 80) (HS e C I z))) 80 (fun t ih acc t0 t1 ha => ?_) 0 0 (by omega) (by omega) rfl
  refine Ev.step (fun F => E12_freeMounts_4 F _ _ _ _) ?_
  simp (disch := omega) only [a_50 hA hR, g_12_30 hA hR, Option.bind_some, xk_add, xk_sub, xk_mul, xk_neg, lk_add, lN_z, rf_none, rb1, rb0, rbp, xk_nI, zk_eq, zk_lt, zk_eq0, zk_lt0, zk_0lt, zk_long, lz_lt, lz_gt, zmax, zmin, ↓reduceIte, Int.reduceEq, Int.reduceLT, Int.reduceNeg, Int.reduceAdd, Int.reduceSub, Int.reduceMul, Int.ofNat_eq_natCast, Int.cast_ofNat_Int]
  refine Ev.ite (fun h => ?_) (fun h => ?_)
  · have := RB.there hB (j := t) (by omega) (by omega)
    have ih := fun a => ih h a (by omega) (by omega)
    rw [sm_s t0] at ih
    try simp (disch := omega) only [a_50 hA hR, g_12_30 hA hR, Option.bind_some, xk_add, xk_sub, xk_mul, xk_neg, lk_add, lN_z, rf_none, rb1, rb0, rbp, xk_nI, zk_eq, zk_lt, zk_eq0, zk_lt0, zk_0lt, zk_long, lz_lt, lz_gt, zmax, zmin, ↓reduceIte, Int.reduceEq, Int.reduceLT, Int.reduceNeg, Int.reduceAdd, Int.reduceSub, Int.reduceMul, Int.ofNat_eq_natCast, Int.cast_ofNat_Int]
    exact Ev.ite (fun hs => ih _ (by omega)) (fun hs => ih _ (by omega))
  · have : t = 80 := by omega
    subst this
    exact Ev.ret (by rw [ha]; rfl)
/-- mounts of a view; mounts on a mount -/
def mvT (I : ST) (v k : Int) : Int := if (I 50 0 k) = 1 ∧ (I 51 0 k) = v then 1 else 0
def bzT (I : ST) (m k : Int) : Int := if (I 50 0 k) = 1 ∧ (I 52 0 k) = m then 1 else 0
theorem mountsOf_ev (hA : WA e z) (hR : WR e) (hB : RB I) {v : Int} (v0 : -1 ≤ v) (v1 : v < 20) : Ev (fun F => J12_mountsOf F (rf e 12 0) (xk v) (HS e C I z)) (rI (sm (mvT I v) 80) (HS e C I z)) := by
  refine Ev.step (fun F => E12_mountsOf F _ _ _) ?_
  refine lpN (P := fun t => ∀ acc, 0 ≤ t → t ≤ 80 → acc = sm (mvT I v) t → Ev (fun F => J12_mountsOf_4 F (rf e 12 0) (xk v) (xk acc) (xk t) (HS e C I z)) (rI (sm (mvT I v) 80) (HS e C I z))) 80 (fun t ih acc t0 t1 ha => ?_) 0 0 (by omega) (by omega) rfl
  refine Ev.step (fun F => E12_mountsOf_4 F _ _ _ _ _) ?_
  simp (disch := omega) only [a_50 hA hR, a_51 hA hR, g_12_30 hA hR, g_12_31 hA hR, Option.bind_some, xk_add, xk_sub, xk_mul, xk_neg, lk_add, lN_z, rf_none, rb1, rb0, rbp, xk_nI, zk_eq, zk_lt, zk_eq0, zk_lt0, zk_0lt, zk_long, lz_lt, lz_gt, zmax, zmin, ↓reduceIte, Int.reduceEq, Int.reduceLT, Int.reduceNeg, Int.reduceAdd, Int.reduceSub, Int.reduceMul, Int.ofNat_eq_natCast, Int.cast_ofNat_Int]
  refine Ev.ite (fun h => ?_) (fun h => ?_)
  · have := RB.there hB (j := t) (by omega) (by omega)
    have := RB.viewOf hB (j := t) (by omega) (by omega)
    have ih := fun a => ih h a (by omega) (by omega)
    rw [sm_s t0, mvT, ← ha] at ih
    try simp (disch := omega) only [a_50 hA hR, a_51 hA hR, g_12_30 hA hR, g_12_31 hA hR, Option.bind_some, xk_add, xk_sub, xk_mul, xk_neg, lk_add, lN_z, rf_none, rb1, rb0, rbp, xk_nI, zk_eq, zk_lt, zk_eq0, zk_lt0, zk_0lt, zk_long, lz_lt, lz_gt, zmax, zmin, ↓reduceIte, Int.reduceEq, Int.reduceLT, Int.reduceNeg, Int.reduceAdd, Int.reduceSub, Int.reduceMul, Int.ofNat_eq_natCast, Int.cast_ofNat_Int]
    refine Ev.ite (fun hs => ih _ (by rw [if_neg (by omega)])) (fun hs => ?_)
    exact Ev.ite (fun hs => ih _ (by rw [if_pos (by omega)])) (fun hs => ih _ (by rw [if_neg (by omega)]))
  · have : t = 80 := by omega
    subst this
    exact Ev.ret (by rw [ha]; rfl)
/-- what lies on a place of a mount -/
def ToR (I : ST) (m d x : Int) : Prop := (-1 ≤ x ∧ x < 80) ∧ ∀ k, 0 ≤ k → k < 80 → (((I 50 0 k) = 1 ∧ (I 52 0 k) = m ∧ (I 53 0 k) = d) ↔ k = x)
theorem mountAt_ev (hA : WA e z) (hR : WR e) (hB : RB I) {m d x : Int} (m0 : -1 ≤ m) (m1 : m < 80) (d0 : -1 ≤ d) (d1 : d < 100) (hx : ToR I m d x) : Ev (fun F => J12_mountAt F (rf e 12 0) (xk m) (xk d) (HS e C I z)) (rI x (HS e C I z)) := by
  refine Ev.step (fun F => E12_mountAt F _ _ _ _) ?_
  refine lpN (P := fun t => 0 ≤ t → t ≤ 80 → (x = -1 ∨ t ≤ x) → Ev (fun F => J12_mountAt_2 F (rf e 12 0) (xk m) (xk d) (xk t) (HS e C I z)) (rI x (HS e C I z))) 80 (fun t ih t0 t1 ht => ?_) 0 (by omega) (by omega) (by have := hx.1; omega)
  refine Ev.step (fun F => E12_mountAt_2 F _ _ _ _ _) ?_
  simp (disch := omega) only [a_50 hA hR, a_52 hA hR, a_53 hA hR, g_12_30 hA hR, g_12_32 hA hR, g_12_33 hA hR, Option.bind_some, xk_add, xk_sub, xk_mul, xk_neg, lk_add, lN_z, rf_none, rb1, rb0, rbp, xk_nI, zk_eq, zk_lt, zk_eq0, zk_lt0, zk_0lt, zk_long, lz_lt, lz_gt, zmax, zmin, ↓reduceIte, Int.reduceEq, Int.reduceLT, Int.reduceNeg, Int.reduceAdd, Int.reduceSub, Int.reduceMul, Int.ofNat_eq_natCast, Int.cast_ofNat_Int]
  refine Ev.ite (fun h => ?_) (fun h => ?_)
  · have := RB.there hB (j := t) (by omega) (by omega)
    have := RB.inMount hB (j := t) (by omega) (by omega)
    have := RB.inPlace hB (j := t) (by omega) (by omega)
    have hq := hx.2 t t0 h
    try simp (disch := omega) only [a_50 hA hR, a_52 hA hR, a_53 hA hR, g_12_30 hA hR, g_12_32 hA hR, g_12_33 hA hR, Option.bind_some, xk_add, xk_sub, xk_mul, xk_neg, lk_add, lN_z, rf_none, rb1, rb0, rbp, xk_nI, zk_eq, zk_lt, zk_eq0, zk_lt0, zk_0lt, zk_long, lz_lt, lz_gt, zmax, zmin, ↓reduceIte, Int.reduceEq, Int.reduceLT, Int.reduceNeg, Int.reduceAdd, Int.reduceSub, Int.reduceMul, Int.ofNat_eq_natCast, Int.cast_ofNat_Int]
    have ih := ih h (by omega) (by omega)
    refine Ev.ite (fun hs => ih ?_) (fun hs => Ev.ite (fun hm => Ev.ite (fun hd => ?_) (fun hd => ih ?_)) (fun hm => ih ?_))
    · have : t ≠ x := fun q => by have := hq.mpr q; omega
      omega
    · have := hq.mp ⟨by omega, hm, hd⟩
      exact Ev.ret (by rw [this]; rfl)
    · have : t ≠ x := fun q => hd (hq.mpr q).2.2
      omega
    · have : t ≠ x := fun q => hm (hq.mpr q).2.1
      omega
  · have := hx.1
    exact Ev.ret (by rw [show x = -1 by omega]; rfl)
theorem isBusy_ev (hA : WA e z) (hR : WR e) (hB : RB I) {m : Int} (m0 : -1 ≤ m) (m1 : m < 80) : Ev (fun F => J12_isBusy F (rf e 12 0) (xk m) (HS e C I z)) (rI (bI (0 < sm (bzT I m) 80)) (HS e C I z)) := by
  have nn : ∀ k, 0 ≤ bzT I m k := fun k => by unfold bzT; split <;> decide
  refine Ev.step (fun F => E12_isBusy F _ _ _) ?_
  refine lpN (P := fun t => 0 ≤ t → t ≤ 80 → sm (bzT I m) t = 0 → Ev (fun F => J12_isBusy_2 F (rf e 12 0) (xk m) (xk t) (HS e C I z)) (rI (bI (0 < sm (bzT I m) 80)) (HS e C I z))) 80 (fun t ih t0 t1 ha => ?_) 0 (by omega) (by omega) rfl
  refine Ev.step (fun F => E12_isBusy_2 F _ _ _ _) ?_
  simp (disch := omega) only [a_50 hA hR, a_52 hA hR, g_12_30 hA hR, g_12_32 hA hR, Option.bind_some, xk_add, xk_sub, xk_mul, xk_neg, lk_add, lN_z, rf_none, rb1, rb0, rbp, xk_nI, zk_eq, zk_lt, zk_eq0, zk_lt0, zk_0lt, zk_long, lz_lt, lz_gt, zmax, zmin, ↓reduceIte, Int.reduceEq, Int.reduceLT, Int.reduceNeg, Int.reduceAdd, Int.reduceSub, Int.reduceMul, Int.ofNat_eq_natCast, Int.cast_ofNat_Int]
  refine Ev.ite (fun h => ?_) (fun h => ?_)
  · have := RB.there hB (j := t) (by omega) (by omega)
    have := RB.inMount hB (j := t) (by omega) (by omega)
    have ih := ih h (by omega) (by omega)
    rw [sm_s t0, ha, Int.zero_add] at ih
    try simp (disch := omega) only [a_50 hA hR, a_52 hA hR, g_12_30 hA hR, g_12_32 hA hR, Option.bind_some, xk_add, xk_sub, xk_mul, xk_neg, lk_add, lN_z, rf_none, rb1, rb0, rbp, xk_nI, zk_eq, zk_lt, zk_eq0, zk_lt0, zk_0lt, zk_long, lz_lt, lz_gt, zmax, zmin, ↓reduceIte, Int.reduceEq, Int.reduceLT, Int.reduceNeg, Int.reduceAdd, Int.reduceSub, Int.reduceMul, Int.ofNat_eq_natCast, Int.cast_ofNat_Int]
    refine Ev.ite (fun hs => ih (by rw [bzT, if_neg (by omega)])) (fun hs => ?_)
    refine Ev.ite (fun hm => ?_) (fun hm => ih (by rw [bzT, if_neg (by omega)]))
    have := sm_ge nn t0 h
    rw [show bzT I m t = 1 by rw [bzT, if_pos (by omega)]] at this
    exact Ev.ret (by rw [bI_t (by omega)]; rfl)
  · have : t = 80 := by omega
    subst this
    exact Ev.ret (by rw [bI_f (by omega)]; rfl)
theorem isPeer_ev (hA : WA e z) (hR : WR e) (hB : RB I) {k m p : Int} (k0 : 0 ≤ k) (k1 : k < 80) (m0 : 0 ≤ m) (m1 : m < 80) (p0 : 0 ≤ p) (p1 : p < 2147483648) (q0 : 0 ≤ (I 55 0 k)) (q1 : (I 55 0 k) < 2147483648) : Ev (fun F => J12_isPeer F (rf e 12 0) (xk k) (xk m) (xk p) (HS e C I z)) (rI (bI (k ≠ m ∧ (I 50 0 k) = 1 ∧ 0 < p ∧ (I 55 0 k) = p)) (HS e C I z)) := by
  have := RB.there hB (j := k) (by omega) (by omega)
  refine Ev.step (fun F => E12_isPeer F _ _ _ _ _) ?_
  simp (disch := omega) only [a_50 hA hR, a_55 hA hR, g_12_30 hA hR, g_12_35 hA hR, Option.bind_some, xk_add, xk_sub, xk_mul, xk_neg, lk_add, lN_z, rf_none, rb1, rb0, rbp, xk_nI, zk_eq, zk_lt, zk_eq0, zk_lt0, zk_0lt, zk_long, lz_lt, lz_gt, zmax, zmin, ↓reduceIte, Int.reduceEq, Int.reduceLT, Int.reduceNeg, Int.reduceAdd, Int.reduceSub, Int.reduceMul, Int.ofNat_eq_natCast, Int.cast_ofNat_Int]
  refine Ev.ite (fun h => Ev.ret (by rw [bI_f (by omega)]; rfl)) (fun h => ?_)
  refine Ev.ite (fun h => Ev.ret (by rw [bI_f (by omega)]; rfl)) (fun h => ?_)
  refine Ev.ite (fun h => ?_) (fun h => Ev.ret (by rw [bI_f (by omega)]; rfl))
  exact Ev.ite (fun h => Ev.ret (by rw [bI_t (by omega)]; rfl)) (fun h => Ev.ret (by rw [bI_f (by omega)]; rfl))
theorem isReadyR_ev (hA : WA e z) (hR : WR e) (hB : RB I) {g : Int} (k0 : 0 ≤ g) (k1 : g < 20) (q0 : 0 ≤ (I 44 0 g)) (q1 : (I 44 0 g) < 2147483648) : Ev (fun F => J12_isReady F (rf e 12 0) (xk g) (HS e C I z)) (rI (bI ((I 59 0 g) = 1 ∧ ((I 42 0 g) = 0 ∨ (I 44 0 g) < (I 42 0 g)))) (HS e C I z)) := by
  have := RB.has hB (j := g) (by omega) (by omega)
  have := RB.quota hB (j := g) (by omega) (by omega)
  refine Ev.step (fun F => E12_isReady F _ _ _) ?_
  simp (disch := omega) only [a_42 hA hR, a_44 hA hR, a_59 hA hR, g_12_22 hA hR, g_12_24 hA hR, g_12_39 hA hR, Option.bind_some, xk_add, xk_sub, xk_mul, xk_neg, lk_add, lN_z, rf_none, rb1, rb0, rbp, xk_nI, zk_eq, zk_lt, zk_eq0, zk_lt0, zk_0lt, zk_long, lz_lt, lz_gt, zmax, zmin, ↓reduceIte, Int.reduceEq, Int.reduceLT, Int.reduceNeg, Int.reduceAdd, Int.reduceSub, Int.reduceMul, Int.ofNat_eq_natCast, Int.cast_ofNat_Int]
  refine Ev.ite (fun h => Ev.ret (by rw [bI_f (by omega)]; rfl)) (fun h => ?_)
  refine Ev.ite (fun h => Ev.ret (by rw [bI_t (by omega)]; rfl)) (fun h => ?_)
  exact Ev.ite (fun h => Ev.ret (by rw [bI_t (by omega)]; rfl)) (fun h => Ev.ret (by rw [bI_f (by omega)]; rfl))
end RA
end
section
/-! the reference: how tasks end -/
/-- all tasks with c are forgotten -/
def fgA (I : ST) (c : Int → Bool) : ST := fun k i j => if k = 22 ∧ i = 0 ∧ c j = true then 2 else if k = 23 ∧ i = 0 ∧ c j = true then -1 else if k = 32 ∧ i = 0 ∧ c (j / 20) = true then 0 else I k i j
def fgI (I : ST) (t : Int) : ST := fgA I (fun k => decide (k = t))
def heI (I : ST) (t : Int) : Int := if (I 35 0 ((I 24 0 t))) = t then (I 35 0 ((I 34 0 ((I 24 0 t))))) else (I 35 0 ((I 24 0 t)))
/-- task t ends; children below n have gone to h -/
def enN (I : ST) (t h n : Int) : ST := fun k i j => if k = 22 ∧ i = 0 ∧ j = t then 1 else if k = 27 ∧ i = 0 ∧ j = t then 0 else if k = 23 ∧ i = 0 ∧ 0 ≤ j ∧ j < n ∧ I 22 0 j ≠ 2 ∧ I 23 0 j = t then h else I k i j
def enI (I : ST) (t : Int) : ST := enN I t (heI I t) (I 12 0 1)
section RA
variable {e : EN} {C I : ST} {z : Nat × Nat × Nat × Nat}
theorem RB.u2 (hB : RB I) {t : Int} {x : Int} : RB (fun k i j => if k = 32 ∧ i = 0 ∧ 20 * t ≤ j ∧ j < 20 * t + x then 0 else I k i j) := by
  obtain ⟨h1, h2, h3, h4, h5, h6⟩ := hB
  refine ⟨fun r hr a a0 a1 => ?_, fun g g0 g1 => ?_, ?_, ?_, ?_, ?_⟩
  · have := h1 r hr a a0 a1
    dsimp only
    split
    · rename_i hh
      have hh2 : ∀ r ∈ rbt, r.1 = 32 → r.2.1 = 0 ∧ r.2.2.1 = 40 := by decide
      have := hh2 r hr hh.1
      omega
    · exact this
  · have := h2 g g0 g1
    simpa using this
  all_goals simpa
theorem RB.fg (hB : RB I) (c : Int → Bool) : RB (fgA I c) := by
  obtain ⟨h1, h2, h3, h4, h5, h6⟩ := hB
  refine ⟨fun r hr a a0 a1 => ?_, fun g g0 g1 => ?_, ?_, ?_, ?_, ?_⟩
  · have := h1 r hr a a0 a1
    have e1 : ∀ r ∈ rbt, r.1 = 22 → r.2.1 = 0 ∧ r.2.2.1 = 2 := by decide
    have e2 : ∀ r ∈ rbt, r.1 = 23 → r.2.1 = -1 ∧ r.2.2.1 = 149 := by decide
    have e3 : ∀ r ∈ rbt, r.1 = 32 → r.2.1 = 0 ∧ r.2.2.1 = 40 := by decide
    unfold fgA
    split
    · rename_i hh; have := e1 r hr hh.1; omega
    · split
      · rename_i hh; have := e2 r hr hh.1; omega
      · split
        · rename_i hh; have := e3 r hr hh.1; omega
        · exact this
  · have := h2 g g0 g1
    simpa [fgA] using this
  all_goals simpa [fgA]
theorem forget_ev (hA : WA e z) (hR : WR e) (hB : RB I) {t : Int} (t0 : 0 ≤ t) (t1 : t < 150) : Ev (fun F => J12_forget F (rf e 12 0) (xk t) (HS e C I z)) (rV (HS e C (fgI I t) z)) := by
  refine Ev.step (fun F => E12_forget F _ _ _) ?_
  simp (disch := omega) only [g_12_2 hA hR, g_12_3 hA hR, s_22 hA hR, s_23 hA hR, Option.bind_some, up_s, up_k, up_j, up_i, xk_add, xk_sub, xk_mul, xk_neg, lk_add, lN_z, rf_none, rb1, rb0, rbp, xk_nI, zk_eq, zk_lt, zk_eq0, zk_lt0, zk_0lt, zk_long, lz_lt, lz_gt, zmax, zmin, ↓reduceIte, Int.reduceEq, Int.reduceLT, Int.reduceNeg, Int.reduceAdd, Int.reduceSub, Int.reduceMul, Int.ofNat_eq_natCast, Int.cast_ofNat_Int]
  refine lpN (P := fun s => ∀ I', 0 ≤ s → s ≤ 20 → I' = (fun k i j => if k = 32 ∧ i = 0 ∧ 20 * t ≤ j ∧ j < 20 * t + s then 0 else (up (up I 22 0 t 2) 23 0 t (-1)) k i j) → Ev (fun F => J12_forget_16 F (rf e 12 0) (xk t) (xk s) (HS e C I' z)) (rV (HS e C (fgI I t) z))) 20 (fun s ih I' s0 s1 hI => ?_) 0 _ (by omega) (by omega) ?_
  · refine Ev.step (fun F => E12_forget_16 F _ _ _ _) ?_
    simp (disch := omega) only [g_12_12 hA hR, s_32 hA hR, Option.bind_some, up_s, up_k, up_j, up_i, xk_add, xk_sub, xk_mul, xk_neg, lk_add, lN_z, rf_none, rb1, rb0, rbp, xk_nI, zk_eq, zk_lt, zk_eq0, zk_lt0, zk_0lt, zk_long, lz_lt, lz_gt, zmax, zmin, ↓reduceIte, Int.reduceEq, Int.reduceLT, Int.reduceNeg, Int.reduceAdd, Int.reduceSub, Int.reduceMul, Int.ofNat_eq_natCast, Int.cast_ofNat_Int]
    refine Ev.ite (fun h => ?_) (fun h => ?_)
    · refine ih h _ (by omega) (by omega) ?_
      rw [hI]
      funext k i j
      simp only [up]
      repeat' split
      all_goals first | rfl | (exfalso; omega)
    · refine Ev.ret ?_
      rw [hI]
      have : s = 20 := by omega
      subst this
      unfold rV
      congr 2
      funext k i j
      simp only [up, fgI, fgA, decide_eq_true_eq]
      repeat' split
      all_goals first | rfl | (exfalso; omega)
  · funext k i j
    simp only [up]
    repeat' split
    all_goals first | rfl | (exfalso; omega)
theorem end_ev (hA : WA e z) (hR : WR e) (hB : RB I) {t : Int} (t0 : 0 ≤ t) (t1 : t < (I 12 0 1)) (ht : (I 22 0 t) ≠ 2) (hr : (I 35 0 ((I 24 0 t))) = t → 0 ≤ (I 34 0 ((I 24 0 t)))) : Ev (fun F => J12_end F (rf e 12 0) (xk t) (HS e C I z)) (rV (HS e C (enI I t) z)) := by
  have := RB.tasks hB
  have := RB.space hB (j := t) (by omega) (by omega)
  have := RB.init hB (j := ((I 24 0 t))) (by omega) (by omega)
  have := RB.around hB (j := ((I 24 0 t))) (by omega) (by omega)
  have hq : ∀ (h n : Int) (I' : ST), I' = enN I t h n → h = heI I t → -1 ≤ h → h ≤ 149 → 0 ≤ n → n ≤ (I 12 0 1) → Ev (fun F => J12_end_55 F (rf e 12 0) (xk t) (xk h) (xk n) (HS e C I' z)) (rV (HS e C (enI I t) z)) := by
    intro h n I' hI hh h0 h1
    refine lpN (P := fun n => ∀ I', I' = enN I t h n → 0 ≤ n → n ≤ (I 12 0 1) → Ev (fun F => J12_end_55 F (rf e 12 0) (xk t) (xk h) (xk n) (HS e C I' z)) (rV (HS e C (enI I t) z))) (I 12 0 1) (fun n ih I' hI n0 n1 => ?_) n I' hI
    have e1 : I' 12 0 1 = (I 12 0 1) := by rw [hI]; simp [enN]
    refine Ev.step (fun F => E12_end_55 F _ _ _ _ _) ?_
    simp (disch := omega) only [a_22 hA hR, a_23 hA hR, g_12_1 hA hR, g_12_2 hA hR, g_12_3 hA hR, s_22 hA hR, s_23 hA hR, Option.bind_some, up_s, up_k, up_j, up_i, xk_add, xk_sub, xk_mul, xk_neg, lk_add, lN_z, rf_none, rb1, rb0, rbp, xk_nI, zk_eq, zk_lt, zk_eq0, zk_lt0, zk_0lt, zk_long, lz_lt, lz_gt, zmax, zmin, ↓reduceIte, Int.reduceEq, Int.reduceLT, Int.reduceNeg, Int.reduceAdd, Int.reduceSub, Int.reduceMul, Int.ofNat_eq_natCast, Int.cast_ofNat_Int, e1]
    refine Ev.ite (fun hlt => ?_) (fun hlt => ?_)
    · have ih := fun I' h => ih hlt I' h (by omega) (by omega)
      have := RB.state hB (j := n) (by omega) (by omega)
      have := RB.parent hB (j := n) (by omega) (by omega)
      have e2 : I' 22 0 n = if n = t then 1 else (I 22 0 n) := by rw [hI]; simp [enN]
      have e3 : I' 23 0 n = (I 23 0 n) := by rw [hI]; simp [enN]
      have e5 : -1 ≤ I' 22 0 n ∧ I' 22 0 n ≤ 2 := by rw [e2]; split <;> omega
      try simp (disch := omega) only [a_22 hA hR, a_23 hA hR, g_12_1 hA hR, g_12_2 hA hR, g_12_3 hA hR, s_22 hA hR, s_23 hA hR, Option.bind_some, up_s, up_k, up_j, up_i, xk_add, xk_sub, xk_mul, xk_neg, lk_add, lN_z, rf_none, rb1, rb0, rbp, xk_nI, zk_eq, zk_lt, zk_eq0, zk_lt0, zk_0lt, zk_long, lz_lt, lz_gt, zmax, zmin, ↓reduceIte, Int.reduceEq, Int.reduceLT, Int.reduceNeg, Int.reduceAdd, Int.reduceSub, Int.reduceMul, Int.ofNat_eq_natCast, Int.cast_ofNat_Int, e3]
      refine Ev.ite (fun hs => ?_) (fun hs => ?_)
      · refine ih _ ?_
        rw [hI]
        rw [e2] at hs
        have hs : (I 22 0 n) = 2 := by split at hs <;> omega
        funext k i j
        simp only [up, enN]
        by_cases hj : j = n
        · subst hj
          repeat' split
          all_goals first | rfl | (exfalso; omega)
        · repeat' split
          all_goals first | rfl | (exfalso; omega)
      · have hs : (I 22 0 n) ≠ 2 := by
          rw [e2] at hs
          intro q
          by_cases hn : n = t
          · subst hn
            exact ht q
          · rw [if_neg hn] at hs
            exact hs q
        refine Ev.ite (fun hp => ?_) (fun hp => ?_)
        · refine ih _ ?_
          rw [hI]
          funext k i j
          simp only [up, enN]
          by_cases hj : j = n
          · subst hj
            repeat' split
            all_goals first | rfl | (exfalso; omega)
          · repeat' split
            all_goals first | rfl | (exfalso; omega)
        · refine ih _ ?_
          rw [hI]
          funext k i j
          simp only [up, enN]
          by_cases hj : j = n
          · subst hj
            repeat' split
            all_goals first | rfl | (exfalso; omega)
          · repeat' split
            all_goals first | rfl | (exfalso; omega)
    · refine Ev.ret ?_
      have : n = (I 12 0 1) := by omega
      subst this
      rw [hI, hh]
      rfl
  refine Ev.step (fun F => E12_end F _ _ _) ?_
  simp (disch := omega) only [a_22 hA hR, a_24 hA hR, a_27 hA hR, a_34 hA hR, a_35 hA hR, g_12_14 hA hR, g_12_15 hA hR, g_12_2 hA hR, g_12_4 hA hR, g_12_7 hA hR, s_22 hA hR, s_24 hA hR, s_27 hA hR, s_34 hA hR, s_35 hA hR, Option.bind_some, up_s, up_k, up_j, up_i, xk_add, xk_sub, xk_mul, xk_neg, lk_add, lN_z, rf_none, rb1, rb0, rbp, xk_nI, zk_eq, zk_lt, zk_eq0, zk_lt0, zk_0lt, zk_long, lz_lt, lz_gt, zmax, zmin, ↓reduceIte, Int.reduceEq, Int.reduceLT, Int.reduceNeg, Int.reduceAdd, Int.reduceSub, Int.reduceMul, Int.ofNat_eq_natCast, Int.cast_ofNat_Int]
  refine Ev.ite (fun h => ?_) (fun h => ?_)
  · have := hr h
    have := RB.arw hB (j := ((I 24 0 t))) (by omega) (by omega)
    have := RB.init hB (j := ((I 34 0 ((I 24 0 t))))) (by omega) (by omega)
    try simp (disch := omega) only [a_22 hA hR, a_24 hA hR, a_27 hA hR, a_34 hA hR, a_35 hA hR, g_12_14 hA hR, g_12_15 hA hR, g_12_2 hA hR, g_12_4 hA hR, g_12_7 hA hR, s_22 hA hR, s_24 hA hR, s_27 hA hR, s_34 hA hR, s_35 hA hR, Option.bind_some, up_s, up_k, up_j, up_i, xk_add, xk_sub, xk_mul, xk_neg, lk_add, lN_z, rf_none, rb1, rb0, rbp, xk_nI, zk_eq, zk_lt, zk_eq0, zk_lt0, zk_0lt, zk_long, lz_lt, lz_gt, zmax, zmin, ↓reduceIte, Int.reduceEq, Int.reduceLT, Int.reduceNeg, Int.reduceAdd, Int.reduceSub, Int.reduceMul, Int.ofNat_eq_natCast, Int.cast_ofNat_Int]
    refine hq _ 0 _ ?_ (by rw [heI, if_pos h]) (by omega) (by omega) (by omega) (by omega)
    funext k i j
    simp only [up, enN]
    repeat' split
    all_goals first | rfl | (exfalso; omega)
  · refine hq _ 0 _ ?_ (by rw [heI, if_neg h]) (by omega) (by omega) (by omega) (by omega)
    funext k i j
    simp only [up, enN]
    repeat' split
    all_goals first | rfl | (exfalso; omega)
end RA
end
section
/-! the reference: leave -/
theorem lin_c {I I' : ST} (h : ∀ k, I' 34 0 k = I 34 0 k) : lin I' = lin I := by
  funext k o
  unfold lin
  rw [show (fun k => I' 34 0 k) = (fun k => I 34 0 k) from funext h]
theorem win_c {I I' : ST} (h : ∀ k, I' 38 0 k = I 38 0 k) : win I' = win I := by
  funext k o
  unfold win
  rw [show (fun k => I' 38 0 k) = (fun k => I 38 0 k) from funext h]
theorem fgI_fgA {I : ST} {c : Int → Bool} {x : Int} : fgI (fgA I c) x = fgA I (fun k => c k || decide (k = x)) := by
  funext k i j
  simp only [fgI, fgA, Bool.or_eq_true, decide_eq_true_eq]
  grind (splits := 20)
/-- the others in the space of t, and within -/
def emD (I : ST) (t j : Int) : Bool := decide (0 ≤ j ∧ j < (I 12 0 1) ∧ j ≠ t ∧ (I 22 0 j) ≠ 2) && lin I ((I 24 0 j)) ((I 24 0 t))
theorem emD_i {I : ST} {t j : Int} : emD I t j = true ↔ (0 ≤ j ∧ j < (I 12 0 1) ∧ j ≠ t ∧ (I 22 0 j) ≠ 2) ∧ lin I ((I 24 0 j)) ((I 24 0 t)) = true := by
  unfold emD
  rw [Bool.and_eq_true, decide_eq_true_eq]
def emP (I : ST) (t : Int) : ST := fun k i j => if k = 27 ∧ i = 0 ∧ emD I t j = true ∧ (I 22 0 j) = 0 then 0 else I k i j
def emI (I : ST) (t : Int) : ST := fgA (emP I t) (emD I t)
def emN (I : ST) (t j : Int) : Int := if emD I t j = true ∧ (I 22 0 j) = 0 then 1 else 0
/-- lost zombies -/
def lzC (I : ST) (k : Int) : Bool := decide (0 ≤ k ∧ k < (I 12 0 1) ∧ (I 22 0 k) = 1 ∧ ((I 23 0 k) ≤ 0 ∨ (I 22 0 ((I 23 0 k))) ≠ 0))
def lzI (I : ST) : ST := fgA I (lzC I)
def lvI (I : ST) (t : Int) : ST := lzI (if (I 35 0 ((I 24 0 t))) = t then emI (enI I t) t else enI I t)
def lvN (I : ST) (t : Int) : Int := 1 + (if (I 35 0 ((I 24 0 t))) = t then sm (emN (enI I t) t) (I 12 0 1) else 0)
def RA1 (I : ST) (t x : Int) (I' : ST) : Prop := (∀ k i j, ¬ (i = 0 ∧ (k = 22 ∨ k = 23 ∨ k = 27)) → I' k i j = I k i j) ∧ (∀ j, I' 22 0 j = if emD I t j = true ∧ j < x ∧ I 22 0 j = 0 then 1 else I 22 0 j) ∧ (∀ j, I' 27 0 j = if emD I t j = true ∧ j < x ∧ I 22 0 j = 0 then 0 else I 27 0 j) ∧ (∀ j, emD I t j = false → I' 23 0 j = I 23 0 j) ∧ (∀ j, 0 ≤ j → j < 150 → -1 ≤ I' 23 0 j ∧ I' 23 0 j ≤ 149)
def RA2 (I : ST) (t x : Int) (I' : ST) : Prop := (∀ k i j, ¬ (i = 0 ∧ (k = 22 ∨ k = 23 ∨ k = 27 ∨ k = 32)) → I' k i j = I k i j) ∧ (∀ j, I' 22 0 j = if emD I t j = true then (if j < x then 2 else 1) else I 22 0 j) ∧ (∀ j, I' 27 0 j = if emD I t j = true ∧ I 22 0 j = 0 then 0 else I 27 0 j) ∧ (∀ j, emD I t j = false → I' 23 0 j = I 23 0 j) ∧ (∀ j, 0 ≤ j → j < 150 → -1 ≤ I' 23 0 j ∧ I' 23 0 j ≤ 149) ∧ (∀ j, emD I t j = true → j < x → I' 23 0 j = -1) ∧ (∀ j, I' 32 0 j = if emD I t (j / 20) = true ∧ j / 20 < x then 0 else I 32 0 j)
theorem RA1.rb {I I' : ST} {t x : Int} (h : RA1 I t x I') (hB : RB I) : RB I' := by
  obtain ⟨g1, g2, g3, g4, g5⟩ := h
  obtain ⟨h1, h2, h3, h4, h5, h6⟩ := hB
  refine ⟨fun r hr a a0 a1 => ?_, fun g k0 k1 => ?_, ?_, ?_, ?_, ?_⟩
  · have b := h1 r hr a a0 a1
    by_cases e22 : r.1 = 22
    · have hh : ∀ r ∈ rbt, r.1 = 22 → r.2.1 = 0 ∧ r.2.2.1 = 2 := by decide
      have := hh r hr e22
      rw [e22, g2 a]
      rw [e22] at b
      split <;> omega
    · by_cases e27 : r.1 = 27
      · have hh : ∀ r ∈ rbt, r.1 = 27 → r.2.1 = 0 ∧ r.2.2.1 = 1000000 := by decide
        have := hh r hr e27
        rw [e27, g3 a]
        rw [e27] at b
        split <;> omega
      · by_cases e23 : r.1 = 23
        · have hh : ∀ r ∈ rbt, r.1 = 23 → r.2.1 = -1 ∧ r.2.2.1 = 149 ∧ r.2.2.2 = 150 := by decide
          have := hh r hr e23
          have := g5 a a0 (by omega)
          rw [e23]
          omega
        · rw [g1 _ _ _ (by omega)]
          exact b
  · rw [g1 _ _ _ (by omega), g1 _ _ _ (by omega)]
    exact h2 g k0 k1
  all_goals
    rw [g1 _ _ _ (by omega)]
    assumption
theorem RA2.rb {I I' : ST} {t x : Int} (h : RA2 I t x I') (hB : RB I) : RB I' := by
  obtain ⟨g1, g2, g3, g4, g5, g6, g7⟩ := h
  obtain ⟨h1, h2, h3, h4, h5, h6⟩ := hB
  refine ⟨fun r hr a a0 a1 => ?_, fun g k0 k1 => ?_, ?_, ?_, ?_, ?_⟩
  · have b := h1 r hr a a0 a1
    by_cases e22 : r.1 = 22
    · have hh : ∀ r ∈ rbt, r.1 = 22 → r.2.1 = 0 ∧ r.2.2.1 = 2 := by decide
      have := hh r hr e22
      rw [e22, g2 a]
      rw [e22] at b
      split
      · split <;> omega
      · omega
    · by_cases e27 : r.1 = 27
      · have hh : ∀ r ∈ rbt, r.1 = 27 → r.2.1 = 0 ∧ r.2.2.1 = 1000000 := by decide
        have := hh r hr e27
        rw [e27, g3 a]
        rw [e27] at b
        split <;> omega
      · by_cases e23 : r.1 = 23
        · have hh : ∀ r ∈ rbt, r.1 = 23 → r.2.1 = -1 ∧ r.2.2.1 = 149 ∧ r.2.2.2 = 150 := by decide
          have := hh r hr e23
          have := g5 a a0 (by omega)
          rw [e23]
          omega
        · by_cases e32 : r.1 = 32
          · have hh : ∀ r ∈ rbt, r.1 = 32 → r.2.1 = 0 ∧ r.2.2.1 = 40 := by decide
            have := hh r hr e32
            rw [e32, g7 a]
            rw [e32] at b
            split <;> omega
          · rw [g1 _ _ _ (by omega)]
            exact b
  · rw [g1 _ _ _ (by omega), g1 _ _ _ (by omega)]
    exact h2 g k0 k1
  all_goals
    rw [g1 _ _ _ (by omega)]
    assumption
/-- what t's space holds is closed under children -/
def emCl (I : ST) (t : Int) : Prop := (∀ j, 0 ≤ j → j < (I 12 0 1) → (I 22 0 j) ≠ 2 → emD I t (I 23 0 j) = true → emD I t j = true) ∧ ∀ j, emD I t j = true → (I 35 0 ((I 24 0 j))) = j → 0 ≤ (I 34 0 ((I 24 0 j)))
theorem RA1.s1 {I I' : ST} {t x : Int} (h : RA1 I t x I') (hB : RB I) (hc : emCl I t) (hx : emD I t x = true) (hl : (I 22 0 x) = 0) : RA1 I t (x + 1) (enI I' x) := by
  have hB' := h.rb hB
  obtain ⟨g1, g2, g3, g4, g5⟩ := h
  have hx' := (emD_i.mp hx).1
  have tk := RB.tasks hB
  have hh : -1 ≤ heI I' x ∧ heI I' x ≤ 149 := by
    have b1 := RB.space hB' (j := x) (by omega) (by omega)
    have b2 := RB.init hB' (j := I' 24 0 x) (by omega) (by omega)
    unfold heI
    split
    · rename_i q
      have := hc.2 x hx (by rw [← g1 24 0 x (by omega), ← g1 35 0 _ (by omega)]; exact q)
      have b3 := RB.around hB' (j := I' 24 0 x) (by omega) (by omega)
      have b4 := g1 34 0 (I' 24 0 x) (by omega)
      have b5 := g1 24 0 x (by omega)
      rw [← b5, ← b4] at this
      have b6 := RB.init hB' (j := I' 34 0 (I' 24 0 x)) (by omega) (by omega)
      omega
    · omega
  have et : I' 12 0 1 = I 12 0 1 := g1 12 0 1 (by omega)
  refine ⟨fun k i j hk => ?_, fun j => ?_, fun j => ?_, fun j hj => ?_, fun j j0 j1 => ?_⟩
  · rw [← g1 k i j hk]
    unfold enI enN
    rw [if_neg (by omega), if_neg (by omega), if_neg (by omega)]
  · unfold enI enN
    rw [if_neg (c := 22 = 27 ∧ _) (by omega), if_neg (c := 22 = 23 ∧ _) (by omega), g2 j]
    by_cases hj : j = x
    · subst hj
      rw [if_pos ⟨rfl, rfl, rfl⟩, if_pos ⟨hx, by omega, hl⟩]
    · rw [if_neg (by omega)]
      by_cases hd : emD I t j = true ∧ j < x ∧ I 22 0 j = 0
      · rw [if_pos hd, if_pos ⟨hd.1, by omega, hd.2.2⟩]
      · rw [if_neg hd, if_neg (fun q => hd ⟨q.1, by omega, q.2.2⟩)]
  · unfold enI enN
    rw [if_neg (c := 27 = 22 ∧ _) (by omega), if_neg (c := 27 = 23 ∧ _) (by omega), g3 j]
    by_cases hj : j = x
    · subst hj
      rw [if_pos ⟨rfl, rfl, rfl⟩, if_pos ⟨hx, by omega, hl⟩]
    · rw [if_neg (by omega)]
      by_cases hd : emD I t j = true ∧ j < x ∧ I 22 0 j = 0
      · rw [if_pos hd, if_pos ⟨hd.1, by omega, hd.2.2⟩]
      · rw [if_neg hd, if_neg (fun q => hd ⟨q.1, by omega, q.2.2⟩)]
  · unfold enI enN
    rw [if_neg (c := 23 = 22 ∧ _) (by omega), if_neg (c := 23 = 27 ∧ _) (by omega), et, g4 j hj]
    rw [if_neg]
    rintro ⟨-, -, q1, q2, q3, q4⟩
    have q5 : I 22 0 j ≠ 2 := by
      intro q
      rw [g2 j, if_neg (by omega)] at q3
      exact q3 q
    have := hc.1 j q1 q2 q5 (by rw [q4]; exact hx)
    rw [hj] at this
    exact absurd this (by decide)
  · have := g5 j j0 j1
    unfold enI enN
    rw [if_neg (c := 23 = 22 ∧ _) (by omega), if_neg (c := 23 = 27 ∧ _) (by omega)]
    split
    · exact hh
    · exact this
section RA
variable {e : EN} {C I : ST} {z : Nat × Nat × Nat × Nat}
theorem leave149_ev (hA : WA e z) (hR : WR e) (hB : RB I) {n : Int} : Ev (fun F => J12_leave_149 F (rf e 12 0) (xk n) (xk 0) (HS e C I z)) (rI n (HS e C (lzI I) z)) := by
  have := RB.tasks hB
  refine lpN (P := fun x => ∀ I', I' = fgA I (fun k => lzC I k && decide (k < x)) → 0 ≤ x → x ≤ (I 12 0 1) → Ev (fun F => J12_leave_149 F (rf e 12 0) (xk n) (xk x) (HS e C I' z)) (rI n (HS e C (lzI I) z))) (I 12 0 1) (fun x ih I' hI x0 x1 => ?_) 0 _ ?_ (by omega) (by omega)
  · have hB' : RB I' := hI ▸ RB.fg hB _
    have e1 : I' 12 0 1 = (I 12 0 1) := by rw [hI]; simp [fgA]
    refine Ev.step (fun F => E12_leave_149 F _ _ _ _) ?_
    simp (disch := omega) only [a_22 hA hR, a_23 hA hR, d_12 hA hR, g_12_1 hA hR, g_12_2 hA hR, g_12_3 hA hR, Option.bind_some, up_s, up_k, up_j, up_i, xk_add, xk_sub, xk_mul, xk_neg, lk_add, lN_z, rf_none, rb1, rb0, rbp, xk_nI, zk_eq, zk_lt, zk_eq0, zk_lt0, zk_0lt, zk_long, lz_lt, lz_gt, zmax, zmin, ↓reduceIte, Int.reduceEq, Int.reduceLT, Int.reduceNeg, Int.reduceAdd, Int.reduceSub, Int.reduceMul, Int.ofNat_eq_natCast, Int.cast_ofNat_Int, e1]
    refine Ev.ite (fun h => ?_) (fun h => ?_)
    · have ih := fun I' h' => ih h I' h' (by omega) (by omega)
      have e2 : I' 22 0 x = (I 22 0 x) := by rw [hI]; simp [fgA]
      have e3 : I' 23 0 x = (I 23 0 x) := by rw [hI]; simp [fgA]
      have := RB.state hB (j := x) (by omega) (by omega)
      have := RB.parent hB (j := x) (by omega) (by omega)
      have hn : lzC I x = false → I' = fgA I (fun k => lzC I k && decide (k < x + 1)) := by
        intro q
        rw [hI]
        congr 1
        funext k
        by_cases hk : k = x
        · rw [hk, q]; rfl
        · rw [show decide (k < x) = decide (k < x + 1) from decide_eq_decide.mpr (by omega)]
      have hy : lzC I x = true → fgI I' x = fgA I (fun k => lzC I k && decide (k < x + 1)) := by
        intro q
        rw [hI, fgI_fgA]
        congr 1
        funext k
        by_cases hk : k = x
        · rw [hk, q]; simp; omega
        · rw [show decide (k < x) = decide (k < x + 1) from decide_eq_decide.mpr (by omega), decide_eq_false hk, Bool.or_false]
      simp only [e2, e3]
      try simp (disch := omega) only [a_22 hA hR, a_23 hA hR, d_12 hA hR, g_12_1 hA hR, g_12_2 hA hR, g_12_3 hA hR, Option.bind_some, up_s, up_k, up_j, up_i, xk_add, xk_sub, xk_mul, xk_neg, lk_add, lN_z, rf_none, rb1, rb0, rbp, xk_nI, zk_eq, zk_lt, zk_eq0, zk_lt0, zk_0lt, zk_long, lz_lt, lz_gt, zmax, zmin, ↓reduceIte, Int.reduceEq, Int.reduceLT, Int.reduceNeg, Int.reduceAdd, Int.reduceSub, Int.reduceMul, Int.ofNat_eq_natCast, Int.cast_ofNat_Int]
      refine Ev.ite (fun hs => ?_) (fun hs => ih _ (hn (by unfold lzC; simp; omega)))
      refine Ev.ite (fun hp => ?_) (fun hp => ?_)
      · have e4 : (I' 22 0 (I 23 0 x) = 0) = ((I 22 0 ((I 23 0 x))) = 0) := by
          rw [hI]
          simp only [fgA, lzC, Bool.and_eq_true, decide_eq_true_eq]
          grind
        try simp (disch := omega) only [a_22 hA hR, a_23 hA hR, d_12 hA hR, g_12_1 hA hR, g_12_2 hA hR, g_12_3 hA hR, Option.bind_some, up_s, up_k, up_j, up_i, xk_add, xk_sub, xk_mul, xk_neg, lk_add, lN_z, rf_none, rb1, rb0, rbp, xk_nI, zk_eq, zk_lt, zk_eq0, zk_lt0, zk_0lt, zk_long, lz_lt, lz_gt, zmax, zmin, ↓reduceIte, Int.reduceEq, Int.reduceLT, Int.reduceNeg, Int.reduceAdd, Int.reduceSub, Int.reduceMul, Int.ofNat_eq_natCast, Int.cast_ofNat_Int, e4]
        have := RB.state hB (j := ((I 23 0 x))) (by omega) (by omega)
        have b5 := RB.state hB' (j := (I 23 0 x)) (by omega) (by omega)
        try simp (disch := omega) only [a_22 hA hR, a_23 hA hR, d_12 hA hR, g_12_1 hA hR, g_12_2 hA hR, g_12_3 hA hR, Option.bind_some, up_s, up_k, up_j, up_i, xk_add, xk_sub, xk_mul, xk_neg, lk_add, lN_z, rf_none, rb1, rb0, rbp, xk_nI, zk_eq, zk_lt, zk_eq0, zk_lt0, zk_0lt, zk_long, lz_lt, lz_gt, zmax, zmin, ↓reduceIte, Int.reduceEq, Int.reduceLT, Int.reduceNeg, Int.reduceAdd, Int.reduceSub, Int.reduceMul, Int.ofNat_eq_natCast, Int.cast_ofNat_Int, e4]
        refine Ev.ite (fun hq => ih _ (hn (by unfold lzC; simp; omega))) (fun hq => ?_)
        refine Ev.kV (forget_ev hA hR hB' x0 (by omega)) (ih _ (hy ?_))
        unfold lzC
        simp
        omega
      · refine Ev.kV (forget_ev hA hR hB' x0 (by omega)) (ih _ (hy ?_))
        unfold lzC
        simp
        omega
    · refine Ev.ret ?_
      rw [hI]
      have : x = (I 12 0 1) := by omega
      subst this
      unfold rI lzI
      congr 3
      funext k
      by_cases hk : lzC I k = true
      · have := hk
        unfold lzC at this
        rw [decide_eq_true_eq] at this
        rw [hk, decide_eq_true (by omega)]; rfl
      · rw [Bool.not_eq_true] at hk
        rw [hk]; rfl
  · unfold fgA
    funext k i j
    rw [if_neg, if_neg, if_neg]
    all_goals
      simp only [Bool.and_eq_true, decide_eq_true_eq, lzC]
      omega
end RA
end
section
/-! the reference: leave, the rest -/
theorem emD_v {I : ST} {t j : Int} (h : emD I t j = true) : 0 ≤ j ∧ j < (I 12 0 1) ∧ j ≠ t ∧ (I 22 0 j) ≠ 2 := (emD_i.mp h).1
theorem RA1.z {I : ST} {t : Int} (hB : RB I) : RA1 I t 0 I := by
  refine ⟨fun _ _ _ _ => rfl, fun j => ?_, fun j => ?_, fun _ _ => rfl, fun j j0 j1 => RB.parent hB j0 j1⟩
  · rw [if_neg]
    intro q
    have := emD_v q.1
    omega
  · rw [if_neg]
    intro q
    have := emD_v q.1
    omega
theorem RA1.s0 {I I' : ST} {t x : Int} (h : RA1 I t x I') (hx : ¬ (emD I t x = true ∧ (I 22 0 x) = 0)) : RA1 I t (x + 1) I' := by
  obtain ⟨g1, g2, g3, g4, g5⟩ := h
  refine ⟨g1, fun j => ?_, fun j => ?_, g4, g5⟩
  · rw [g2 j]
    by_cases hj : j = x
    · subst hj
      rw [if_neg (by omega), if_neg (fun q => hx ⟨q.1, q.2.2⟩)]
    · by_cases hd : emD I t j = true ∧ j < x ∧ I 22 0 j = 0
      · rw [if_pos hd, if_pos ⟨hd.1, by omega, hd.2.2⟩]
      · rw [if_neg hd, if_neg (fun q => hd ⟨q.1, by omega, q.2.2⟩)]
  · rw [g3 j]
    by_cases hj : j = x
    · subst hj
      rw [if_neg (by omega), if_neg (fun q => hx ⟨q.1, q.2.2⟩)]
    · by_cases hd : emD I t j = true ∧ j < x ∧ I 22 0 j = 0
      · rw [if_pos hd, if_pos ⟨hd.1, by omega, hd.2.2⟩]
      · rw [if_neg hd, if_neg (fun q => hd ⟨q.1, by omega, q.2.2⟩)]
theorem RA1.f {I I' : ST} {t : Int} (h : RA1 I t (I 12 0 1) I') (hB : RB I) : RA2 I t 0 I' := by
  obtain ⟨g1, g2, g3, g4, g5⟩ := h
  have tk := RB.tasks hB
  refine ⟨fun k i j hk => g1 k i j (by omega), fun j => ?_, fun j => ?_, g4, g5, fun j hj j0 => ?_, fun j => ?_⟩
  · rw [g2 j]
    by_cases hd : emD I t j = true
    · have := emD_v hd
      have b := RB.state hB (j := j) (by omega) (by omega)
      rw [if_pos hd, if_neg (c := j < 0) (by omega)]
      by_cases hs : I 22 0 j = 0
      · rw [if_pos ⟨hd, by omega, hs⟩]
      · rw [if_neg (fun q => hs q.2.2)]; omega
    · rw [if_neg hd, if_neg (fun q => hd q.1)]
  · rw [g3 j]
    by_cases hd : emD I t j = true ∧ I 22 0 j = 0
    · have := emD_v hd.1
      rw [if_pos hd, if_pos ⟨hd.1, by omega, hd.2⟩]
    · rw [if_neg hd, if_neg (fun q => hd ⟨q.1, q.2.2⟩)]
  · have := emD_v hj
    omega
  · rw [g1 _ _ _ (by omega), if_neg]
    intro q
    have := emD_v q.1
    omega
theorem RA2.s0 {I I' : ST} {t x : Int} (h : RA2 I t x I') (hx : emD I t x = false) : RA2 I t (x + 1) I' := by
  obtain ⟨g1, g2, g3, g4, g5, g6, g7⟩ := h
  have hne : ∀ j, emD I t j = true → j ≠ x := fun j hj q => by rw [q, hx] at hj; exact absurd hj (by decide)
  refine ⟨g1, fun j => ?_, g3, g4, g5, fun j hj j1 => g6 j hj (by have := hne j hj; omega), fun j => ?_⟩
  · rw [g2 j]
    by_cases hd : emD I t j = true
    · have := hne j hd
      rw [if_pos hd, if_pos hd]
      by_cases hj : j < x
      · rw [if_pos hj, if_pos (by omega)]
      · rw [if_neg hj, if_neg (by omega)]
    · rw [if_neg hd, if_neg hd]
  · rw [g7 j]
    by_cases hd : emD I t (j / 20) = true
    · have := hne _ hd
      by_cases hj : j / 20 < x
      · rw [if_pos ⟨hd, hj⟩, if_pos ⟨hd, by omega⟩]
      · rw [if_neg (fun q => hj q.2), if_neg (fun q => by omega)]
    · rw [if_neg (fun q => hd q.1), if_neg (fun q => hd q.1)]
theorem RA2.s1 {I I' : ST} {t x : Int} (h : RA2 I t x I') (hx : emD I t x = true) : RA2 I t (x + 1) (fgI I' x) := by
  obtain ⟨g1, g2, g3, g4, g5, g6, g7⟩ := h
  refine ⟨fun k i j hk => ?_, fun j => ?_, fun j => ?_, fun j hj => ?_, fun j j0 j1 => ?_, fun j hj j1 => ?_, fun j => ?_⟩
  · rw [← g1 k i j hk]
    unfold fgI fgA
    rw [if_neg (by omega), if_neg (by omega), if_neg (by omega)]
  · unfold fgI fgA
    rw [if_neg (c := 22 = 23 ∧ _) (by omega), if_neg (c := 22 = 32 ∧ _) (by omega), g2 j]
    by_cases hj : j = x
    · subst hj
      rw [if_pos ⟨rfl, rfl, decide_eq_true rfl⟩, if_pos hx, if_pos (by omega)]
    · rw [if_neg (fun q => hj (of_decide_eq_true q.2.2))]
      by_cases hd : emD I t j = true
      · rw [if_pos hd, if_pos hd]
        by_cases hl : j < x
        · rw [if_pos hl, if_pos (by omega)]
        · rw [if_neg hl, if_neg (by omega)]
      · rw [if_neg hd, if_neg hd]
  · unfold fgI fgA
    rw [if_neg (by omega), if_neg (by omega), if_neg (by omega)]
    exact g3 j
  · unfold fgI fgA
    rw [if_neg (by omega), if_neg, if_neg (by omega)]
    · exact g4 j hj
    · intro q
      rw [of_decide_eq_true q.2.2, hx] at hj
      exact absurd hj (by decide)
  · have := g5 j j0 j1
    unfold fgI fgA
    rw [if_neg (by omega)]
    split
    · omega
    · rw [if_neg (by omega)]; exact this
  · unfold fgI fgA
    rw [if_neg (by omega)]
    by_cases h' : j = x
    · rw [if_pos ⟨rfl, rfl, decide_eq_true h'⟩]
    · rw [if_neg (fun q => h' (of_decide_eq_true q.2.2)), if_neg (by omega)]
      exact g6 j hj (by omega)
  · unfold fgI fgA
    rw [if_neg (by omega), if_neg (by omega), g7 j]
    by_cases h' : j / 20 = x
    · rw [if_pos ⟨rfl, rfl, decide_eq_true h'⟩, h', if_pos ⟨hx, by omega⟩]
    · rw [if_neg (fun q => h' (of_decide_eq_true q.2.2))]
      by_cases hd : emD I t (j / 20) = true ∧ j / 20 < x
      · rw [if_pos hd, if_pos ⟨hd.1, by omega⟩]
      · rw [if_neg hd, if_neg (fun q => hd ⟨q.1, by omega⟩)]
theorem RA2.f {I I' : ST} {t : Int} (h : RA2 I t (I 12 0 1) I') : I' = emI I t := by
  obtain ⟨g1, g2, g3, g4, g5, g6, g7⟩ := h
  funext k i j
  unfold emI fgA emP
  by_cases hi : i = 0 ∧ (k = 22 ∨ k = 23 ∨ k = 27 ∨ k = 32)
  · obtain ⟨rfl, hk⟩ := hi
    rcases hk with rfl | rfl | rfl | rfl
    · rw [g2 j]
      by_cases hd : emD I t j = true
      · have := emD_v hd
        rw [if_pos hd, if_pos (by omega), if_pos ⟨rfl, rfl, hd⟩]
      · rw [if_neg hd, if_neg (fun q => hd q.2.2), if_neg (by omega), if_neg (by omega), if_neg (by omega)]
    · by_cases hd : emD I t j = true
      · have := emD_v hd
        rw [g6 j hd (by omega), if_neg (by omega), if_pos ⟨rfl, rfl, hd⟩]
      · rw [Bool.not_eq_true] at hd
        rw [g4 j hd, if_neg (by omega), if_neg (fun q => by rw [hd] at q; exact absurd q.2.2 (by decide)), if_neg (by omega), if_neg (by omega)]
    · rw [g3 j]
      clear g1 g2 g3 g4 g5 g6 g7
      grind
    · rw [g7 j]
      have := fun h => emD_v (I := I) (t := t) (j := j / 20) h
      clear g1 g2 g3 g4 g5 g6 g7
      grind
  · rw [g1 k i j hi, if_neg (by omega), if_neg (by omega), if_neg (by omega), if_neg (by omega)]
theorem RB.en {I : ST} (hB : RB I) {t : Int} (hh : -1 ≤ heI I t ∧ heI I t ≤ 149) : RB (enI I t) := by
  obtain ⟨h1, h2, h3, h4, h5, h6⟩ := hB
  refine ⟨fun r hr a a0 a1 => ?_, fun g g0 g1 => ?_, ?_, ?_, ?_, ?_⟩
  · have := h1 r hr a a0 a1
    have e1 : ∀ r ∈ rbt, r.1 = 22 → r.2.1 = 0 ∧ r.2.2.1 = 2 := by decide
    have e2 : ∀ r ∈ rbt, r.1 = 23 → r.2.1 = -1 ∧ r.2.2.1 = 149 := by decide
    have e3 : ∀ r ∈ rbt, r.1 = 27 → r.2.1 = 0 ∧ r.2.2.1 = 1000000 := by decide
    unfold enI enN
    split
    · rename_i hh; have := e1 r hr hh.1; omega
    · split
      · rename_i hh; have := e3 r hr hh.1; omega
      · split
        · rename_i hh; have := e2 r hr hh.1; omega
        · exact this
  · have := h2 g g0 g1
    simpa [enI, enN] using this
  all_goals simpa [enI, enN]
theorem RB.em {I : ST} (hB : RB I) {t : Int} : RB (emI I t) := by
  refine RB.fg ?_ _
  obtain ⟨h1, h2, h3, h4, h5, h6⟩ := hB
  refine ⟨fun r hr a a0 a1 => ?_, fun g g0 g1 => ?_, ?_, ?_, ?_, ?_⟩
  · have := h1 r hr a a0 a1
    have e3 : ∀ r ∈ rbt, r.1 = 27 → r.2.1 = 0 ∧ r.2.2.1 = 1000000 := by decide
    unfold emP
    split
    · rename_i hh; have := e3 r hr hh.1; omega
    · exact this
  · have := h2 g g0 g1
    simpa [emP] using this
  all_goals simpa [emP]
section RA
variable {e : EN} {C I : ST} {z : Nat × Nat × Nat × Nat}
theorem leave94_ev (hA : WA e z) (hR : WR e) (hB : RB I) {t n : Int} (t0 : 0 ≤ t) (t1 : t < (I 12 0 1)) : ∀ x I', RA2 I t x I' → 0 ≤ x → x ≤ (I 12 0 1) → Ev (fun F => J12_leave_94 F (rf e 12 0) (xk t) (xk n) (xk x) (HS e C I' z)) (rI n (HS e C (lzI (emI I t)) z)) := by
  have := RB.tasks hB
  intro x
  refine lpN (P := fun x => ∀ I', RA2 I t x I' → 0 ≤ x → x ≤ (I 12 0 1) → Ev (fun F => J12_leave_94 F (rf e 12 0) (xk t) (xk n) (xk x) (HS e C I' z)) (rI n (HS e C (lzI (emI I t)) z))) (I 12 0 1) (fun x ih I' h x0 x1 => ?_) x
  have hB' := h.rb hB
  have e1 : I' 12 0 1 = (I 12 0 1) := h.1 _ _ _ (by omega)
  have e2 : ∀ j, I' 24 0 j = (I 24 0 j) := fun j => h.1 _ _ _ (by omega)
  refine Ev.step (fun F => E12_leave_94 F _ _ _ _ _) ?_
  simp (disch := omega) only [a_22 hA hR, a_24 hA hR, d_12 hA hR, g_12_1 hA hR, g_12_2 hA hR, g_12_4 hA hR, Option.bind_some, up_s, up_k, up_j, up_i, xk_add, xk_sub, xk_mul, xk_neg, lk_add, lN_z, rf_none, rb1, rb0, rbp, xk_nI, zk_eq, zk_lt, zk_eq0, zk_lt0, zk_0lt, zk_long, lz_lt, lz_gt, zmax, zmin, ↓reduceIte, Int.reduceEq, Int.reduceLT, Int.reduceNeg, Int.reduceAdd, Int.reduceSub, Int.reduceMul, Int.ofNat_eq_natCast, Int.cast_ofNat_Int, e1, e2]
  refine Ev.ite (fun hlt => ?_) (fun hlt => ?_)
  · have ih := fun I' h => ih hlt I' h (by omega) (by omega)
    have := RB.space hB (j := x) (by omega) (by omega)
    have := RB.space hB (j := t) (by omega) (by omega)
    have b1 := RB.state hB' (j := x) (by omega) (by omega)
    have e3 := h.2.1 x
    rw [if_neg (c := x < x) (by omega)] at e3
    refine Ev.ite (fun hx => ih _ (h.s0 ?_)) (fun hx => ?_)
    · rw [← Bool.not_eq_true, emD_i]
      omega
    · try simp (disch := omega) only [a_22 hA hR, a_24 hA hR, d_12 hA hR, g_12_1 hA hR, g_12_2 hA hR, g_12_4 hA hR, Option.bind_some, up_s, up_k, up_j, up_i, xk_add, xk_sub, xk_mul, xk_neg, lk_add, lN_z, rf_none, rb1, rb0, rbp, xk_nI, zk_eq, zk_lt, zk_eq0, zk_lt0, zk_0lt, zk_long, lz_lt, lz_gt, zmax, zmin, ↓reduceIte, Int.reduceEq, Int.reduceLT, Int.reduceNeg, Int.reduceAdd, Int.reduceSub, Int.reduceMul, Int.ofNat_eq_natCast, Int.cast_ofNat_Int, e1, e2]
      refine Ev.ite (fun hs => ?_) (fun hs => ih _ (h.s0 ?_))
      · refine Ev.kB (liesIn_ev hA hR hB' (by omega) (by omega) (by omega) (by omega)) (fun hl => ?_) (fun hl => ?_)
        · try simp (disch := omega) only [a_22 hA hR, a_24 hA hR, d_12 hA hR, g_12_1 hA hR, g_12_2 hA hR, g_12_4 hA hR, Option.bind_some, up_s, up_k, up_j, up_i, xk_add, xk_sub, xk_mul, xk_neg, lk_add, lN_z, rf_none, rb1, rb0, rbp, xk_nI, zk_eq, zk_lt, zk_eq0, zk_lt0, zk_0lt, zk_long, lz_lt, lz_gt, zmax, zmin, ↓reduceIte, Int.reduceEq, Int.reduceLT, Int.reduceNeg, Int.reduceAdd, Int.reduceSub, Int.reduceMul, Int.ofNat_eq_natCast, Int.cast_ofNat_Int, e1, e2]
          refine Ev.kV (forget_ev hA hR hB' x0 (by omega)) (ih _ (h.s1 ?_))
          rw [lin_c (fun k => h.1 34 0 k (by omega))] at hl
          rw [emD_i]
          refine ⟨⟨x0, hlt, hx, ?_⟩, hl⟩
          intro q
          rw [e3] at hs
          split at hs
          · rename_i hd; exact (emD_v hd).2.2.2 q
          · omega
        · try simp (disch := omega) only [a_22 hA hR, a_24 hA hR, d_12 hA hR, g_12_1 hA hR, g_12_2 hA hR, g_12_4 hA hR, Option.bind_some, up_s, up_k, up_j, up_i, xk_add, xk_sub, xk_mul, xk_neg, lk_add, lN_z, rf_none, rb1, rb0, rbp, xk_nI, zk_eq, zk_lt, zk_eq0, zk_lt0, zk_0lt, zk_long, lz_lt, lz_gt, zmax, zmin, ↓reduceIte, Int.reduceEq, Int.reduceLT, Int.reduceNeg, Int.reduceAdd, Int.reduceSub, Int.reduceMul, Int.ofNat_eq_natCast, Int.cast_ofNat_Int, e1, e2]
          refine ih _ (h.s0 ?_)
          rw [lin_c (fun k => h.1 34 0 k (by omega))] at hl
          rw [← Bool.not_eq_true, emD_i]
          exact fun q => hl q.2
      · rw [← Bool.not_eq_true]
        intro q
        rw [e3, if_pos q] at hs
        exact hs rfl
  · have : x = (I 12 0 1) := by omega
    subst this
    rw [h.f]
    exact leave149_ev hA hR hB.em
theorem leave24_ev (hA : WA e z) (hR : WR e) (hB : RB I) {t : Int} (hc : emCl I t) (t0 : 0 ≤ t) (t1 : t < (I 12 0 1)) : ∀ x I' n, RA1 I t x I' → n = 1 + sm (emN I t) x → 0 ≤ x → x ≤ (I 12 0 1) → Ev (fun F => J12_leave_24 F (rf e 12 0) (xk t) (xk n) (xk x) (HS e C I' z)) (rI (1 + sm (emN I t) (I 12 0 1)) (HS e C (lzI (emI I t)) z)) := by
  have := RB.tasks hB
  intro x
  refine lpN (P := fun x => ∀ I' n, RA1 I t x I' → n = 1 + sm (emN I t) x → 0 ≤ x → x ≤ (I 12 0 1) → Ev (fun F => J12_leave_24 F (rf e 12 0) (xk t) (xk n) (xk x) (HS e C I' z)) (rI (1 + sm (emN I t) (I 12 0 1)) (HS e C (lzI (emI I t)) z))) (I 12 0 1) (fun x ih I' n h hn x0 x1 => ?_) x
  have hB' := h.rb hB
  have e1 : I' 12 0 1 = (I 12 0 1) := h.1 _ _ _ (by omega)
  have e2 : ∀ j, I' 24 0 j = (I 24 0 j) := fun j => h.1 _ _ _ (by omega)
  refine Ev.step (fun F => E12_leave_24 F _ _ _ _ _) ?_
  simp (disch := omega) only [a_22 hA hR, a_24 hA hR, d_12 hA hR, g_12_1 hA hR, g_12_2 hA hR, g_12_4 hA hR, Option.bind_some, up_s, up_k, up_j, up_i, xk_add, xk_sub, xk_mul, xk_neg, lk_add, lN_z, rf_none, rb1, rb0, rbp, xk_nI, zk_eq, zk_lt, zk_eq0, zk_lt0, zk_0lt, zk_long, lz_lt, lz_gt, zmax, zmin, ↓reduceIte, Int.reduceEq, Int.reduceLT, Int.reduceNeg, Int.reduceAdd, Int.reduceSub, Int.reduceMul, Int.ofNat_eq_natCast, Int.cast_ofNat_Int, e1, e2]
  refine Ev.ite (fun hlt => ?_) (fun hlt => ?_)
  · have ih := fun I' n h => ih hlt I' n h
    rw [sm_s x0] at ih
    have ih := fun I' n h hn => ih I' n h hn (by omega) (by omega)
    have := RB.space hB (j := x) (by omega) (by omega)
    have := RB.space hB (j := t) (by omega) (by omega)
    have b1 := RB.state hB' (j := x) (by omega) (by omega)
    have e3 := h.2.1 x
    rw [if_neg (by omega)] at e3
    have n0 : ¬ (emD I t x = true ∧ (I 22 0 x) = 0) → n = 1 + (sm (emN I t) x + emN I t x) := by
      intro q
      rw [emN, if_neg q]
      omega
    have no : ¬ (emD I t x = true ∧ (I 22 0 x) = 0) → Ev (fun F => J12_leave_24 F (rf e 12 0) (xk t) (xk n) (xk (x + 1)) (HS e C I' z)) (rI (1 + sm (emN I t) (I 12 0 1)) (HS e C (lzI (emI I t)) z)) := fun q => ih _ _ (h.s0 q) (n0 q)
    refine Ev.ite (fun hx => no (fun q => (emD_v q.1).2.2.1 hx)) (fun hx => ?_)
    try simp (disch := omega) only [a_22 hA hR, a_24 hA hR, d_12 hA hR, g_12_1 hA hR, g_12_2 hA hR, g_12_4 hA hR, Option.bind_some, up_s, up_k, up_j, up_i, xk_add, xk_sub, xk_mul, xk_neg, lk_add, lN_z, rf_none, rb1, rb0, rbp, xk_nI, zk_eq, zk_lt, zk_eq0, zk_lt0, zk_0lt, zk_long, lz_lt, lz_gt, zmax, zmin, ↓reduceIte, Int.reduceEq, Int.reduceLT, Int.reduceNeg, Int.reduceAdd, Int.reduceSub, Int.reduceMul, Int.ofNat_eq_natCast, Int.cast_ofNat_Int, e1, e2]
    refine Ev.ite (fun hs => no (fun q => by omega)) (fun hs => ?_)
    refine Ev.kB (liesIn_ev hA hR hB' (by omega) (by omega) (by omega) (by omega)) (fun hl => ?_) (fun hl => ?_)
    · rw [lin_c (fun k => h.1 34 0 k (by omega))] at hl
      have hD : emD I t x = true := emD_i.mpr ⟨⟨x0, hlt, hx, by omega⟩, hl⟩
      try simp (disch := omega) only [a_22 hA hR, a_24 hA hR, d_12 hA hR, g_12_1 hA hR, g_12_2 hA hR, g_12_4 hA hR, Option.bind_some, up_s, up_k, up_j, up_i, xk_add, xk_sub, xk_mul, xk_neg, lk_add, lN_z, rf_none, rb1, rb0, rbp, xk_nI, zk_eq, zk_lt, zk_eq0, zk_lt0, zk_0lt, zk_long, lz_lt, lz_gt, zmax, zmin, ↓reduceIte, Int.reduceEq, Int.reduceLT, Int.reduceNeg, Int.reduceAdd, Int.reduceSub, Int.reduceMul, Int.ofNat_eq_natCast, Int.cast_ofNat_Int, e1, e2]
      refine Ev.ite (fun hz => ?_) (fun hz => no (fun q => by omega))
      refine Ev.kV (end_ev hA hR hB' x0 (by omega) (by omega) ?_) (ih _ _ (h.s1 hB hc hD (by omega)) ?_)
      · rw [e2 x, h.1 35 0 _ (by omega), h.1 34 0 _ (by omega)]
        exact hc.2 x hD
      · rw [emN, if_pos ⟨hD, by omega⟩]
        omega
    · rw [lin_c (fun k => h.1 34 0 k (by omega))] at hl
      try simp (disch := omega) only [a_22 hA hR, a_24 hA hR, d_12 hA hR, g_12_1 hA hR, g_12_2 hA hR, g_12_4 hA hR, Option.bind_some, up_s, up_k, up_j, up_i, xk_add, xk_sub, xk_mul, xk_neg, lk_add, lN_z, rf_none, rb1, rb0, rbp, xk_nI, zk_eq, zk_lt, zk_eq0, zk_lt0, zk_0lt, zk_long, lz_lt, lz_gt, zmax, zmin, ↓reduceIte, Int.reduceEq, Int.reduceLT, Int.reduceNeg, Int.reduceAdd, Int.reduceSub, Int.reduceMul, Int.ofNat_eq_natCast, Int.cast_ofNat_Int, e1, e2]
      exact no (fun q => hl (emD_i.mp q.1).2)
  · have : x = (I 12 0 1) := by omega
    subst this
    rw [hn]
    exact leave94_ev hA hR hB t0 t1 0 I' (h.f hB) (by omega) (by omega)
theorem leave_ev (hA : WA e z) (hR : WR e) (hB : RB I) {t : Int} (t0 : 0 ≤ t) (t1 : t < (I 12 0 1)) (ht : (I 22 0 t) ≠ 2) (hr : (I 35 0 ((I 24 0 t))) = t → 0 ≤ (I 34 0 ((I 24 0 t)))) (hc : (I 35 0 ((I 24 0 t))) = t → emCl (enI I t) t) : Ev (fun F => J12_leave F (rf e 12 0) (xk t) (HS e C I z)) (rI (lvN I t) (HS e C (lvI I t) z)) := by
  have := RB.tasks hB
  have := RB.space hB (j := t) (by omega) (by omega)
  have := RB.init hB (j := ((I 24 0 t))) (by omega) (by omega)
  have hh : -1 ≤ heI I t ∧ heI I t ≤ 149 := by
    unfold heI
    split
    · rename_i q
      have := hr q
      have := RB.arw hB (j := ((I 24 0 t))) (by omega) (by omega)
      have := RB.init hB (j := ((I 34 0 ((I 24 0 t))))) (by omega) (by omega)
      omega
    · omega
  have hB' := hB.en hh
  have e1 : ∀ j, enI I t 24 0 j = (I 24 0 j) := fun j => by simp [enI, enN]
  have e2 : ∀ j, enI I t 35 0 j = (I 35 0 j) := fun j => by simp [enI, enN]
  have e3 : enI I t 12 0 1 = (I 12 0 1) := by simp [enI, enN]
  refine Ev.step (fun F => E12_leave F _ _ _) ?_
  simp (disch := omega) only [a_24 hA hR, a_35 hA hR, d_12 hA hR, g_12_15 hA hR, g_12_4 hA hR, Option.bind_some, up_s, up_k, up_j, up_i, xk_add, xk_sub, xk_mul, xk_neg, lk_add, lN_z, rf_none, rb1, rb0, rbp, xk_nI, zk_eq, zk_lt, zk_eq0, zk_lt0, zk_0lt, zk_long, lz_lt, lz_gt, zmax, zmin, ↓reduceIte, Int.reduceEq, Int.reduceLT, Int.reduceNeg, Int.reduceAdd, Int.reduceSub, Int.reduceMul, Int.ofNat_eq_natCast, Int.cast_ofNat_Int]
  refine Ev.kV (end_ev hA hR hB t0 t1 ht hr) ?_
  try simp (disch := omega) only [a_24 hA hR, a_35 hA hR, d_12 hA hR, g_12_15 hA hR, g_12_4 hA hR, Option.bind_some, up_s, up_k, up_j, up_i, xk_add, xk_sub, xk_mul, xk_neg, lk_add, lN_z, rf_none, rb1, rb0, rbp, xk_nI, zk_eq, zk_lt, zk_eq0, zk_lt0, zk_0lt, zk_long, lz_lt, lz_gt, zmax, zmin, ↓reduceIte, Int.reduceEq, Int.reduceLT, Int.reduceNeg, Int.reduceAdd, Int.reduceSub, Int.reduceMul, Int.ofNat_eq_natCast, Int.cast_ofNat_Int, e1, e2]
  unfold lvN lvI
  refine Ev.ite (fun h => ?_) (fun h => ?_)
  · rw [if_pos h, if_pos h]
    have := leave24_ev (C := C) hA hR hB' (hc h) t0 (by rw [e3]; exact t1) 0 _ 1 (RA1.z hB') rfl (by omega) (by omega)
    rw [e3] at this
    exact this
  · rw [if_neg h, if_neg h]
    exact leave149_ev hA hR hB'
end RA
end
section
/-! the reference: reap, victims, caches -/
def rpZ (I : ST) (t k : Int) : Prop := 0 ≤ k ∧ k < (I 12 0 1) ∧ (I 22 0 k) = 1 ∧ (I 23 0 k) = t
/-- the zombie of t with the least number in space s; none is -1 -/
def RpR (I : ST) (t s x : Int) : Prop := (x = -1 ∧ ∀ k, ¬ rpZ I t k) ∨ (rpZ I t x ∧ ∀ k, rpZ I t k → k ≠ x → (I 32 0 (20 * x + s)) < (I 32 0 (20 * k + s)))
def rpI (I : ST) (x : Int) : ST := if x < 0 then I else fgI I x
def rpA (I : ST) (s x : Int) : Int := if x < 0 then 0 else (I 32 0 (20 * x + s))
section RA
variable {e : EN} {C I : ST} {z : Nat × Nat × Nat × Nat}
theorem reap27_ev (hA : WA e z) (hR : WR e) (hB : RB I) {t s x : Int} (t0 : 0 ≤ t) (t1 : t < 150) (s0 : 0 ≤ s) (s1 : s < 20) (hx : RpR I t s x) : Ev (fun F => J12_reap_27 F (rf e 12 0) (xk t) (xk (-1)) (xk s) (xk 0) (HS e C I z)) (rI (rpA I s x) (HS e C (rpI I x) z)) := by
  have := RB.tasks hB
  refine lpN (P := fun k => ∀ f, 0 ≤ k → k ≤ (I 12 0 1) → ((f = -1 ∧ ∀ j, j < k → ¬ rpZ I t j) ∨ (rpZ I t f ∧ ∀ j, j < k → rpZ I t j → (I 32 0 (20 * f + s)) ≤ (I 32 0 (20 * j + s)))) → Ev (fun F => J12_reap_27 F (rf e 12 0) (xk t) (xk f) (xk s) (xk k) (HS e C I z)) (rI (rpA I s x) (HS e C (rpI I x) z))) (I 12 0 1) (fun k ih f k0 k1 hf => ?_) 0 (-1) (by omega) (by omega) (Or.inl ⟨rfl, fun j hj q => by have := q.1; omega⟩)
  have fb : -1 ≤ f ∧ f < (I 12 0 1) := by
    rcases hf with hf | hf
    · omega
    · have := hf.1.1; have := hf.1.2.1; omega
  refine Ev.step (fun F => E12_reap_27 F _ _ _ _ _ _) ?_
  simp (disch := omega) only [a_22 hA hR, a_23 hA hR, a_32 hA hR, d_12 hA hR, g_12_1 hA hR, g_12_12 hA hR, g_12_2 hA hR, g_12_3 hA hR, Option.bind_some, up_s, up_k, up_j, up_i, xk_add, xk_sub, xk_mul, xk_neg, lk_add, lN_z, rf_none, rb1, rb0, rbp, xk_nI, zk_eq, zk_lt, zk_eq0, zk_lt0, zk_0lt, zk_long, lz_lt, lz_gt, zmax, zmin, ↓reduceIte, Int.reduceEq, Int.reduceLT, Int.reduceNeg, Int.reduceAdd, Int.reduceSub, Int.reduceMul, Int.ofNat_eq_natCast, Int.cast_ofNat_Int]
  refine Ev.ite (fun h => ?_) (fun h => ?_)
  · have := RB.state hB (j := k) (by omega) (by omega)
    have := RB.parent hB (j := k) (by omega) (by omega)
    have := RB.numbers hB (j := (20 * k + s)) (by omega) (by omega)
    have ih := fun f => ih h f (by omega) (by omega)
    have no : ¬ rpZ I t k → Ev (fun F => J12_reap_27 F (rf e 12 0) (xk t) (xk f) (xk s) (xk (k + 1)) (HS e C I z)) (rI (rpA I s x) (HS e C (rpI I x) z)) := by
      intro hn
      refine ih f ?_
      rcases hf with hf | hf
      · refine Or.inl ⟨hf.1, fun j hj q => ?_⟩
        by_cases hk : j = k
        · exact hn (hk ▸ q)
        · exact hf.2 j (by omega) q
      · refine Or.inr ⟨hf.1, fun j hj q => ?_⟩
        by_cases hk : j = k
        · exact absurd (hk ▸ q) hn
        · exact hf.2 j (by omega) q
    try simp (disch := omega) only [a_22 hA hR, a_23 hA hR, a_32 hA hR, d_12 hA hR, g_12_1 hA hR, g_12_12 hA hR, g_12_2 hA hR, g_12_3 hA hR, Option.bind_some, up_s, up_k, up_j, up_i, xk_add, xk_sub, xk_mul, xk_neg, lk_add, lN_z, rf_none, rb1, rb0, rbp, xk_nI, zk_eq, zk_lt, zk_eq0, zk_lt0, zk_0lt, zk_long, lz_lt, lz_gt, zmax, zmin, ↓reduceIte, Int.reduceEq, Int.reduceLT, Int.reduceNeg, Int.reduceAdd, Int.reduceSub, Int.reduceMul, Int.ofNat_eq_natCast, Int.cast_ofNat_Int]
    refine Ev.ite (fun hs => ?_) (fun hs => no (fun q => hs q.2.2.1))
    refine Ev.ite (fun hp => ?_) (fun hp => no (fun q => hp q.2.2.2))
    have hz : rpZ I t k := ⟨k0, h, hs, hp⟩
    refine Ev.ite (fun hn => ?_) (fun hn => ?_)
    · refine ih k (Or.inr ⟨hz, fun j hj q => ?_⟩)
      rcases hf with hf | hf
      · by_cases hk : j = k
        · rw [hk]; omega
        · exact absurd q (hf.2 j (by omega))
      · have := hf.1.1; omega
    · have := RB.numbers hB (j := (20 * f + s)) (by omega) (by omega)
      try simp (disch := omega) only [a_22 hA hR, a_23 hA hR, a_32 hA hR, d_12 hA hR, g_12_1 hA hR, g_12_12 hA hR, g_12_2 hA hR, g_12_3 hA hR, Option.bind_some, up_s, up_k, up_j, up_i, xk_add, xk_sub, xk_mul, xk_neg, lk_add, lN_z, rf_none, rb1, rb0, rbp, xk_nI, zk_eq, zk_lt, zk_eq0, zk_lt0, zk_0lt, zk_long, lz_lt, lz_gt, zmax, zmin, ↓reduceIte, Int.reduceEq, Int.reduceLT, Int.reduceNeg, Int.reduceAdd, Int.reduceSub, Int.reduceMul, Int.ofNat_eq_natCast, Int.cast_ofNat_Int]
      have hg := hf.resolve_left (fun q => hn q.1)
      refine Ev.ite (fun hl => ?_) (fun hl => ?_)
      · refine ih k (Or.inr ⟨hz, fun j hj q => ?_⟩)
        by_cases hk : j = k
        · rw [hk]; omega
        · have := hg.2 j (by omega) q; omega
      · refine ih f (Or.inr ⟨hg.1, fun j hj q => ?_⟩)
        by_cases hk : j = k
        · rw [hk]; omega
        · exact hg.2 j (by omega) q
  · refine Ev.ite (fun hn => ?_) (fun hn => ?_)
    · have : x = -1 := by
        rcases hx with hx | hx
        · exact hx.1
        · rcases hf with hf | hf
          · exact absurd hx.1 (hf.2 x (by have := hx.1.2.1; omega))
          · have := hf.1.1; omega
      subst this
      exact Ev.ret rfl
    · have hg := hf.resolve_left (fun q => hn q.1)
      have : f = x := by
        rcases hx with hx | hx
        · exact absurd hg.1 (hx.2 f)
        · by_cases hq : f = x
          · exact hq
          · have := hx.2 f hg.1 hq
            have := hg.2 x (by have := hx.1.2.1; omega) hx.1
            omega
      subst this
      have := RB.numbers hB (j := (20 * f + s)) (by omega) (by omega)
      try simp (disch := omega) only [a_22 hA hR, a_23 hA hR, a_32 hA hR, d_12 hA hR, g_12_1 hA hR, g_12_12 hA hR, g_12_2 hA hR, g_12_3 hA hR, Option.bind_some, up_s, up_k, up_j, up_i, xk_add, xk_sub, xk_mul, xk_neg, lk_add, lN_z, rf_none, rb1, rb0, rbp, xk_nI, zk_eq, zk_lt, zk_eq0, zk_lt0, zk_0lt, zk_long, lz_lt, lz_gt, zmax, zmin, ↓reduceIte, Int.reduceEq, Int.reduceLT, Int.reduceNeg, Int.reduceAdd, Int.reduceSub, Int.reduceMul, Int.ofNat_eq_natCast, Int.cast_ofNat_Int]
      refine Ev.kV (forget_ev hA hR hB (by omega) (by omega)) (Ev.ret ?_)
      rw [rpA, rpI, if_neg (by omega), if_neg (by omega)]
      rfl
def ctT (I : ST) (w k : Int) : Int := if (I 22 0 k) = w then 1 else 0
theorem count83_ev (hA : WA e z) (hR : WR e) (hB : RB I) {w : Int} (w0 : 0 ≤ w) (w1 : w < 10) : Ev (fun F => J12_count_83 F (rf e 12 0) (xk w) (xk 0) (xk 0) (HS e C I z)) (rI (sm (ctT I (w - 1)) (I 12 0 1)) (HS e C I z)) := by
  have := RB.tasks hB
  refine lpN (P := fun t => ∀ acc, 0 ≤ t → t ≤ (I 12 0 1) → acc = sm (ctT I (w - 1)) t → Ev (fun F => J12_count_83 F (rf e 12 0) (xk w) (xk acc) (xk t) (HS e C I z)) (rI (sm (ctT I (w - 1)) (I 12 0 1)) (HS e C I z))) (I 12 0 1) (fun t ih acc t0 t1 ha => ?_) 0 0 (by omega) (by omega) rfl
  refine Ev.step (fun F => E12_count_83 F _ _ _ _ _) ?_
  simp (disch := omega) only [a_22 hA hR, g_12_1 hA hR, g_12_2 hA hR, Option.bind_some, up_s, up_k, up_j, up_i, xk_add, xk_sub, xk_mul, xk_neg, lk_add, lN_z, rf_none, rb1, rb0, rbp, xk_nI, zk_eq, zk_lt, zk_eq0, zk_lt0, zk_0lt, zk_long, lz_lt, lz_gt, zmax, zmin, ↓reduceIte, Int.reduceEq, Int.reduceLT, Int.reduceNeg, Int.reduceAdd, Int.reduceSub, Int.reduceMul, Int.ofNat_eq_natCast, Int.cast_ofNat_Int]
  refine Ev.ite (fun h => ?_) (fun h => ?_)
  · have := RB.state hB (j := t) (by omega) (by omega)
    have ih := fun a => ih h a (by omega) (by omega)
    rw [sm_s t0, ← ha] at ih
    try simp (disch := omega) only [a_22 hA hR, g_12_1 hA hR, g_12_2 hA hR, Option.bind_some, up_s, up_k, up_j, up_i, xk_add, xk_sub, xk_mul, xk_neg, lk_add, lN_z, rf_none, rb1, rb0, rbp, xk_nI, zk_eq, zk_lt, zk_eq0, zk_lt0, zk_0lt, zk_long, lz_lt, lz_gt, zmax, zmin, ↓reduceIte, Int.reduceEq, Int.reduceLT, Int.reduceNeg, Int.reduceAdd, Int.reduceSub, Int.reduceMul, Int.ofNat_eq_natCast, Int.cast_ofNat_Int]
    refine Ev.ite (fun hs => ?_) (fun hs => ?_)
    · exact ih _ (by rw [ctT, if_pos hs])
    · exact ih _ (by rw [ctT, if_neg hs])
  · have : t = (I 12 0 1) := by omega
    subst this
    exact Ev.ret (by rw [ha]; rfl)
/-- a new group within o -/
def ngI (I : ST) (o : Int) : ST := up (up (up (up (up (up I 12 0 17 ((I 12 0 17) + 1)) 38 0 (I 12 0 17) o) 40 0 (I 12 0 17) 1000000) 39 0 (I 12 0 17) 150) 41 0 (I 12 0 17) 100) 45 0 (I 12 0 17) 0
theorem newGroup_ev (hA : WA e z) (hR : WR e) (hB : RB I) {o : Int} (h : (I 12 0 17) < 20) : Ev (fun F => J12_newGroup F (rf e 12 0) (xk o) (HS e C I z)) (rI (I 12 0 17) (HS e C (ngI I o) z)) := by
  have := RB.groups hB
  refine Ev.step (fun F => E12_newGroup F _ _ _) ?_
  simp (disch := omega) only [g_12_17 hA hR, g_12_18 hA hR, g_12_19 hA hR, g_12_20 hA hR, g_12_21 hA hR, g_12_25 hA hR, p_12_17 hA hR, s_38 hA hR, s_39 hA hR, s_40 hA hR, s_41 hA hR, s_45 hA hR, Option.bind_some, up_s, up_k, up_j, up_i, xk_add, xk_sub, xk_mul, xk_neg, lk_add, lN_z, rf_none, rb1, rb0, rbp, xk_nI, zk_eq, zk_lt, zk_eq0, zk_lt0, zk_0lt, zk_long, lz_lt, lz_gt, zmax, zmin, ↓reduceIte, Int.reduceEq, Int.reduceLT, Int.reduceNeg, Int.reduceAdd, Int.reduceSub, Int.reduceMul, Int.ofNat_eq_natCast, Int.cast_ofNat_Int, i32_m]
  exact Ev.ret rfl
/-- the next victim -/
def viS (I : ST) (g k b : Int) : Int := if k ≠ 0 ∧ (I 22 0 k) = 0 ∧ (I 28 0 k) ≠ -10 ∧ win I ((I 25 0 k)) g = true ∧ (b < 0 ∨ (I 27 0 b) + 100 * (I 28 0 b) ≤ (I 27 0 k) + 100 * (I 28 0 k)) then k else b
def viF (I : ST) (g : Int) : Int := fo (viS I g) (-1) (I 12 0 1)
theorem victim_ev (hA : WA e z) (hR : WR e) (hB : RB I) {g : Int} (g0 : -1 ≤ g) (g1 : g < 20) : Ev (fun F => J12_victim F (rf e 12 0) (xk g) (HS e C I z)) (rI (viF I g) (HS e C I z)) := by
  have := RB.tasks hB
  refine Ev.step (fun F => E12_victim F _ _ _) ?_
  refine lpN (P := fun k => ∀ b, 1 ≤ k → k ≤ (I 12 0 1) → -1 ≤ b → b < k → b = fo (viS I g) (-1) k → Ev (fun F => J12_victim_4 F (rf e 12 0) (xk g) (xk b) (xk k) (HS e C I z)) (rI (viF I g) (HS e C I z))) (I 12 0 1) (fun k ih b k0 k1 b0 b1 hb => ?_) 1 (-1) (by omega) (by omega) (by omega) (by omega) (by rw [show (1 : Int) = 0 + 1 from rfl, fo_s (by omega), viS, if_neg (by omega)]; rfl)
  refine Ev.step (fun F => E12_victim_4 F _ _ _ _ _) ?_
  simp (disch := omega) only [a_22 hA hR, a_25 hA hR, a_27 hA hR, a_28 hA hR, d_12 hA hR, g_12_1 hA hR, g_12_2 hA hR, g_12_5 hA hR, g_12_7 hA hR, g_12_8 hA hR, Option.bind_some, up_s, up_k, up_j, up_i, xk_add, xk_sub, xk_mul, xk_neg, lk_add, lN_z, rf_none, rb1, rb0, rbp, xk_nI, zk_eq, zk_lt, zk_eq0, zk_lt0, zk_0lt, zk_long, lz_lt, lz_gt, zmax, zmin, ↓reduceIte, Int.reduceEq, Int.reduceLT, Int.reduceNeg, Int.reduceAdd, Int.reduceSub, Int.reduceMul, Int.ofNat_eq_natCast, Int.cast_ofNat_Int]
  refine Ev.ite (fun h => ?_) (fun h => ?_)
  · have := RB.state hB (j := k) (by omega) (by omega)
    have := RB.badness hB (j := k) (by omega) (by omega)
    have := RB.pages hB (j := k) (by omega) (by omega)
    have := RB.group hB (j := k) (by omega) (by omega)
    have ih := fun b => ih h b (by omega) (by omega)
    rw [fo_s (by omega), ← hb, viS] at ih
    have no : ¬ (k ≠ 0 ∧ (I 22 0 k) = 0 ∧ (I 28 0 k) ≠ -10 ∧ win I ((I 25 0 k)) g = true ∧ (b < 0 ∨ (I 27 0 b) + 100 * (I 28 0 b) ≤ (I 27 0 k) + 100 * (I 28 0 k))) → Ev (fun F => J12_victim_4 F (rf e 12 0) (xk g) (xk b) (xk (k + 1)) (HS e C I z)) (rI (viF I g) (HS e C I z)) := fun q => ih b (by omega) (by omega) (by rw [if_neg q])
    have yes : (k ≠ 0 ∧ (I 22 0 k) = 0 ∧ (I 28 0 k) ≠ -10 ∧ win I ((I 25 0 k)) g = true ∧ (b < 0 ∨ (I 27 0 b) + 100 * (I 28 0 b) ≤ (I 27 0 k) + 100 * (I 28 0 k))) → Ev (fun F => J12_victim_4 F (rf e 12 0) (xk g) (xk k) (xk (k + 1)) (HS e C I z)) (rI (viF I g) (HS e C I z)) := fun q => ih k (by omega) (by omega) (by rw [if_pos q])
    try simp (disch := omega) only [a_22 hA hR, a_25 hA hR, a_27 hA hR, a_28 hA hR, d_12 hA hR, g_12_1 hA hR, g_12_2 hA hR, g_12_5 hA hR, g_12_7 hA hR, g_12_8 hA hR, Option.bind_some, up_s, up_k, up_j, up_i, xk_add, xk_sub, xk_mul, xk_neg, lk_add, lN_z, rf_none, rb1, rb0, rbp, xk_nI, zk_eq, zk_lt, zk_eq0, zk_lt0, zk_0lt, zk_long, lz_lt, lz_gt, zmax, zmin, ↓reduceIte, Int.reduceEq, Int.reduceLT, Int.reduceNeg, Int.reduceAdd, Int.reduceSub, Int.reduceMul, Int.ofNat_eq_natCast, Int.cast_ofNat_Int]
    refine Ev.ite (fun hs => ?_) (fun hs => no (fun q => hs q.2.1))
    refine Ev.ite (fun hw => no (fun q => q.2.2.1 hw)) (fun hw => ?_)
    refine Ev.kB (isWithin_ev hA hR hB g0 g1 (by omega) (by omega)) (fun hi => ?_) (fun hi => ?_)
    · try simp (disch := omega) only [a_22 hA hR, a_25 hA hR, a_27 hA hR, a_28 hA hR, d_12 hA hR, g_12_1 hA hR, g_12_2 hA hR, g_12_5 hA hR, g_12_7 hA hR, g_12_8 hA hR, Option.bind_some, up_s, up_k, up_j, up_i, xk_add, xk_sub, xk_mul, xk_neg, lk_add, lN_z, rf_none, rb1, rb0, rbp, xk_nI, zk_eq, zk_lt, zk_eq0, zk_lt0, zk_0lt, zk_long, lz_lt, lz_gt, zmax, zmin, ↓reduceIte, Int.reduceEq, Int.reduceLT, Int.reduceNeg, Int.reduceAdd, Int.reduceSub, Int.reduceMul, Int.ofNat_eq_natCast, Int.cast_ofNat_Int]
      refine Ev.ite (fun hn => yes ⟨by omega, hs, hw, hi, by omega⟩) (fun hn => ?_)
      have := RB.badness hB (j := b) (by omega) (by omega)
      have := RB.pages hB (j := b) (by omega) (by omega)
      try simp (disch := omega) only [a_22 hA hR, a_25 hA hR, a_27 hA hR, a_28 hA hR, d_12 hA hR, g_12_1 hA hR, g_12_2 hA hR, g_12_5 hA hR, g_12_7 hA hR, g_12_8 hA hR, Option.bind_some, up_s, up_k, up_j, up_i, xk_add, xk_sub, xk_mul, xk_neg, lk_add, lN_z, rf_none, rb1, rb0, rbp, xk_nI, zk_eq, zk_lt, zk_eq0, zk_lt0, zk_0lt, zk_long, lz_lt, lz_gt, zmax, zmin, ↓reduceIte, Int.reduceEq, Int.reduceLT, Int.reduceNeg, Int.reduceAdd, Int.reduceSub, Int.reduceMul, Int.ofNat_eq_natCast, Int.cast_ofNat_Int]
      exact Ev.ite (fun hl => no (fun q => by omega)) (fun hl => yes ⟨by omega, hs, hw, hi, by omega⟩)
    · try simp (disch := omega) only [a_22 hA hR, a_25 hA hR, a_27 hA hR, a_28 hA hR, d_12 hA hR, g_12_1 hA hR, g_12_2 hA hR, g_12_5 hA hR, g_12_7 hA hR, g_12_8 hA hR, Option.bind_some, up_s, up_k, up_j, up_i, xk_add, xk_sub, xk_mul, xk_neg, lk_add, lN_z, rf_none, rb1, rb0, rbp, xk_nI, zk_eq, zk_lt, zk_eq0, zk_lt0, zk_0lt, zk_long, lz_lt, lz_gt, zmax, zmin, ↓reduceIte, Int.reduceEq, Int.reduceLT, Int.reduceNeg, Int.reduceAdd, Int.reduceSub, Int.reduceMul, Int.ofNat_eq_natCast, Int.cast_ofNat_Int]
      exact no (fun q => hi q.2.2.2.1)
  · have : k = (I 12 0 1) := by omega
    subst this
    exact Ev.ret (by rw [hb]; rfl)
/-- the richest cache in a group -/
def rcS (I : ST) (g k b : Int) : Int := if win I k g = true ∧ 0 < (I 43 0 k) ∧ (b < 0 ∨ (I 43 0 b) < (I 43 0 k)) then k else b
def rcF (I : ST) (g : Int) : Int := fo (rcS I g) (-1) (I 12 0 17)
end RA
end
section
/-! the reference: takeCache, tooFull, makeRoom -/
theorem rcS_b {I : ST} {g k b : Int} (hb : -1 ≤ b ∧ b < k) : -1 ≤ rcS I g k b ∧ rcS I g k b < k + 1 := by
  unfold rcS
  split <;> omega
theorem fo_b {st : Int → Int → Int} (h : ∀ k b, 0 ≤ k → -1 ≤ b ∧ b < k → -1 ≤ st k b ∧ st k b < k + 1) {n : Int} (hn : 0 ≤ n) : -1 ≤ fo st (-1) n ∧ fo st (-1) n < n := by
  obtain ⟨m, rfl⟩ : ∃ m : Nat, n = m := ⟨n.toNat, by omega⟩
  induction m with
  | zero => exact ⟨Int.le_refl _, (by decide : (-1 : Int) < 0)⟩
  | succ m ih =>
    have := ih (by omega)
    rw [show ((m + 1 : Nat) : Int) = (m : Int) + 1 by omega, fo_s (by omega)]
    exact h m _ (by omega) this
theorem rcF_b {I : ST} (hB : RB I) {g : Int} : -1 ≤ rcF I g ∧ rcF I g < (I 12 0 17) := fo_b (fun k b k0 hb => rcS_b hb) (by have := RB.groups hB; omega)
theorem viF_b {I : ST} (hB : RB I) {g : Int} : -1 ≤ viF I g ∧ viF I g < (I 12 0 1) := fo_b (fun k b k0 hb => by unfold viS; split <;> omega) (by have := RB.tasks hB; omega)
/-- what the fold has found is good -/
theorem fo_p {st : Int → Int → Int} {Q : Int → Prop} (h : ∀ k b, 0 ≤ k → (b = -1 ∨ Q b) → (st k b = -1 ∨ Q (st k b))) {n : Int} (hn : 0 ≤ n) : fo st (-1) n = -1 ∨ Q (fo st (-1) n) := by
  obtain ⟨m, rfl⟩ : ∃ m : Nat, n = m := ⟨n.toNat, by omega⟩
  induction m with
  | zero => exact Or.inl rfl
  | succ m ih =>
    rw [show ((m + 1 : Nat) : Int) = (m : Int) + 1 by omega, fo_s (by omega)]
    exact h m _ (by omega) (ih (by omega))
theorem viF_p {I : ST} (hB : RB I) {g : Int} (h : 0 ≤ viF I g) : viF I g ≠ 0 ∧ (I 22 0 (viF I g)) = 0 ∧ (I 28 0 (viF I g)) ≠ -10 ∧ win I ((I 25 0 (viF I g))) g = true := by
  have := RB.tasks hB
  have := fo_p (st := viS I g) (Q := fun b => b ≠ 0 ∧ (I 22 0 b) = 0 ∧ (I 28 0 b) ≠ -10 ∧ win I ((I 25 0 b)) g = true) (fun k b k0 hb => by
    unfold viS
    split
    · rename_i q; exact Or.inr ⟨q.1, q.2.1, q.2.2.1, q.2.2.2.1⟩
    · exact hb) (n := (I 12 0 1)) (by omega)
  rcases this with q | q
  · unfold viF at h; omega
  · exact q
theorem rcF_p {I : ST} (hB : RB I) {g : Int} (h : 0 ≤ rcF I g) : win I (rcF I g) g = true ∧ 0 < (I 43 0 (rcF I g)) := by
  have := RB.groups hB
  have := fo_p (st := rcS I g) (Q := fun b => win I b g = true ∧ 0 < (I 43 0 b)) (fun k b k0 hb => by
    unfold rcS
    split
    · rename_i q; exact Or.inr ⟨q.1, q.2.1⟩
    · exact hb) (n := (I 12 0 17)) (by omega)
  rcases this with q | q
  · unfold rcF at h; omega
  · exact q
/-- none is found: none is there -/
theorem rcF_n {I : ST} (hB : RB I) {g k : Int} (h : rcF I g < 0) (k0 : 0 ≤ k) (k1 : k < (I 12 0 17)) : ¬ (win I k g = true ∧ 0 < (I 43 0 k)) := by
  have hm : ∀ m : Nat, fo (rcS I g) (-1) m < 0 → ∀ k : Int, 0 ≤ k → k < m → ¬ (win I k g = true ∧ 0 < (I 43 0 k)) := by
    intro m
    induction m with
    | zero => intro _ k k0 k1; omega
    | succ m ih =>
      intro hm k k0 k1 q
      rw [show ((m + 1 : Nat) : Int) = (m : Int) + 1 by omega, fo_s (by omega)] at hm
      by_cases hk : k = m
      · subst hk
        unfold rcS at hm
        split at hm
        · omega
        · rename_i hq
          exact hq ⟨q.1, q.2, Or.inl (by omega)⟩
      · refine ih ?_ k k0 (by omega) q
        unfold rcS at hm
        split at hm
        · omega
        · exact hm
  have := RB.groups hB
  refine hm (I 12 0 17).toNat ?_ k k0 (by omega)
  rw [show (((I 12 0 17).toNat : Nat) : Int) = (I 12 0 17) by omega]
  exact h
/-- how many caches there are in a group -/
def pcT (I : ST) (g k : Int) : Int := if win I k g = true ∧ 0 < (I 43 0 k) then 1 else 0
/-- caches of a group are taken, n at most, for l pages -/
def tcF (g : Int) : Nat → ST → Int → ST
  | 0, I, _ => I
  | n + 1, I, l => if 0 < l then (if rcF I g < 0 then I else tcF g n (up I 43 0 (rcF I g) ((I 43 0 (rcF I g)) - min (I 43 0 (rcF I g)) l)) (l - min (I 43 0 (rcF I g)) l)) else I
theorem tcF_0 {g : Int} {n : Nat} {I : ST} {l : Int} (h : l ≤ 0) : tcF g n I l = I := by
  cases n with
  | zero => rfl
  | succ n => rw [tcF, if_neg (by omega)]
def tcI (I : ST) (g n : Int) : ST := tcF g 20 I (usF I g + n - (I 40 0 g))
theorem sm_c {f f' : Int → Int} {n : Int} (h : ∀ k, 0 ≤ k → k < n → f k = f' k) : sm f n = sm f' n := by
  unfold sm
  have : ∀ m : Nat, (m : Int) ≤ n → smN f m = smN f' m := by
    intro m
    induction m with
    | zero => intro _; rfl
    | succ m ih => intro q; rw [smN, smN, ih (by omega), h m (by omega) (by omega)]
  by_cases hn : 0 ≤ n
  · exact this n.toNat (by omega)
  · rw [show n.toNat = 0 by omega]; rfl
/-- one row of a sum changes -/
theorem sm_u {f f' : Int → Int} {n x : Int} (x0 : 0 ≤ x) (x1 : x < n) (h : ∀ k, 0 ≤ k → k < n → k ≠ x → f' k = f k) : sm f' n = sm f n + (f' x - f x) := by
  have : ∀ m : Nat, (m : Int) ≤ n → smN f' m = smN f m + (if x < m then f' x - f x else 0) := by
    intro m
    induction m with
    | zero => intro _; rw [if_neg (by omega)]; rfl
    | succ m ih =>
      intro q
      rw [smN, smN, ih (by omega)]
      by_cases hm : x = m
      · subst hm
        rw [if_neg (by omega), if_pos (by omega)]; omega
      · rw [h m (by omega) (by omega) (by omega)]
        by_cases hx : x < m
        · rw [if_pos hx, if_pos (by omega)]; omega
        · rw [if_neg hx, if_neg (by omega)]; omega
  have := this n.toNat (by omega)
  rw [if_pos (by omega)] at this
  exact this
theorem sm_le {f f' : Int → Int} {n : Int} (h : ∀ k, 0 ≤ k → k < n → f k ≤ f' k) : sm f n ≤ sm f' n := by
  have : ∀ m : Nat, (m : Int) ≤ n → smN f m ≤ smN f' m := by
    intro m
    induction m with
    | zero => intro _; exact Int.le_refl _
    | succ m ih => intro q; rw [smN, smN]; have := ih (by omega); have := h m (by omega) (by omega); omega
  by_cases hn : 0 ≤ n
  · exact this n.toNat (by omega)
  · unfold sm; rw [show n.toNat = 0 by omega]; exact Int.le_refl _
section RA
variable {e : EN} {C I : ST} {z : Nat × Nat × Nat × Nat}
theorem richest_ev (hA : WA e z) (hR : WR e) (hB : RB I) {g l : Int} (g0 : -1 ≤ g) (g1 : g < 20) (l0 : 0 < l) (l1 : l < 2147483648) {r : XV × XH} (hz : rcF I g = -1 → r = rV (HS e C I z)) (hk : 0 ≤ rcF I g → Ev (fun F => J12_takeCache_15 F (rf e 12 0) (xk g) (xk (l - min (I 43 0 (rcF I g)) l)) (HS e C (up I 43 0 (rcF I g) ((I 43 0 (rcF I g)) - min (I 43 0 (rcF I g)) l)) z)) r) : Ev (fun F => J12_takeCache_25 F (rf e 12 0) (xk g) (xk l) (xk (-1)) (xk 0) (HS e C I z)) r := by
  have := RB.groups hB
  refine lpN (P := fun k => ∀ b, 0 ≤ k → k ≤ (I 12 0 17) → -1 ≤ b → b < k → b = fo (rcS I g) (-1) k → Ev (fun F => J12_takeCache_25 F (rf e 12 0) (xk g) (xk l) (xk b) (xk k) (HS e C I z)) r) (I 12 0 17) (fun k ih b k0 k1 b0 b1 hb => ?_) 0 (-1) (by omega) (by omega) (by omega) (by omega) rfl
  refine Ev.step (fun F => E12_takeCache_25 F _ _ _ _ _ _) ?_
  simp (disch := omega) only [a_43 hA hR, d_12 hA hR, g_12_17 hA hR, g_12_23 hA hR, s_43 hA hR, Option.bind_some, up_s, up_k, up_j, up_i, xk_add, xk_sub, xk_mul, xk_neg, lk_add, lN_z, rf_none, rb1, rb0, rbp, xk_nI, zk_eq, zk_lt, zk_eq0, zk_lt0, zk_0lt, zk_long, lz_lt, lz_gt, zmax, zmin, ↓reduceIte, Int.reduceEq, Int.reduceLT, Int.reduceNeg, Int.reduceAdd, Int.reduceSub, Int.reduceMul, Int.ofNat_eq_natCast, Int.cast_ofNat_Int]
  refine Ev.ite (fun h => ?_) (fun h => ?_)
  · have := RB.cached hB (j := k) (by omega) (by omega)
    have ih := fun b => ih h b (by omega) (by omega)
    rw [fo_s (by omega), ← hb, rcS] at ih
    have no : ¬ (win I k g = true ∧ 0 < (I 43 0 k) ∧ (b < 0 ∨ (I 43 0 b) < (I 43 0 k))) → Ev (fun F => J12_takeCache_25 F (rf e 12 0) (xk g) (xk l) (xk b) (xk (k + 1)) (HS e C I z)) r := fun q => ih b (by omega) (by omega) (by rw [if_neg q])
    have yes : (win I k g = true ∧ 0 < (I 43 0 k) ∧ (b < 0 ∨ (I 43 0 b) < (I 43 0 k))) → Ev (fun F => J12_takeCache_25 F (rf e 12 0) (xk g) (xk l) (xk k) (xk (k + 1)) (HS e C I z)) r := fun q => ih k (by omega) (by omega) (by rw [if_pos q])
    refine Ev.kB (isWithin_ev hA hR hB g0 g1 (by omega) (by omega)) (fun hi => ?_) (fun hi => ?_)
    · try simp (disch := omega) only [a_43 hA hR, d_12 hA hR, g_12_17 hA hR, g_12_23 hA hR, s_43 hA hR, Option.bind_some, up_s, up_k, up_j, up_i, xk_add, xk_sub, xk_mul, xk_neg, lk_add, lN_z, rf_none, rb1, rb0, rbp, xk_nI, zk_eq, zk_lt, zk_eq0, zk_lt0, zk_0lt, zk_long, lz_lt, lz_gt, zmax, zmin, ↓reduceIte, Int.reduceEq, Int.reduceLT, Int.reduceNeg, Int.reduceAdd, Int.reduceSub, Int.reduceMul, Int.ofNat_eq_natCast, Int.cast_ofNat_Int]
      refine Ev.ite (fun hc => ?_) (fun hc => no (fun q => hc q.2.1))
      refine Ev.ite (fun hn => yes ⟨hi, hc, by omega⟩) (fun hn => ?_)
      have := RB.cached hB (j := b) (by omega) (by omega)
      try simp (disch := omega) only [a_43 hA hR, d_12 hA hR, g_12_17 hA hR, g_12_23 hA hR, s_43 hA hR, Option.bind_some, up_s, up_k, up_j, up_i, xk_add, xk_sub, xk_mul, xk_neg, lk_add, lN_z, rf_none, rb1, rb0, rbp, xk_nI, zk_eq, zk_lt, zk_eq0, zk_lt0, zk_0lt, zk_long, lz_lt, lz_gt, zmax, zmin, ↓reduceIte, Int.reduceEq, Int.reduceLT, Int.reduceNeg, Int.reduceAdd, Int.reduceSub, Int.reduceMul, Int.ofNat_eq_natCast, Int.cast_ofNat_Int]
      exact Ev.ite (fun hl => yes ⟨hi, hc, by omega⟩) (fun hl => no (fun q => by omega))
    · try simp (disch := omega) only [a_43 hA hR, d_12 hA hR, g_12_17 hA hR, g_12_23 hA hR, s_43 hA hR, Option.bind_some, up_s, up_k, up_j, up_i, xk_add, xk_sub, xk_mul, xk_neg, lk_add, lN_z, rf_none, rb1, rb0, rbp, xk_nI, zk_eq, zk_lt, zk_eq0, zk_lt0, zk_0lt, zk_long, lz_lt, lz_gt, zmax, zmin, ↓reduceIte, Int.reduceEq, Int.reduceLT, Int.reduceNeg, Int.reduceAdd, Int.reduceSub, Int.reduceMul, Int.ofNat_eq_natCast, Int.cast_ofNat_Int]
      exact no (fun q => hi q.1)
  · have : k = (I 12 0 17) := by omega
    subst this
    have hb : b = rcF I g := hb
    subst hb
    refine Ev.ite (fun hn => ?_) (fun hn => ?_)
    · exact Ev.ret (hz hn).symm
    · have hk := hk (by omega)
      have := RB.cached hB (j := (rcF I g)) (by omega) (by omega)
      try simp (disch := omega) only [a_43 hA hR, d_12 hA hR, g_12_17 hA hR, g_12_23 hA hR, s_43 hA hR, Option.bind_some, up_s, up_k, up_j, up_i, xk_add, xk_sub, xk_mul, xk_neg, lk_add, lN_z, rf_none, rb1, rb0, rbp, xk_nI, zk_eq, zk_lt, zk_eq0, zk_lt0, zk_0lt, zk_long, lz_lt, lz_gt, zmax, zmin, ↓reduceIte, Int.reduceEq, Int.reduceLT, Int.reduceNeg, Int.reduceAdd, Int.reduceSub, Int.reduceMul, Int.ofNat_eq_natCast, Int.cast_ofNat_Int]
      refine Ev.ite (fun hl => ?_) (fun hl => ?_)
      · rw [show min (I 43 0 (rcF I g)) l = (I 43 0 (rcF I g)) by omega] at hk
        exact hk
      · rw [show min (I 43 0 (rcF I g)) l = l by omega] at hk
        exact hk
theorem takeCache15_ev (hA : WA e z) (hR : WR e) {g : Int} (g0 : -1 ≤ g) (g1 : g < 20) : ∀ (n : Nat) (I : ST) (l : Int), RB I → l < 2147483648 → -2147483648 ≤ l → sm (pcT I g) (I 12 0 17) ≤ n → Ev (fun F => J12_takeCache_15 F (rf e 12 0) (xk g) (xk l) (HS e C I z)) (rV (HS e C (tcF g n I l) z)) := by
  intro n
  induction n with
  | zero =>
    intro I l hB l0 l1 hc
    refine Ev.step (fun F => E12_takeCache_15 F _ _ _ _) ?_
    simp (disch := omega) only [Option.bind_some, up_s, up_k, up_j, up_i, xk_add, xk_sub, xk_mul, xk_neg, lk_add, lN_z, rf_none, rb1, rb0, rbp, xk_nI, zk_eq, zk_lt, zk_eq0, zk_lt0, zk_0lt, zk_long, lz_lt, lz_gt, zmax, zmin, ↓reduceIte, Int.reduceEq, Int.reduceLT, Int.reduceNeg, Int.reduceAdd, Int.reduceSub, Int.reduceMul, Int.ofNat_eq_natCast, Int.cast_ofNat_Int]
    refine Ev.ite (fun h => ?_) (fun h => Ev.ret rfl)
    refine richest_ev hA hR hB g0 g1 h l0 (fun _ => rfl) (fun q => ?_)
    exfalso
    have := rcF_p hB q
    have b := rcF_b hB (g := g)
    have := sm_ge (f := pcT I g) (fun k => by unfold pcT; split <;> decide) (t := rcF I g) (by omega) b.2
    rw [pcT, if_pos (by assumption)] at this
    omega
  | succ n ih =>
    intro I l hB l0 l1 hc
    refine Ev.step (fun F => E12_takeCache_15 F _ _ _ _) ?_
    simp (disch := omega) only [Option.bind_some, up_s, up_k, up_j, up_i, xk_add, xk_sub, xk_mul, xk_neg, lk_add, lN_z, rf_none, rb1, rb0, rbp, xk_nI, zk_eq, zk_lt, zk_eq0, zk_lt0, zk_0lt, zk_long, lz_lt, lz_gt, zmax, zmin, ↓reduceIte, Int.reduceEq, Int.reduceLT, Int.reduceNeg, Int.reduceAdd, Int.reduceSub, Int.reduceMul, Int.ofNat_eq_natCast, Int.cast_ofNat_Int]
    rw [tcF]
    refine Ev.ite (fun h => ?_) (fun h => Ev.ret (by rw [if_neg h]; rfl))
    rw [if_pos h]
    refine richest_ev hA hR hB g0 g1 h l0 (fun q => by rw [if_pos (by omega)]) (fun q => ?_)
    rw [if_neg (by omega)]
    have hp := rcF_p hB q
    have b := rcF_b hB (g := g)
    have := RB.groups hB
    have := RB.cached hB (j := (rcF I g)) (by omega) (by omega)
    by_cases hl : (I 43 0 (rcF I g)) < l
    · refine ih _ _ (RB.u_cached hB (by omega) (by omega)) (by omega) (by omega) ?_
      have := sm_u (f := pcT I g) (f' := pcT (up I 43 0 (rcF I g) ((I 43 0 (rcF I g)) - min (I 43 0 (rcF I g)) l)) g) (n := (I 12 0 17)) (x := rcF I g) (by omega) (by omega) (fun k k0 k1 hk => by
        unfold pcT
        rw [win_c (I' := up I 43 0 (rcF I g) ((I 43 0 (rcF I g)) - min (I 43 0 (rcF I g)) l)) (I := I) (fun k => by simp [up]), up_j hk])
      have h1 : pcT I g (rcF I g) = 1 := by rw [pcT, if_pos hp]
      have h2 : pcT (up I 43 0 (rcF I g) ((I 43 0 (rcF I g)) - min (I 43 0 (rcF I g)) l)) g (rcF I g) = 0 := by rw [pcT, if_neg (by rw [up_s]; omega)]
      rw [up_k (by decide), this]
      omega
    · rw [show min (I 43 0 (rcF I g)) l = l by omega, tcF_0 (by omega), Int.sub_self]
      refine Ev.step (fun F => E12_takeCache_15 F _ _ _ _) ?_
      simp (disch := omega) only [Option.bind_some, up_s, up_k, up_j, up_i, xk_add, xk_sub, xk_mul, xk_neg, lk_add, lN_z, rf_none, rb1, rb0, rbp, xk_nI, zk_eq, zk_lt, zk_eq0, zk_lt0, zk_0lt, zk_long, lz_lt, lz_gt, zmax, zmin, ↓reduceIte, Int.reduceEq, Int.reduceLT, Int.reduceNeg, Int.reduceAdd, Int.reduceSub, Int.reduceMul, Int.ofNat_eq_natCast, Int.cast_ofNat_Int]
      exact Ev.ret rfl
/-- the first group from g on that has no room for n pages -/
def tfF (I : ST) (n : Int) : Nat → Int → Int
  | 0, g => g
  | m + 1, g => if g < 0 then g else if (I 40 0 g) < usF I g + n then g else tfF I n m (I 38 0 g)
theorem tooFull_ev (hA : WA e z) (hR : WR e) (hB : RB I) {n : Int} (n0 : 0 ≤ n) (n1 : n ≤ 1000000) (hu : ∀ g, 0 ≤ g → g < (I 12 0 17) → 0 ≤ usF I g ∧ usF I g ≤ 1000000) (hw : ∀ g, 0 ≤ g → g < (I 12 0 17) → (I 38 0 g) < (I 12 0 17)) : ∀ (m : Nat) (g : Int), g < m → -1 ≤ g → g < (I 12 0 17) → Ev (fun F => J12_tooFull_2 F (rf e 12 0) (xk n) (xk g) (HS e C I z)) (rI (tfF I n m g) (HS e C I z)) := by
  have := RB.groups hB
  intro m
  induction m with
  | zero =>
    intro g h0 h1 h2
    refine Ev.step (fun F => E12_tooFull_2 F _ _ _ _) ?_
    simp (disch := omega) only [a_38 hA hR, a_40 hA hR, d_12 hA hR, g_12_18 hA hR, g_12_20 hA hR, Option.bind_some, up_s, up_k, up_j, up_i, xk_add, xk_sub, xk_mul, xk_neg, lk_add, lN_z, rf_none, rb1, rb0, rbp, xk_nI, zk_eq, zk_lt, zk_eq0, zk_lt0, zk_0lt, zk_long, lz_lt, lz_gt, zmax, zmin, ↓reduceIte, Int.reduceEq, Int.reduceLT, Int.reduceNeg, Int.reduceAdd, Int.reduceSub, Int.reduceMul, Int.ofNat_eq_natCast, Int.cast_ofNat_Int]
    exact Ev.ite (fun _ => Ev.ret rfl) (fun q => absurd q (by omega))
  | succ m ih =>
    intro g h0 h1 h2
    rw [tfF]
    refine Ev.step (fun F => E12_tooFull_2 F _ _ _ _) ?_
    simp (disch := omega) only [a_38 hA hR, a_40 hA hR, d_12 hA hR, g_12_18 hA hR, g_12_20 hA hR, Option.bind_some, up_s, up_k, up_j, up_i, xk_add, xk_sub, xk_mul, xk_neg, lk_add, lN_z, rf_none, rb1, rb0, rbp, xk_nI, zk_eq, zk_lt, zk_eq0, zk_lt0, zk_0lt, zk_long, lz_lt, lz_gt, zmax, zmin, ↓reduceIte, Int.reduceEq, Int.reduceLT, Int.reduceNeg, Int.reduceAdd, Int.reduceSub, Int.reduceMul, Int.ofNat_eq_natCast, Int.cast_ofNat_Int]
    refine Ev.ite (fun q => Ev.ret (by rw [if_pos (by omega)]; rfl)) (fun q => ?_)
    have := RB.max hB (j := g) (by omega) (by omega)
    have := RB.within hB (j := g) (by omega) (by omega)
    have := RB.wiw hB (j := g) (by omega) (by omega)
    have := hu g (by omega) h2
    refine Ev.kI (uses_ev hA hR hB (by omega) (by omega)) ?_
    try simp (disch := omega) only [a_38 hA hR, a_40 hA hR, d_12 hA hR, g_12_18 hA hR, g_12_20 hA hR, Option.bind_some, up_s, up_k, up_j, up_i, xk_add, xk_sub, xk_mul, xk_neg, lk_add, lN_z, rf_none, rb1, rb0, rbp, xk_nI, zk_eq, zk_lt, zk_eq0, zk_lt0, zk_0lt, zk_long, lz_lt, lz_gt, zmax, zmin, ↓reduceIte, Int.reduceEq, Int.reduceLT, Int.reduceNeg, Int.reduceAdd, Int.reduceSub, Int.reduceMul, Int.ofNat_eq_natCast, Int.cast_ofNat_Int]
    rw [if_neg (by omega)]
    refine Ev.ite (fun h => Ev.ret (by rw [if_pos h]; rfl)) (fun h => ?_)
    rw [if_neg h]
    exact ih _ (by omega) (by omega) (hw g (by omega) h2)
end RA
end
section
/-! what holds of the reference: tasks and spaces -/
theorem chn_r {w : Int → Int} {k : Int} : chn w k k = true := by unfold chn; rw [chF, if_pos rfl]
theorem chn_t {w : Int → Int} (hw : ∀ k, 0 ≤ k → k < 20 → -1 ≤ w k ∧ w k < k) {b c : Int} (h2 : chn w b c = true) : ∀ a, -1 ≤ a → a < 20 → chn w a b = true → chn w a c = true := by
  intro a ha
  refine lpD (P := fun a => a < 20 → chn w a b = true → chn w a c = true) (fun k k0 ih k1 h => ?_) a ha
  rw [chn_u hw k0 k1] at h
  by_cases hb : k = b
  · rw [hb]; exact h2
  · rw [if_neg hb] at h
    by_cases hn : k < 0
    · rw [if_pos hn] at h; exact absurd h (by decide)
    · rw [if_neg hn] at h
      have := hw k (by omega) k1
      rw [chn_u hw k0 k1, ih (w k) (by omega) (by omega) (by omega) h, if_neg hn]
      split <;> rfl
theorem chn_le {w : Int → Int} (hw : ∀ k, 0 ≤ k → k < 20 → -1 ≤ w k ∧ w k < k) {o : Int} : ∀ k, -1 ≤ k → k < 20 → chn w k o = true → o ≤ k := by
  intro a ha
  refine lpD (P := fun a => a < 20 → chn w a o = true → o ≤ a) (fun k k0 ih k1 h => ?_) a ha
  rw [chn_u hw k0 k1] at h
  by_cases hb : k = o
  · omega
  · rw [if_neg hb] at h
    by_cases hn : k < 0
    · rw [if_pos hn] at h; exact absurd h (by decide)
    · rw [if_neg hn] at h
      have := hw k (by omega) k1
      have := ih (w k) (by omega) (by omega) (by omega) h
      omega
/-- strictly inside: what is around it is inside, too -/
theorem chn_w {w : Int → Int} (hw : ∀ k, 0 ≤ k → k < 20 → -1 ≤ w k ∧ w k < k) {k o : Int} (k0 : -1 ≤ k) (k1 : k < 20) (h : chn w k o = true) (hn : k ≠ o) : 0 ≤ k ∧ chn w (w k) o = true := by
  rw [chn_u hw k0 k1, if_neg hn] at h
  by_cases hn : k < 0
  · rw [if_pos hn] at h; exact absurd h (by decide)
  · rw [if_neg hn] at h
    exact ⟨by omega, h⟩
theorem chn_o {w : Int → Int} (hw : ∀ k, 0 ≤ k → k < 20 → -1 ≤ w k ∧ w k < k) {k o : Int} (k0 : 0 ≤ k) (k1 : k < 20) (h : chn w k o = true) (o0 : 0 ≤ o) : chn w k (w o) = true := by
  have := hw o o0 (by have := chn_le hw k (by omega) k1 h; omega)
  refine chn_t hw ?_ k (by omega) k1 h
  rw [chn_u hw (by omega) (by have := chn_le hw k (by omega) k1 h; omega), if_neg (by omega), if_neg (by omega)]
  exact chn_r
def TI (J : ST) : Prop := RB J ∧ ((J 22 0 0) = 0 ∧ (J 23 0 0) = -1 ∧ (J 24 0 0) = 0 ∧ (J 35 0 0) = 0 ∧ (J 34 0 0) = -1) ∧ (∀ s, 0 < s → s < (J 12 0 13) → 0 ≤ (J 34 0 s)) ∧ (∀ s, 0 ≤ s → s < (J 12 0 13) → (J 35 0 s) < (J 12 0 1) ∧ (J 24 0 ((J 35 0 s))) = s) ∧ (∀ t, 0 ≤ t → t < (J 12 0 1) → (J 24 0 t) < (J 12 0 13) ∧ (J 23 0 t) < (J 12 0 1) ∧ (J 25 0 t) < (J 12 0 17) ∧ (J 26 0 t) < (J 12 0 28)) ∧ (∀ t, 0 ≤ t → t < (J 12 0 1) → (J 22 0 t) ≠ 2 → 0 ≤ (J 23 0 t) → lin J ((J 24 0 t)) ((J 24 0 ((J 23 0 t)))) = true ∧ ((J 35 0 ((J 24 0 t))) = t → (J 24 0 ((J 23 0 t))) ≠ (J 24 0 t))) ∧ (∀ t s, 0 ≤ t → t < (J 12 0 1) → 0 ≤ s → s < (J 12 0 13) → ((J 22 0 t) = 2 → (J 32 0 (20 * t + s)) = 0) ∧ ((J 22 0 t) ≠ 2 → ((J 32 0 (20 * t + s)) ≠ 0 ↔ lin J ((J 24 0 t)) s = true)))
section TIs
variable {J : ST}
theorem RB.aw (hB : RB J) : ∀ k, 0 ≤ k → k < 20 → -1 ≤ (J 34 0 k) ∧ (J 34 0 k) < k := fun k a b => ⟨(RB.around hB a b).1, RB.arw hB a b⟩
theorem RB.ww (hB : RB J) : ∀ k, 0 ≤ k → k < 20 → -1 ≤ (J 38 0 k) ∧ (J 38 0 k) < k := fun k a b => ⟨(RB.within hB a b).1, RB.wiw hB a b⟩
theorem TI.ar0 (h : TI J) {s : Int} (s0 : 0 ≤ s) (s1 : s < (J 12 0 13)) (hs : s ≠ 0) : 0 ≤ (J 34 0 s) := h.2.2.1 s (by omega) s1
/-- task 0 isn't in the space of another INIT -/
theorem TI.em0 (h : TI J) {t : Int} (t0 : 0 < t) (t1 : t < (J 12 0 1)) (hi : (J 35 0 ((J 24 0 t))) = t) : lin J 0 ((J 24 0 t)) = false := by
  obtain ⟨hB, h0, -, -, h4, -⟩ := h
  have := RB.tasks hB
  have := RB.space hB (j := t) (by omega) (by omega)
  rw [← Bool.not_eq_true]
  intro q
  have := chn_le (RB.aw hB) 0 (by omega) (by omega) q
  have e : (J 24 0 t) = 0 := by omega
  rw [e] at hi
  omega
theorem TI.sp0 (h : TI J) {t : Int} (t0 : 0 < t) (t1 : t < (J 12 0 1)) (hi : (J 35 0 ((J 24 0 t))) = t) : 0 ≤ (J 34 0 ((J 24 0 t))) := by
  have hB := h.1
  have := RB.tasks hB
  have := RB.space hB (j := t) (by omega) (by omega)
  refine h.ar0 (by omega) (h.2.2.2.2.1 t (by omega) t1).1 ?_
  intro q
  have := h.em0 t0 t1 hi
  rw [q] at this
  rw [lin, chn_r] at this
  exact absurd this (by decide)
theorem TI.fg (h : TI J) {c : Int → Bool} (hc : c 0 = false) : TI (fgA J c) := by
  obtain ⟨hB, h0, h2, h3, h4, h5, h6⟩ := h
  have el : lin (fgA J c) = lin J := lin_c (fun k => by simp [fgA])
  have e24 : ∀ j, fgA J c 24 0 j = J 24 0 j := fun j => by simp [fgA]
  have e35 : ∀ j, fgA J c 35 0 j = J 35 0 j := fun j => by simp [fgA]
  have e34 : ∀ j, fgA J c 34 0 j = J 34 0 j := fun j => by simp [fgA]
  have e25 : ∀ j, fgA J c 25 0 j = J 25 0 j := fun j => by simp [fgA]
  have e26 : ∀ j, fgA J c 26 0 j = J 26 0 j := fun j => by simp [fgA]
  have e12 : ∀ j, fgA J c 12 0 j = J 12 0 j := fun j => by simp [fgA]
  have e22 : ∀ j, fgA J c 22 0 j = if c j = true then 2 else J 22 0 j := fun j => by simp [fgA]
  have e23 : ∀ j, fgA J c 23 0 j = if c j = true then -1 else J 23 0 j := fun j => by simp [fgA]
  have e32 : ∀ j, fgA J c 32 0 j = if c (j / 20) = true then 0 else J 32 0 j := fun j => by simp [fgA]
  refine ⟨hB.fg c, ?_, ?_, ?_, ?_, ?_, ?_⟩
  · rw [e22, e23, e24, e35, e34, hc]; exact h0
  · intro s; rw [e12, e34]; exact h2 s
  · intro s; rw [e12, e12, e35, e24]; exact h3 s
  · intro t t0 t1
    rw [e12] at t1
    rw [e24, e23, e25, e26, e12, e12, e12, e12]
    have hh := h4 t t0 t1
    have := RB.tasks hB
    refine ⟨hh.1, ?_, hh.2.2⟩
    split <;> omega
  · intro t t0 t1 s0 p0
    rw [e12] at t1
    rw [e22] at s0
    by_cases ct : c t = true
    · rw [if_pos ct] at s0; exact absurd rfl s0
    · rw [if_neg ct] at s0
      rw [e23, if_neg ct] at p0 ⊢
      rw [el, e24, e24, e35]
      exact h5 t t0 t1 s0 p0
  · intro t s t0 t1 s0 s1
    rw [e12] at t1 s1
    have := RB.spaces hB
    rw [el, e24, e22, e32, show (20 * t + s) / 20 = t by omega]
    by_cases ct : c t = true
    · rw [if_pos ct, if_pos ct]; exact ⟨fun _ => rfl, fun q => absurd rfl q⟩
    · rw [if_neg ct, if_neg ct]
      exact h6 t s t0 t1 s0 s1
theorem TI.hei (h : TI J) {t : Int} (t0 : 0 < t) (t1 : t < (J 12 0 1)) : 0 ≤ heI J t ∧ heI J t < (J 12 0 1) := by
  have hB := h.1
  have hs := h.2.2.2.2.1 t (by omega) t1
  have := RB.tasks hB
  have := RB.space hB (j := t) (by omega) (by omega)
  unfold heI
  split
  · rename_i q
    have a0 := h.sp0 t0 t1 q
    have := RB.arw hB (j := ((J 24 0 t))) (by omega) (by omega)
    have := RB.spaces hB
    have := RB.init hB (j := ((J 34 0 ((J 24 0 t))))) (by omega) (by omega)
    have := h.2.2.2.1 ((J 34 0 ((J 24 0 t)))) a0 (by omega)
    omega
  · have := RB.spaces hB
    have := RB.init hB (j := ((J 24 0 t))) (by omega) (by omega)
    have := h.2.2.2.1 ((J 24 0 t)) (by omega) hs.1
    omega
theorem TI.en (h : TI J) {t : Int} (t0 : 0 < t) (t1 : t < (J 12 0 1)) (ht : (J 22 0 t) ≠ 2) : TI (enI J t) := by
  have hh := h.hei t0 t1
  have hsp := fun q => h.sp0 t0 t1 q
  obtain ⟨hB, h0, h2, h3, h4, h5, h6⟩ := h
  have tk := RB.tasks hB
  have el : lin (enI J t) = lin J := lin_c (fun k => by simp [enI, enN])
  have e24 : ∀ j, enI J t 24 0 j = J 24 0 j := fun j => by simp [enI, enN]
  have e35 : ∀ j, enI J t 35 0 j = J 35 0 j := fun j => by simp [enI, enN]
  have e34 : ∀ j, enI J t 34 0 j = J 34 0 j := fun j => by simp [enI, enN]
  have e25 : ∀ j, enI J t 25 0 j = J 25 0 j := fun j => by simp [enI, enN]
  have e26 : ∀ j, enI J t 26 0 j = J 26 0 j := fun j => by simp [enI, enN]
  have e12 : ∀ j, enI J t 12 0 j = J 12 0 j := fun j => by simp [enI, enN]
  have e32 : ∀ j, enI J t 32 0 j = J 32 0 j := fun j => by simp [enI, enN]
  have e22 : ∀ j, enI J t 22 0 j = if j = t then 1 else J 22 0 j := fun j => by simp [enI, enN]
  have e23 : ∀ j, enI J t 23 0 j = if 0 ≤ j ∧ j < J 12 0 1 ∧ J 22 0 j ≠ 2 ∧ J 23 0 j = t then heI J t else J 23 0 j := fun j => by simp [enI, enN]
  refine ⟨hB.en (by omega), ?_, ?_, ?_, ?_, ?_, ?_⟩
  · rw [e22, e23, e24, e35, e34, if_neg (by omega), if_neg (by omega)]; exact h0
  · intro s; rw [e12, e34]; exact h2 s
  · intro s; rw [e12, e12, e35, e24]; exact h3 s
  · intro x x0 x1
    rw [e12] at x1
    rw [e24, e23, e25, e26, e12, e12, e12, e12]
    have := h4 x x0 x1
    refine ⟨this.1, ?_, this.2.2⟩
    split <;> omega
  · intro x x0 x1 s0 p0
    rw [e12] at x1
    have s0 : (J 22 0 x) ≠ 2 := by
      rw [e22] at s0
      intro q
      by_cases hx : x = t
      · rw [hx] at q; exact ht q
      · rw [if_neg hx] at s0; exact s0 q
    rw [e23] at p0 ⊢
    rw [el, e24, e24, e35]
    by_cases hp : (J 23 0 x) = t
    · rw [if_pos ⟨x0, x1, s0, hp⟩] at p0 ⊢
      have g := h5 x x0 x1 s0 (by omega)
      rw [hp] at g
      have b1 := RB.space hB (j := t) (by omega) (by omega)
      have b2 := RB.space hB (j := x) (by omega) (by omega)
      have b3 := h4 t (by omega) t1
      unfold heI
      split
      · rename_i hi
        have a0 := hsp hi
        have a1 := RB.arw hB (j := (J 24 0 t)) (by omega) (by omega)
        have := h3 ((J 34 0 ((J 24 0 t)))) a0 (by omega)
        rw [this.2]
        refine ⟨chn_o (RB.aw hB) (by omega) (by omega) g.1 (by omega), fun _ q => ?_⟩
        have := chn_le (RB.aw hB) _ (by omega) (by omega) g.1
        omega
      · rename_i hi
        have := h3 ((J 24 0 t)) (by omega) b3.1
        rw [this.2]
        exact g
    · rw [if_neg (fun q => hp q.2.2.2)] at p0 ⊢
      exact h5 x x0 x1 s0 p0
  · intro x s x0 x1 s0 s1
    rw [e12] at x1 s1
    rw [el, e24, e22, e32]
    have := h6 x s x0 x1 s0 s1
    by_cases hx : x = t
    · subst hx
      rw [if_pos rfl]
      exact ⟨fun q => absurd q (by omega), fun _ => this.2 ht⟩
    · rw [if_neg hx]; exact this
theorem TI.ecl (h : TI J) {t : Int} (t0 : 0 < t) (t1 : t < (J 12 0 1)) (hi : (J 35 0 ((J 24 0 t))) = t) : emCl J t := by
  have hsp := h.sp0 t0 t1 hi
  obtain ⟨hB, h0, h2, h3, h4, h5, h6⟩ := h
  have tk := RB.tasks hB
  have b1 := RB.space hB (j := t) (by omega) (by omega)
  have hw := RB.aw hB
  refine ⟨fun j j0 j1 js hp => ?_, fun j hj hij => ?_⟩
  · obtain ⟨q1, q2⟩ := emD_i.mp hp
    have g := h5 j j0 j1 js q1.1
    have b2 := RB.space hB (j := j) (by omega) (by omega)
    have b3 := RB.space hB (j := (J 23 0 j)) (by omega) (by omega)
    have tr : lin J ((J 24 0 j)) ((J 24 0 t)) = true := chn_t hw q2 _ (by omega) (by omega) g.1
    refine emD_i.mpr ⟨⟨j0, j1, ?_, js⟩, tr⟩
    intro q
    subst q
    have l1 := chn_le hw _ (by omega) (by omega) g.1
    have l2 := chn_le hw _ (by omega) (by omega) q2
    exact g.2 hi (by omega)
  · obtain ⟨q1, q2⟩ := emD_i.mp hj
    have b2 := RB.space hB (j := j) (by omega) (by omega)
    by_cases hs : (J 24 0 j) = 0
    · rw [hs] at q2 hij
      have := chn_le hw _ (by omega) (by omega) q2
      have e : (J 24 0 t) = 0 := by omega
      rw [e] at hi
      omega
    · exact h2 _ (by omega) (h4 j q1.1 q1.2.1).1
theorem TI.pg (h : TI J) {J' : ST} (hB : RB J') (hk : ∀ k i j, k ≠ 27 → k ≠ 43 → (k ≠ 12 ∨ j ≠ 27) → J' k i j = J k i j) : TI J' := by
  obtain ⟨-, h0, h2, h3, h4, h5, h6⟩ := h
  have el : lin J' = lin J := lin_c (fun k => hk _ _ _ (by omega) (by omega) (by omega))
  have e1 : ∀ j, j ≠ 27 → J' 12 0 j = J 12 0 j := fun j hj => hk _ _ _ (by omega) (by omega) (by omega)
  have e2 : ∀ k, k ≠ 12 → k ≠ 27 → k ≠ 43 → ∀ j, J' k 0 j = J k 0 j := fun k a b c j => hk _ _ _ (by omega) (by omega) (by omega)
  refine ⟨hB, ?_, ?_, ?_, ?_, ?_, ?_⟩
  all_goals simp (disch := omega) only [el, e1, e2]
  all_goals assumption
theorem TI.em (h : TI J) {t : Int} (t0 : 0 < t) (t1 : t < (J 12 0 1)) (hi : (J 35 0 ((J 24 0 t))) = t) : TI (emI J t) := by
  have hB := h.1
  have e0 := h.em0 t0 t1 hi
  have hP : RB (emP J t) := by
    obtain ⟨g1, g2, g3, g4, g5, g6⟩ := hB
    refine ⟨fun r hr a a0 a1 => ?_, fun g g0 g1 => ?_, ?_, ?_, ?_, ?_⟩
    · have := g1 r hr a a0 a1
      have e3 : ∀ r ∈ rbt, r.1 = 27 → r.2.1 = 0 ∧ r.2.2.1 = 1000000 := by decide
      unfold emP
      split
      · rename_i hh; have := e3 r hr hh.1; omega
      · exact this
    · have := g2 g g0 (by assumption)
      simpa [emP] using this
    all_goals simpa [emP]
  refine TI.fg (TI.pg h hP (fun k i j a b c => by unfold emP; rw [if_neg (fun q => a q.1)])) ?_
  rw [← Bool.not_eq_true, emD_i, h.2.1.2.2.1, e0]
  exact fun q => absurd q.2 (by decide)
theorem TI.lz (h : TI J) : TI (lzI J) := by
  refine TI.fg h ?_
  have := h.2.1.1
  unfold lzC
  exact decide_eq_false (by omega)
theorem TI.lv (h : TI J) {t : Int} (t0 : 0 < t) (t1 : t < (J 12 0 1)) (ht : (J 22 0 t) ≠ 2) : TI (lvI J t) := by
  have h1 := h.en t0 t1 ht
  unfold lvI
  split
  · rename_i hi
    refine (TI.em h1 t0 ?_ ?_).lz
    · simp [enI, enN]; exact t1
    · simp [enI, enN]; exact hi
  · exact h1.lz
theorem TI.leave (h : TI J) {t : Int} (t0 : 0 < t) (t1 : t < (J 12 0 1)) (ht : (J 22 0 t) ≠ 2) (hi : (J 35 0 ((J 24 0 t))) = t) : emCl (enI J t) t := by
  refine TI.ecl (h.en t0 t1 ht) t0 ?_ ?_
  · simp [enI, enN]; exact t1
  · simp [enI, enN]; exact hi
end TIs
end
section
/-! the reference: makeRoom -/
section LV
variable {J : ST} {v : Int}
theorem lv_f {k : Nat} {i j : Int} (h : k ≠ 22 ∧ k ≠ 23 ∧ k ≠ 27 ∧ k ≠ 32) : lvI J v k i j = J k i j := by
  unfold lvI lzI
  split <;> simp [fgA, emI, emP, enI, enN, h]
theorem lv_s {j : Int} (h : lvI J v 22 0 j = 0) : J 22 0 j = 0 ∧ j ≠ v := by
  unfold lvI lzI at h
  split at h
  · simp only [fgA, emI, emP, enI, enN] at h
    grind
  · simp only [fgA, enI, enN] at h
    grind
theorem lv_p {j : Int} (h : 0 ≤ J 27 0 j) : lvI J v 27 0 j ≤ J 27 0 j := by
  unfold lvI lzI
  split
  · simp only [fgA, emI, emP, enI, enN]
    grind
  · simp only [fgA, enI, enN]
    grind
end LV
theorem sm_n0 {f : Int → Int} {n : Int} (h : ∀ k, 0 ≤ k → k < n → 0 ≤ f k) : 0 ≤ sm f n := by
  have := sm_le (f := fun _ => 0) (f' := f) (n := n) h
  have z : sm (fun _ => 0) n = 0 := by
    unfold sm
    generalize n.toNat = m
    induction m with
    | zero => rfl
    | succ m ih => rw [smN, ih]; rfl
  omega
theorem usF_n {J : ST} (hB : RB J) {g : Int} : 0 ≤ usF J g := by
  have := RB.tasks hB
  have := RB.groups hB
  have h1 : 0 ≤ sm (usT J g) (J 12 0 1) := sm_n0 (fun k k0 k1 => by
    have := RB.pages hB (j := k) (by omega) (by omega)
    unfold usT
    split <;> omega)
  have h2 : 0 ≤ sm (usK J g) (J 12 0 17) := sm_n0 (fun k k0 k1 => by
    have := RB.cached hB (j := k) (by omega) (by omega)
    unfold usK
    split <;> omega)
  unfold usF
  omega
/-- no group uses more than it may -/
def GU (J : ST) : Prop := ∀ g, 0 ≤ g → g < (J 12 0 17) → usF J g ≤ (J 40 0 g)
/-- J' has fewer live tasks, pages and caches than J, all else that groups show is the same -/
def LE (J J' : ST) : Prop := (∀ k i j, k ≠ 22 → k ≠ 23 → k ≠ 27 → k ≠ 32 → k ≠ 43 → (k ≠ 12 ∨ j ≠ 27) → J' k i j = J k i j) ∧ (∀ j, J' 22 0 j = 0 → J 22 0 j = 0) ∧ (∀ j, 0 ≤ j → j < 150 → J' 27 0 j ≤ J 27 0 j) ∧ ∀ j, 0 ≤ j → j < 20 → J' 43 0 j ≤ J 43 0 j
theorem LE.r {J : ST} : LE J J := ⟨fun _ _ _ _ _ _ _ _ _ => rfl, fun _ h => h, fun _ _ _ => Int.le_refl _, fun _ _ _ => Int.le_refl _⟩
theorem LE.t {J J' J'' : ST} (h : LE J J') (h' : LE J' J'') : LE J J'' := by
  refine ⟨fun k i j a b c d e f => (h'.1 k i j a b c d e f).trans (h.1 k i j a b c d e f), fun j q => h.2.1 j (h'.2.1 j q), fun j a b => Int.le_trans (h'.2.2.1 j a b) (h.2.2.1 j a b), fun j a b => Int.le_trans (h'.2.2.2 j a b) (h.2.2.2 j a b)⟩
theorem LE.us {J J' : ST} (h : LE J J') (hB : RB J) {g : Int} : usF J' g ≤ usF J g := by
  obtain ⟨h1, h2, h3, h4⟩ := h
  have ew : win J' = win J := win_c (fun k => h1 _ _ _ (by omega) (by omega) (by omega) (by omega) (by omega) (by omega))
  have et : J' 12 0 1 = J 12 0 1 := h1 _ _ _ (by omega) (by omega) (by omega) (by omega) (by omega) (by omega)
  have eg : J' 12 0 17 = J 12 0 17 := h1 _ _ _ (by omega) (by omega) (by omega) (by omega) (by omega) (by omega)
  have := RB.tasks hB
  have := RB.groups hB
  have a1 : sm (usT J' g) (J 12 0 1) ≤ sm (usT J g) (J 12 0 1) := sm_le (fun k k0 k1 => by
    have := RB.pages hB (j := k) (by omega) (by omega)
    have := h3 k k0 (by omega)
    have e := h1 25 0 k (by omega) (by omega) (by omega) (by omega) (by omega) (by omega)
    unfold usT
    rw [ew, e]
    by_cases q : J' 22 0 k = 0 ∧ win J (J 25 0 k) g = true
    · rw [if_pos q, if_pos ⟨h2 k q.1, q.2⟩]; omega
    · rw [if_neg q]; split <;> omega)
  have a2 : sm (usK J' g) (J 12 0 17) ≤ sm (usK J g) (J 12 0 17) := sm_le (fun k k0 k1 => by
    have := RB.cached hB (j := k) (by omega) (by omega)
    have := h4 k k0 (by omega)
    unfold usK
    rw [ew]
    split <;> omega)
  unfold usF
  rw [et, eg]
  omega
theorem LE.gu {J J' : ST} (h : LE J J') (hB : RB J) (hU : GU J) : GU J' := by
  intro g g0 g1
  have e1 := h.1 12 0 17 (by omega) (by omega) (by omega) (by omega) (by omega) (by omega)
  have e2 := h.1 40 0 g (by omega) (by omega) (by omega) (by omega) (by omega) (by omega)
  have := hU g g0 (by omega)
  have := h.us hB (g := g)
  rw [e2]
  omega
theorem LE.lv {J : ST} (hB : RB J) {v : Int} : LE J (lvI J v) := by
  refine ⟨fun k i j a b c d _ _ => lv_f ⟨a, b, c, d⟩, fun j h => (lv_s h).1, fun j a b => ?_, fun j _ _ => ?_⟩
  · have := RB.pages hB (j := j) (by omega) (by omega)
    exact lv_p (by omega)
  · rw [lv_f (by decide)]; exact Int.le_refl _
theorem LE.vi {J : ST} {v : Int} : LE J (up J 12 0 27 v) := by
  refine ⟨fun k i j a b c d e f => ?_, fun j h => ?_, fun j a b => ?_, fun j _ _ => ?_⟩
  · unfold up; rw [if_neg (by omega)]
  · rwa [up_k (by decide)] at h
  · rw [up_k (by decide)]; exact Int.le_refl _
  · rw [up_k (by decide)]; exact Int.le_refl _
theorem RB.vi {J : ST} (hB : RB J) {v : Int} : RB (up J 12 0 27 v) := hB.uS (by omega) (by omega) (by omega) (by omega)
theorem TI.vi {J : ST} (h : TI J) {v : Int} : TI (up J 12 0 27 v) := h.pg h.1.vi (fun k i j a b c => by unfold up; rw [if_neg (by omega)])
theorem tc_inv {g : Int} : ∀ (n : Nat) (J : ST) (l : Int), TI J → TI (tcF g n J l) ∧ LE J (tcF g n J l) ∧ ∀ j, tcF g n J l 22 0 j = J 22 0 j := by
  intro n
  induction n with
  | zero => intro J l h; exact ⟨h, LE.r, fun _ => rfl⟩
  | succ n ih =>
    intro J l h
    rw [tcF]
    split
    · split
      · exact ⟨h, LE.r, fun _ => rfl⟩
      · have hB := h.1
        have b := rcF_b hB (g := g)
        have := RB.groups hB
        have := RB.cached hB (j := (rcF J g)) (by omega) (by omega)
        have q : RB (up J 43 0 (rcF J g) ((J 43 0 (rcF J g)) - min (J 43 0 (rcF J g)) l)) := RB.u_cached hB (by omega) (by omega)
        have h' : TI (up J 43 0 (rcF J g) ((J 43 0 (rcF J g)) - min (J 43 0 (rcF J g)) l)) := h.pg q (fun k i j a b c => by rw [up_k b])
        have := ih _ (l - min (J 43 0 (rcF J g)) l) h'
        refine ⟨this.1, LE.t ⟨fun k i j a b c d e f => up_k e, fun j q => ?_, fun j a b => ?_, fun j a b => ?_⟩ this.2.1, fun j => ?_⟩
        · rwa [up_k (by decide)] at q
        · rw [up_k (by decide)]; exact Int.le_refl _
        · by_cases hj : j = rcF J g
          · rw [hj, up_s]; omega
          · rw [up_j hj]; exact Int.le_refl _
        · rw [this.2.2 j, up_k (by decide)]
    · exact ⟨h, LE.r, fun _ => rfl⟩
/-- victims are killed, m at most -/
def kvF (t g n : Int) : Nat → ST → Int × ST
  | 0, J => (0, J)
  | m + 1, J => if (J 40 0 g) < usF J g + n then (if viF J g < 0 then (-3, J) else (if lvI (up J 12 0 27 ((J 12 0 27) + 1)) (viF J g) 22 0 t = 0 then kvF t g n m (lvI (up J 12 0 27 ((J 12 0 27) + 1)) (viF J g)) else (-5, lvI (up J 12 0 27 ((J 12 0 27) + 1)) (viF J g)))) else (0, J)
theorem vi_inv {J : ST} {g v : Int} (h : TI J) (q : ¬ viF J g < 0) : TI (lvI (up J 12 0 27 v) (viF J g)) ∧ LE J (lvI (up J 12 0 27 v) (viF J g)) := by
  have hB := h.1
  have b := viF_b hB (g := g)
  have p := viF_p hB (g := g) (by omega)
  refine ⟨TI.lv h.vi (by omega) ?_ ?_, LE.t LE.vi (LE.lv hB.vi)⟩
  · rw [up_j (by decide)]; exact b.2
  · rw [up_k (by decide)]; omega
theorem kv_inv {t g n : Int} : ∀ (m : Nat) (J : ST), TI J → (J 22 0 t) = 0 → TI (kvF t g n m J).2 ∧ LE J (kvF t g n m J).2 ∧ (¬ (kvF t g n m J).1 < 0 → (kvF t g n m J).1 = 0 ∧ (kvF t g n m J).2 22 0 t = 0) := by
  intro m
  induction m with
  | zero => intro J h ht; exact ⟨h, LE.r, fun _ => ⟨rfl, ht⟩⟩
  | succ m ih =>
    intro J h ht
    rw [kvF]
    split
    · split
      · exact ⟨h, LE.r, fun q => absurd (by show (-3 : Int) < 0; decide) q⟩
      · rename_i q
        have := vi_inv (v := (J 12 0 27) + 1) h q
        split
        · rename_i hs
          have i := ih _ this.1 hs
          exact ⟨i.1, LE.t this.2 i.2.1, i.2.2⟩
        · exact ⟨this.1, this.2, fun q => absurd (by show (-5 : Int) < 0; decide) q⟩
    · exact ⟨h, LE.r, fun _ => ⟨rfl, ht⟩⟩
/-- how many may be killed -/
def kcT (J : ST) (k : Int) : Int := if k ≠ 0 ∧ (J 22 0 k) = 0 then 1 else 0
def kcF (J : ST) : Int := sm (kcT J) (J 12 0 1)
theorem kc_lv {J : ST} (hB : RB J) {v : Int} (v0 : 0 < v) (v1 : v < (J 12 0 1)) (hv : (J 22 0 v) = 0) : kcF (lvI J v) < kcF J := by
  unfold kcF
  rw [lv_f (by decide)]
  have : sm (kcT (lvI J v)) (J 12 0 1) ≤ sm (fun k => if k = v then 0 else kcT J k) (J 12 0 1) := sm_le (fun k k0 k1 => by
    unfold kcT
    by_cases q : k ≠ 0 ∧ lvI J v 22 0 k = 0
    · have := lv_s q.2
      rw [if_pos q, if_neg this.2, if_pos ⟨q.1, this.1⟩]; exact Int.le_refl _
    · rw [if_neg q]; split
      · decide
      · split <;> decide)
  have e := sm_u (f := kcT J) (f' := fun k => if k = v then 0 else kcT J k) (n := (J 12 0 1)) (x := v) (by omega) v1 (fun k _ _ hk => by rw [if_neg hk])
  rw [if_pos rfl, show kcT J v = 1 by rw [kcT, if_pos ⟨by omega, hv⟩]] at e
  omega
theorem kc_b {J : ST} (hB : RB J) : kcF J < 150 := by
  have := RB.tasks hB
  have h : ∀ m : Nat, smN (kcT J) (m + 1) ≤ m := by
    intro m
    induction m with
    | zero => rw [smN, smN, kcT, if_neg (by omega)]; decide
    | succ m ih =>
      rw [smN]
      have : kcT J ((m + 1 : Nat) : Int) ≤ 1 := by unfold kcT; split <;> decide
      omega
  have := h ((J 12 0 1) - 1).toNat
  unfold kcF sm
  rw [show (J 12 0 1).toNat = ((J 12 0 1) - 1).toNat + 1 by omega]
  omega
theorem kc_0 {J : ST} (hB : RB J) {g : Int} (h : kcF J ≤ 0) : viF J g < 0 := by
  by_cases q : viF J g < 0
  · exact q
  · exfalso
    have b := viF_b hB (g := g)
    have p := viF_p hB (g := g) (by omega)
    have := sm_ge (f := kcT J) (fun k => by unfold kcT; split <;> decide) (t := viF J g) (by omega) b.2
    rw [show kcT J (viF J g) = 1 by rw [kcT, if_pos ⟨p.1, p.2.1⟩]] at this
    unfold kcF at h
    omega
section RA
variable {e : EN} {C : ST} {z : Nat × Nat × Nat × Nat}
theorem makeRoom28_ev (hA : WA e z) (hR : WR e) {t n f g : Int} (n0 : 0 ≤ n) (n1 : n ≤ 1000000) (t0 : 0 ≤ t) (g0 : 0 ≤ g) (g1 : g < 20) : ∀ (m : Nat) (I : ST), TI I → GU I → t < (I 12 0 1) → g < (I 12 0 17) → (I 22 0 t) = 0 → kcF I < m → ∀ r, ((kvF t g n m I).1 < 0 → r = rI (kvF t g n m I).1 (HS e C (kvF t g n m I).2 z)) → (¬ (kvF t g n m I).1 < 0 → usF (kvF t g n m I).2 g + n ≤ (I 40 0 g) → Ev (fun F => xci (J12_tooFull F (rf e 12 0) (xk f) (xk n) (HS e C (kvF t g n m I).2 z)) fun v14 s13 => J12_makeRoom_15 F (rf e 12 0) (xk t) (xk n) (xk f) v14 s13) r) → Ev (fun F => J12_makeRoom_28 F (rf e 12 0) (xk t) (xk n) (xk f) (xk g) (HS e C I z)) r := by
  intro m
  induction m with
  | zero =>
    intro I hT hU t1 g1 ht hc r hz hk
    have hB := hT.1
    exfalso
    have : 0 ≤ kcF I := sm_nn (fun k => by unfold kcT; split <;> decide) _
    omega
  | succ m ih =>
    intro I hT hU t1 g1 ht hc r hz hk
    have hB := hT.1
    have u0 := usF_n hB (g := g)
    have u1 := hU g g0 g1
    have := RB.max hB (j := g) (by omega) (by omega)
    have := RB.tasks hB
    rw [kvF] at hz hk
    refine Ev.step (fun F => E12_makeRoom_28 F _ _ _ _ _ _) ?_
    simp (disch := omega) only [a_22 hA hR, a_40 hA hR, d_12 hA hR, g_12_2 hA hR, g_12_20 hA hR, g_12_27 hA hR, p_12_27 hA hR, Option.bind_some, up_s, up_k, up_j, up_i, xk_add, xk_sub, xk_mul, xk_neg, lk_add, lN_z, rf_none, rb1, rb0, rbp, xk_nI, zk_eq, zk_lt, zk_eq0, zk_lt0, zk_0lt, zk_long, lz_lt, lz_gt, zmax, zmin, ↓reduceIte, Int.reduceEq, Int.reduceLT, Int.reduceNeg, Int.reduceAdd, Int.reduceSub, Int.reduceMul, Int.ofNat_eq_natCast, Int.cast_ofNat_Int]
    refine Ev.kI (uses_ev hA hR hB (by omega) (by omega)) ?_
    try simp (disch := omega) only [a_22 hA hR, a_40 hA hR, d_12 hA hR, g_12_2 hA hR, g_12_20 hA hR, g_12_27 hA hR, p_12_27 hA hR, Option.bind_some, up_s, up_k, up_j, up_i, xk_add, xk_sub, xk_mul, xk_neg, lk_add, lN_z, rf_none, rb1, rb0, rbp, xk_nI, zk_eq, zk_lt, zk_eq0, zk_lt0, zk_0lt, zk_long, lz_lt, lz_gt, zmax, zmin, ↓reduceIte, Int.reduceEq, Int.reduceLT, Int.reduceNeg, Int.reduceAdd, Int.reduceSub, Int.reduceMul, Int.ofNat_eq_natCast, Int.cast_ofNat_Int]
    refine Ev.ite (fun h => ?_) (fun h => ?_)
    · rw [if_pos h] at hz hk
      refine Ev.kI (victim_ev hA hR hB (by omega) (by omega)) ?_
      have b := viF_b hB (g := g)
      try simp (disch := omega) only [a_22 hA hR, a_40 hA hR, d_12 hA hR, g_12_2 hA hR, g_12_20 hA hR, g_12_27 hA hR, p_12_27 hA hR, Option.bind_some, up_s, up_k, up_j, up_i, xk_add, xk_sub, xk_mul, xk_neg, lk_add, lN_z, rf_none, rb1, rb0, rbp, xk_nI, zk_eq, zk_lt, zk_eq0, zk_lt0, zk_0lt, zk_long, lz_lt, lz_gt, zmax, zmin, ↓reduceIte, Int.reduceEq, Int.reduceLT, Int.reduceNeg, Int.reduceAdd, Int.reduceSub, Int.reduceMul, Int.ofNat_eq_natCast, Int.cast_ofNat_Int]
      refine Ev.ite (fun hv => ?_) (fun hv => ?_)
      · rw [if_pos (by omega)] at hz
        exact Ev.ret (hz (by show (-3 : Int) < 0; decide)).symm
      · have hv' : ¬ viF I g < 0 := by omega
        rw [if_neg hv'] at hz hk
        have p := viF_p hB (g := g) (by omega)
        have hV := hT.vi (v := (I 12 0 27) + 1)
        have e1 : up I 12 0 27 ((I 12 0 27) + 1) 12 0 1 = (I 12 0 1) := up_j (by decide)
        have e2 : up I 12 0 27 ((I 12 0 27) + 1) 22 0 (viF I g) = (I 22 0 (viF I g)) := up_k (by decide)
        have hL := leave_ev (C := C) hA hR hV.1 (t := viF I g) (by omega) (by omega) (by omega) (fun q => hV.sp0 (by omega) (by omega) q) (fun q => hV.leave (by omega) (by omega) (by omega) q)
        refine Ev.kI hL ?_
        have i := vi_inv (v := (I 12 0 27) + 1) hT hv'
        have bs := RB.state i.1.1 (j := t) t0 (by omega)
        try simp (disch := omega) only [a_22 hA hR, a_40 hA hR, d_12 hA hR, g_12_2 hA hR, g_12_20 hA hR, g_12_27 hA hR, p_12_27 hA hR, Option.bind_some, up_s, up_k, up_j, up_i, xk_add, xk_sub, xk_mul, xk_neg, lk_add, lN_z, rf_none, rb1, rb0, rbp, xk_nI, zk_eq, zk_lt, zk_eq0, zk_lt0, zk_0lt, zk_long, lz_lt, lz_gt, zmax, zmin, ↓reduceIte, Int.reduceEq, Int.reduceLT, Int.reduceNeg, Int.reduceAdd, Int.reduceSub, Int.reduceMul, Int.ofNat_eq_natCast, Int.cast_ofNat_Int]
        have et : lvI (up I 12 0 27 ((I 12 0 27) + 1)) (viF I g) 12 0 1 = (I 12 0 1) := (lv_f (by decide)).trans e1
        have eg : lvI (up I 12 0 27 ((I 12 0 27) + 1)) (viF I g) 12 0 17 = (I 12 0 17) := (lv_f (by decide)).trans (up_j (by decide))
        have em : lvI (up I 12 0 27 ((I 12 0 27) + 1)) (viF I g) 40 0 g = (I 40 0 g) := (lv_f (by decide)).trans (up_k (by decide))
        refine Ev.ite (fun hs => ?_) (fun hs => ?_)
        · rw [if_pos hs] at hz hk
          refine ih _ i.1 (i.2.gu hB hU) (by omega) (by omega) hs ?_ r hz (by rw [em]; exact hk)
          have := kc_lv hV.1 (v := viF I g) (by omega) (by omega) (by omega)
          have ek : kcF (up I 12 0 27 ((I 12 0 27) + 1)) = kcF I := by
            unfold kcF
            rw [e1]
            exact sm_c (fun k _ _ => by unfold kcT; rw [up_k (by decide)])
          omega
        · rw [if_neg hs] at hz
          exact Ev.ret (hz (by show (-5 : Int) < 0; decide)).symm
    · rw [if_neg h] at hk
      exact hk (by show ¬ (0 : Int) < 0; decide) (by show usF I g + n ≤ _; omega)
end RA
/-! the whole of makeRoom -/
theorem win_n1 {J : ST} (hB : RB J) : ∀ k, -1 ≤ k → k < 20 → win J k (-1) = true := by
  intro k hk
  refine lpD (P := fun k => k < 20 → win J k (-1) = true) (fun k k0 ih k1 => ?_) k hk
  rw [win_u hB k0 k1]
  by_cases h : k = -1
  · rw [if_pos h]
  · have := RB.ww hB k (by omega) k1
    rw [if_neg h, if_neg (by omega)]
    exact ih _ (by omega) (by omega) (by omega)
def tfS (J : ST) (n g : Int) : Int := tfF J n 20 g
theorem tfF_m {J : ST} (hB : RB J) {n : Int} : ∀ (m : Nat) (g : Int), g < m → g < 20 → tfF J n m g = tfF J n (m + 1) g
  | 0, g, h, _ => by rw [tfF, tfF, if_pos (by omega)]
  | m + 1, g, h, h' => by
    rw [tfF, tfF]
    by_cases q : g < 0
    · rw [if_pos q, if_pos q]
    · have := RB.ww hB g (by omega) h'
      rw [if_neg q, if_neg q, tfF_m hB m _ (by omega) (by omega)]
theorem tf_u {J : ST} (hB : RB J) {n g : Int} (g1 : g < 20) : tfS J n g = if g < 0 then g else if (J 40 0 g) < usF J g + n then g else tfS J n (J 38 0 g) := by
  unfold tfS
  rw [tfF_m hB 20 g (by omega) g1, tfF]
theorem tf_b {J : ST} (hB : RB J) {n : Int} : ∀ g, -1 ≤ g → g < 20 → -1 ≤ tfS J n g ∧ tfS J n g ≤ g := by
  intro g hg
  refine lpD (P := fun g => g < 20 → -1 ≤ tfS J n g ∧ tfS J n g ≤ g) (fun g g0 ih g1 => ?_) g hg
  rw [tf_u hB g1]
  split
  · omega
  · split
    · omega
    · have := RB.ww hB g (by omega) g1
      have := ih (J 38 0 g) (by omega) (by omega) (by omega)
      omega
/-- of the groups from f on all before g have room -/
def Bf (J : ST) (n f g : Int) : Prop := ∀ k, 0 ≤ k → k < (J 12 0 17) → win J f k = true → win J g k = false → usF J k + n ≤ (J 40 0 k)
theorem Bf.tf {J : ST} (hB : RB J) {n g : Int} (g0 : -1 ≤ g) : ∀ f, -1 ≤ f → f < (J 12 0 17) → f < 20 → win J f g = true → Bf J n f g → tfS J n f = tfS J n g := by
  have := RB.groups hB
  intro f hf
  refine lpD (P := fun f => f < (J 12 0 17) → f < 20 → win J f g = true → Bf J n f g → tfS J n f = tfS J n g) (fun f f0 ih f1 f2 hw hb => ?_) f hf
  by_cases h : f = g
  · rw [h]
  · have q := chn_w (RB.ww hB) f0 f2 hw h
    have ge := chn_le (RB.ww hB) f f0 f2 hw
    have hn : win J g f = false := by
      rw [← Bool.not_eq_true]
      intro w
      have := chn_le (RB.ww hB) g g0 (by omega) w
      omega
    have hr := hb f q.1 f1 chn_r hn
    have := RB.ww hB f q.1 f2
    rw [tf_u hB f2, if_neg (by omega), if_neg (by omega)]
    refine ih _ (by omega) (by omega) (by omega) (by omega) q.2 (fun k k0 k1 a b => hb k k0 k1 ?_ b)
    rw [win_u hB f0 f2, if_neg (by omega : ¬ f < 0)]
    split
    · rfl
    · exact a
def mrF (t n : Int) : Nat → ST → Int → Int × ST
  | 0, J, _ => (0, J)
  | m + 1, J, g => if g < 0 then (0, J) else if (kvF t g n 150 (tcI J g n)).1 < 0 then kvF t g n 150 (tcI J g n) else mrF t n m (kvF t g n 150 (tcI J g n)).2 (J 38 0 g)
theorem mr_inv {t n : Int} : ∀ (m : Nat) (J : ST) (g : Int), TI J → (J 22 0 t) = 0 → TI (mrF t n m J g).2 ∧ LE J (mrF t n m J g).2 ∧ (¬ (mrF t n m J g).1 < 0 → (mrF t n m J g).1 = 0 ∧ (mrF t n m J g).2 22 0 t = 0) := by
  intro m
  induction m with
  | zero => intro J g h ht; exact ⟨h, LE.r, fun _ => ⟨rfl, ht⟩⟩
  | succ m ih =>
    intro J g h ht
    rw [mrF]
    split
    · exact ⟨h, LE.r, fun _ => ⟨rfl, ht⟩⟩
    · have i := tc_inv (g := g) 20 J (usF J g + n - (J 40 0 g)) h
      have k := kv_inv (t := t) (g := g) (n := n) 150 (tcI J g n) i.1 ((i.2.2 t).trans ht)
      split
      · rename_i q
        exact ⟨k.1, LE.t i.2.1 k.2.1, fun q' => absurd q q'⟩
      · rename_i q
        have := ih (kvF t g n 150 (tcI J g n)).2 (J 38 0 g) k.1 (k.2.2 q).2
        exact ⟨this.1, LE.t (LE.t i.2.1 k.2.1) this.2.1, this.2.2⟩
section RA
variable {e : EN} {C : ST} {z : Nat × Nat × Nat × Nat}
theorem makeRoom15_ev (hA : WA e z) (hR : WR e) {t n f : Int} (n0 : 0 ≤ n) (n1 : n ≤ 1000000) (t0 : 0 ≤ t) : ∀ g, -1 ≤ g → ∀ (I : ST) (m : Nat), TI I → GU I → t < (I 12 0 1) → g < (I 12 0 17) → 0 ≤ f → f < (I 12 0 17) → (I 22 0 t) = 0 → win I f g = true → Bf I n f g → g < m → Ev (fun F => J12_makeRoom_15 F (rf e 12 0) (xk t) (xk n) (xk f) (xk (tfS I n g)) (HS e C I z)) (rI (mrF t n m I g).1 (HS e C (mrF t n m I g).2 z)) := by
  intro g hg
  refine lpD (P := fun g => ∀ (I : ST) (m : Nat), TI I → GU I → t < (I 12 0 1) → g < (I 12 0 17) → 0 ≤ f → f < (I 12 0 17) → (I 22 0 t) = 0 → win I f g = true → Bf I n f g → g < m → Ev (fun F => J12_makeRoom_15 F (rf e 12 0) (xk t) (xk n) (xk f) (xk (tfS I n g)) (HS e C I z)) (rI (mrF t n m I g).1 (HS e C (mrF t n m I g).2 z))) (fun g g0 ih I m hT hU t1 g1 f0 f1 ht hw hb hm => ?_) g hg
  have hB := hT.1
  have := RB.groups hB
  have := RB.tasks hB
  by_cases hn : g < 0
  · rw [tf_u hB (by omega), if_pos hn, show g = -1 by omega]
    refine Ev.step (fun F => E12_makeRoom_15 F _ _ _ _ _ _) ?_
    simp (disch := omega) only [d_12 hA hR, Option.bind_some, up_s, up_k, up_j, up_i, xk_add, xk_sub, xk_mul, xk_neg, lk_add, lN_z, rf_none, rb1, rb0, rbp, xk_nI, zk_eq, zk_lt, zk_eq0, zk_lt0, zk_0lt, zk_long, lz_lt, lz_gt, zmax, zmin, ↓reduceIte, Int.reduceEq, Int.reduceLT, Int.reduceNeg, Int.reduceAdd, Int.reduceSub, Int.reduceMul, Int.ofNat_eq_natCast, Int.cast_ofNat_Int]
    refine Ev.ret ?_
    cases m with
    | zero => rfl
    | succ m => rw [mrF, if_pos (by omega)]; rfl
  · obtain ⟨m, rfl⟩ : ∃ m' : Nat, m = m' + 1 := ⟨m - 1, by omega⟩
    have w := RB.ww hB g (by omega) (by omega)
    have hw' : win I f (I 38 0 g) = true := chn_o (RB.ww hB) f0 (by omega) hw (by omega)
    have u0 := usF_n hB (g := g)
    have u1 := hU g (by omega) g1
    have bm := RB.max hB (j := g) (by omega) (by omega)
    have wk : ∀ k, win I f k = true → win I (I 38 0 g) k = false → win I g k = true → k = g := by
      intro k _ a b
      rw [win_u hB g0 (by omega)] at b
      by_cases h : g = k
      · exact h.symm
      · rw [if_neg h, if_neg hn, a] at b
        exact absurd b (by decide)
    rw [mrF, if_neg hn]
    by_cases hf : (I 40 0 g) < usF I g + n
    · rw [tf_u hB (by omega), if_neg hn, if_pos hf]
      refine Ev.step (fun F => E12_makeRoom_15 F _ _ _ _ _ _) ?_
      simp (disch := omega) only [d_12 hA hR, Option.bind_some, up_s, up_k, up_j, up_i, xk_add, xk_sub, xk_mul, xk_neg, lk_add, lN_z, rf_none, rb1, rb0, rbp, xk_nI, zk_eq, zk_lt, zk_eq0, zk_lt0, zk_0lt, zk_long, lz_lt, lz_gt, zmax, zmin, ↓reduceIte, Int.reduceEq, Int.reduceLT, Int.reduceNeg, Int.reduceAdd, Int.reduceSub, Int.reduceMul, Int.ofNat_eq_natCast, Int.cast_ofNat_Int]
      have i := tc_inv (g := g) 20 I (usF I g + n - (I 40 0 g)) hT
      have le : ∀ {I' : ST}, LE I I' → I' 12 0 1 = (I 12 0 1) ∧ I' 12 0 17 = (I 12 0 17) ∧ (∀ k, I' 40 0 k = (I 40 0 k)) ∧ win I' = win I ∧ (∀ k, I' 38 0 k = (I 38 0 k)) := fun h => ⟨h.1 _ _ _ (by omega) (by omega) (by omega) (by omega) (by omega) (by omega), h.1 _ _ _ (by omega) (by omega) (by omega) (by omega) (by omega) (by omega), fun k => h.1 _ _ _ (by omega) (by omega) (by omega) (by omega) (by omega) (by omega), win_c (fun k => h.1 _ _ _ (by omega) (by omega) (by omega) (by omega) (by omega) (by omega)), fun k => h.1 _ _ _ (by omega) (by omega) (by omega) (by omega) (by omega) (by omega)⟩
      refine Ev.ite (fun q => absurd q (by omega)) (fun _ => ?_)
      refine Ev.kV (σ := HS e C (tcI I g n) z) ?_ ?_
      · refine Ev.step (fun F => E12_takeCache F _ _ _ _) ?_
        simp (disch := omega) only [a_40 hA hR, d_12 hA hR, g_12_20 hA hR, Option.bind_some, up_s, up_k, up_j, up_i, xk_add, xk_sub, xk_mul, xk_neg, lk_add, lN_z, rf_none, rb1, rb0, rbp, xk_nI, zk_eq, zk_lt, zk_eq0, zk_lt0, zk_0lt, zk_long, lz_lt, lz_gt, zmax, zmin, ↓reduceIte, Int.reduceEq, Int.reduceLT, Int.reduceNeg, Int.reduceAdd, Int.reduceSub, Int.reduceMul, Int.ofNat_eq_natCast, Int.cast_ofNat_Int]
        refine Ev.kI (uses_ev hA hR hB (by omega) (by omega)) ?_
        try simp (disch := omega) only [a_40 hA hR, d_12 hA hR, g_12_20 hA hR, Option.bind_some, up_s, up_k, up_j, up_i, xk_add, xk_sub, xk_mul, xk_neg, lk_add, lN_z, rf_none, rb1, rb0, rbp, xk_nI, zk_eq, zk_lt, zk_eq0, zk_lt0, zk_0lt, zk_long, lz_lt, lz_gt, zmax, zmin, ↓reduceIte, Int.reduceEq, Int.reduceLT, Int.reduceNeg, Int.reduceAdd, Int.reduceSub, Int.reduceMul, Int.ofNat_eq_natCast, Int.cast_ofNat_Int]
        refine takeCache15_ev hA hR (by omega) (by omega) 20 I _ hB (by omega) (by omega) ?_
        have := sm_le (f := pcT I g) (f' := fun _ => 1) (n := (I 12 0 17)) (fun k _ _ => by unfold pcT; split <;> decide)
        have s1 : ∀ m : Nat, smN (fun _ => 1) m = m := by
          intro m
          induction m with
          | zero => rfl
          | succ m ih => rw [smN, ih]; rfl
        have := s1 (I 12 0 17).toNat
        unfold sm at *
        omega
      · have l1 := le i.2.1
        have hs : tcI I g n 22 0 t = 0 := (i.2.2 t).trans ht
        have k := kv_inv (t := t) (g := g) (n := n) 150 (tcI I g n) i.1 hs
        have l2 := le (LE.t i.2.1 k.2.1)
        refine makeRoom28_ev hA hR n0 n1 t0 (by omega) (by omega) 150 (tcI I g n) i.1 (i.2.1.gu hB hU) (by rw [show tcI I g n 12 0 1 = (I 12 0 1) from l1.1]; exact t1) (by rw [show tcI I g n 12 0 17 = (I 12 0 17) from l1.2.1]; exact g1) hs (kc_b i.1.1) _ (fun q => by rw [if_pos q]) (fun q hr => ?_)
        rw [if_neg q]
        rw [show tcI I g n 40 0 g = (I 40 0 g) from l1.2.2.1 g] at hr
        have hB2 := k.1.1
        have hU2 := (LE.t i.2.1 k.2.1).gu hB hU
        have hb2 : Bf (kvF t g n 150 (tcI I g n)).2 n f (I 38 0 g) := by
          intro x x0 x1 a b
          rw [l2.2.1] at x1
          rw [l2.2.2.2.1] at a b
          rw [l2.2.2.1]
          by_cases h : win I g x = true
          · rw [wk x a b h]; exact hr
          · rw [Bool.not_eq_true] at h
            have := hb x x0 x1 a h
            have := (LE.t i.2.1 k.2.1).us hB (g := x)
            omega
        refine Ev.kI (σ := HS e C (kvF t g n 150 (tcI I g n)).2 z) (x := tfS (kvF t g n 150 (tcI I g n)).2 n f) ?_ ?_
        · refine Ev.step (fun F => E12_tooFull F _ _ _ _) ?_
          refine tooFull_ev hA hR hB2 n0 n1 (fun g a b => ⟨usF_n hB2, ?_⟩) (fun g a b => ?_) 20 f (by omega) (by omega) (by omega)
          · have := hU2 g a b
            have := RB.groups hB
            have := RB.groups hB2
            have := RB.max hB2 (j := g) (by omega) (by omega)
            omega
          · have := RB.groups hB2
            have := RB.ww hB2 g (by omega) (by omega)
            omega
        · rw [Bf.tf hB2 (by omega) f (by omega) (by omega) (by omega) (by rw [l2.2.2.2.1]; exact hw') hb2]
          refine ih (I 38 0 g) (by omega) (by omega) _ m k.1 hU2 (by omega) (by omega) f0 (by omega) (k.2.2 q).2 (by rw [l2.2.2.2.1]; exact hw') hb2 (by omega)
    · have e1 : tcI I g n = I := tcF_0 (by omega)
      have e2 : kvF t g n 150 I = (0, I) := by rw [kvF, if_neg hf]
      rw [tf_u hB (by omega), if_neg hn, if_neg hf, e1, e2, if_neg (by show ¬ (0 : Int) < 0; decide)]
      refine ih (I 38 0 g) (by omega) (by omega) I m hT hU t1 (by omega) f0 f1 ht hw' (fun k k0 k1 a b => ?_) (by omega)
      by_cases h : win I g k = true
      · rw [wk k a b h]; omega
      · rw [Bool.not_eq_true] at h
        exact hb k k0 k1 a h
def mrI (J : ST) (t n : Int) : Int × ST := mrF t n 20 J (J 25 0 t)
theorem makeRoom_ev {I : ST} (hA : WA e z) (hR : WR e) {t n : Int} (n0 : 0 ≤ n) (n1 : n ≤ 1000000) (t0 : 0 ≤ t) (hT : TI I) (hU : GU I) (t1 : t < (I 12 0 1)) (ht : (I 22 0 t) = 0) : Ev (fun F => J12_makeRoom F (rf e 12 0) (xk t) (xk n) (HS e C I z)) (rI (mrI I t n).1 (HS e C (mrI I t n).2 z)) := by
  have hB := hT.1
  have := RB.tasks hB
  have := RB.groups hB
  have := RB.group hB (j := t) (by omega) (by omega)
  have hg := (hT.2.2.2.2.1 t t0 t1).2.2.1
  refine Ev.step (fun F => E12_makeRoom F _ _ _ _) ?_
  simp (disch := omega) only [a_25 hA hR, d_12 hA hR, g_12_5 hA hR, Option.bind_some, up_s, up_k, up_j, up_i, xk_add, xk_sub, xk_mul, xk_neg, lk_add, lN_z, rf_none, rb1, rb0, rbp, xk_nI, zk_eq, zk_lt, zk_eq0, zk_lt0, zk_0lt, zk_long, lz_lt, lz_gt, zmax, zmin, ↓reduceIte, Int.reduceEq, Int.reduceLT, Int.reduceNeg, Int.reduceAdd, Int.reduceSub, Int.reduceMul, Int.ofNat_eq_natCast, Int.cast_ofNat_Int]
  refine Ev.kI (σ := HS e C I z) (x := tfS I n (I 25 0 t)) ?_ ?_
  · refine Ev.step (fun F => E12_tooFull F _ _ _ _) ?_
    refine tooFull_ev hA hR hB n0 n1 (fun g a b => ⟨usF_n hB, ?_⟩) (fun g a b => ?_) 20 _ (by omega) (by omega) (by omega)
    · have := hU g a b
      have := RB.max hB (j := g) (by omega) (by omega)
      omega
    · have := RB.ww hB g (by omega) (by omega)
      omega
  · exact makeRoom15_ev hA hR n0 n1 t0 _ (by omega) I 20 hT hU t1 hg (by omega) hg ht chn_r (fun k k0 k1 a b => by rw [a] at b; exact absurd b (by decide)) (by omega)
end RA
end
section
/-! the reference: who is ready, and the least time -/
/-- x is the first of those with P below n that have the least f -/
def AM (P : Int → Prop) (f : Int → Int) (n x : Int) : Prop := (x = -1 ∧ ∀ t, 0 ≤ t → t < n → ¬ P t) ∨ (0 ≤ x ∧ x < n ∧ P x ∧ ∀ t, 0 ≤ t → t < n → P t → f x < f t ∨ (f x = f t ∧ x ≤ t))
section AMs
variable {P : Int → Prop} {f : Int → Int} {n x y : Int}
theorem AM.z : AM P f 0 (-1) := Or.inl ⟨rfl, fun t a b => absurd b (by omega)⟩
theorem AM.b (h : AM P f n x) (hn : 0 ≤ n) : -1 ≤ x ∧ x < n := by
  rcases h with h | h <;> omega
theorem AM.p (h : AM P f n x) (hx : 0 ≤ x) : P x := by
  rcases h with h | h
  · omega
  · exact h.2.2.1
theorem AM.no (h : AM P f n x) (hp : ¬ P n) : AM P f (n + 1) x := by
  rcases h with h | h
  · refine Or.inl ⟨h.1, fun t a b q => ?_⟩
    by_cases e : t = n
    · exact hp (e ▸ q)
    · exact h.2 t a (by omega) q
  · refine Or.inr ⟨h.1, by omega, h.2.2.1, fun t a b q => ?_⟩
    by_cases e : t = n
    · exact absurd (e ▸ q) hp
    · exact h.2.2.2 t a (by omega) q
theorem AM.take (h : AM P f n x) (hn : 0 ≤ n) (hp : P n) (hx : x < 0 ∨ f n < f x) : AM P f (n + 1) n := by
  refine Or.inr ⟨hn, by omega, hp, fun t a b q => ?_⟩
  by_cases e : t = n
  · subst e; omega
  · rcases h with h | h
    · exact absurd q (h.2 t a (by omega))
    · have := h.2.2.2 t a (by omega) q
      omega
theorem AM.keep (h : AM P f n x) (hx : 0 ≤ x) (hf : f x ≤ f n) : AM P f (n + 1) x := by
  rcases h with h | h
  · omega
  · refine Or.inr ⟨h.1, by omega, h.2.2.1, fun t a b q => ?_⟩
    by_cases e : t = n
    · subst e; omega
    · exact h.2.2.2 t a (by omega) q
theorem AM.uq (h : AM P f n x) (h' : AM P f n y) : x = y := by
  rcases h with h | h <;> rcases h' with h' | h'
  · omega
  · exact absurd h'.2.2.1 (h.2 y h'.1 h'.2.1)
  · exact absurd h.2.2.1 (h'.2 x h.1 h.2.1)
  · have := h.2.2.2 y h'.1 h'.2.1 h'.2.2.1
    have := h'.2.2.2 x h.1 h.2.1 h.2.2.1
    omega
theorem AM.c {P' : Int → Prop} {f' : Int → Int} (h : AM P f n x) (hp : ∀ t, 0 ≤ t → t < n → (P t ↔ P' t)) (hf : ∀ t, 0 ≤ t → t < n → P t → f' t = f t) : AM P' f' n x := by
  rcases h with h | h
  · exact Or.inl ⟨h.1, fun t a b q => h.2 t a b ((hp t a b).mpr q)⟩
  · refine Or.inr ⟨h.1, h.2.1, (hp x h.1 h.2.1).mp h.2.2.1, fun t a b q => ?_⟩
    have q' := (hp t a b).mpr q
    rw [hf x h.1 h.2.1 h.2.2.1, hf t a b q']
    exact h.2.2.2 t a b q'
end AMs
def rt (J : ST) (g t : Int) : Prop := 0 ≤ t ∧ t < (J 12 0 1) ∧ (J 22 0 t) = 0 ∧ (J 29 0 t) = 0 ∧ (J 25 0 t) = g
def qok (J : ST) (k : Int) : Prop := (J 42 0 k) = 0 ∨ (J 44 0 k) < (J 42 0 k)
def rg (hs : Int → Bool) (J : ST) (g k : Int) : Prop := 0 < k ∧ k < (J 12 0 17) ∧ (J 38 0 k) = g ∧ hs k = true ∧ qok J k
def HsR (J : ST) (hs : Int → Bool) : Prop := ∀ g, 0 ≤ g → g < (J 12 0 17) → (hs g = true ↔ (∃ t, rt J g t) ∨ ∃ k, rg hs J g k)
def frN (J : ST) (hs : Int → Bool) (g b : Int) : ST := fun k i j => if k = 59 ∧ i = 0 ∧ g < j ∧ j < (J 12 0 17) then bI (hs j = true) else if k = 59 ∧ i = 0 ∧ j = g then b else J k i j
def frI (J : ST) (hs : Int → Bool) : ST := fun k i j => if k = 59 ∧ i = 0 ∧ 0 ≤ j ∧ j < (J 12 0 17) then bI (hs j = true) else J k i j
/-- times and ticks are in bounds -/
def KB (J : ST) : Prop := (∀ t, 0 ≤ t → t < 150 → 0 ≤ (J 30 0 t) ∧ (J 30 0 t) < 1000000000000) ∧ (∀ g, 0 ≤ g → g < 20 → 0 ≤ (J 45 0 g) ∧ (J 45 0 g) < 1000000000000 ∧ 0 ≤ (J 44 0 g) ∧ (J 44 0 g) < 1000000) ∧ 0 ≤ (J 12 0 26) ∧ (J 12 0 26) < 1000000
theorem bI_b {p : Prop} [Decidable p] : 0 ≤ bI p ∧ bI p ≤ 1 := by unfold bI; split <;> omega
theorem or1 {a : Int} (h : 0 ≤ a) (h' : a ≤ 1) : xk a ||| xk 1 = xk 1 := by
  rcases (by omega : a = 0 ∨ a = 1) with rfl | rfl <;> decide +kernel
theorem or0 {a : Int} (h : 0 ≤ a) (h' : a ≤ 1) : xk a ||| xk 0 = xk a := by
  rcases (by omega : a = 0 ∨ a = 1) with rfl | rfl <;> decide +kernel
theorem frN_u {J : ST} {hs : Int → Bool} {g b b' : Int} : up (frN J hs g b) 59 0 g b' = frN J hs g b' := by
  funext k i j
  simp only [up, frN]
  repeat' split
  all_goals first | rfl | (exfalso; omega)
theorem RB.frn {J : ST} (hB : RB J) {hs : Int → Bool} {g b : Int} (b0 : 0 ≤ b) (b1 : b ≤ 1) : RB (frN J hs g b) := by
  obtain ⟨h1, h2, h3, h4, h5, h6⟩ := hB
  refine ⟨fun r hr a a0 a1 => ?_, fun g g0 g1 => ?_, ?_, ?_, ?_, ?_⟩
  · have := h1 r hr a a0 a1
    have e1 : ∀ r ∈ rbt, r.1 = 59 → r.2.1 = 0 ∧ r.2.2.1 = 1 := by decide
    unfold frN
    split
    · rename_i hh; have := e1 r hr hh.1; have := bI_b (p := hs a = true); omega
    · split
      · rename_i hh; have := e1 r hr hh.1; omega
      · exact this
  · have := h2 g g0 g1
    simpa [frN] using this
  all_goals simpa [frN]
theorem RB.fri {J : ST} (hB : RB J) {hs : Int → Bool} : RB (frI J hs) := by
  obtain ⟨h1, h2, h3, h4, h5, h6⟩ := hB
  refine ⟨fun r hr a a0 a1 => ?_, fun g g0 g1 => ?_, ?_, ?_, ?_, ?_⟩
  · have := h1 r hr a a0 a1
    have e1 : ∀ r ∈ rbt, r.1 = 59 → r.2.1 = 0 ∧ r.2.2.1 = 1 := by decide
    unfold frI
    split
    · rename_i hh; have := e1 r hr hh.1; have := bI_b (p := hs a = true); omega
    · exact this
  · have := h2 g g0 g1
    simpa [frI] using this
  all_goals simpa [frI]
theorem fr_f {J : ST} {hs : Int → Bool} {k : Nat} {i j : Int} (h : k ≠ 59) : frI J hs k i j = J k i j := by simp [frI, h]
theorem fr_h {J : ST} {hs : Int → Bool} {j : Int} (h0 : 0 ≤ j) (h1 : j < (J 12 0 17)) : frI J hs 59 0 j = bI (hs j = true) := by simp [frI, h0, h1]
theorem bI_1 {p : Prop} [Decidable p] : bI p = 1 ↔ p := by
  unfold bI
  by_cases h : p
  · simp [h]
  · simp [h]
section RA
variable {e : EN} {C I : ST} {z : Nat × Nat × Nat × Nat}
theorem findReady80_ev (hA : WA e z) (hR : WR e) (hB : RB I) (hK : KB I) {hs : Int → Bool} (hH : HsR I hs) {g : Int} (g0 : 0 ≤ g) (g1 : g < (I 12 0 17)) {r : XV × XH} (hr : Ev (fun F => J12_findReady_7 F (rf e 12 0) (xk (g - 1)) (HS e C (frN I hs g (bI (hs g = true))) z)) r) : ∀ k b, g < k → k ≤ (I 12 0 17) → 0 ≤ b → b ≤ 1 → (b = 1 ↔ (∃ t, rt I g t) ∨ ∃ k', k' < k ∧ rg hs I g k') → Ev (fun F => J12_findReady_80 F (rf e 12 0) (xk g) (xk k) (HS e C (frN I hs g b) z)) r := by
  intro k
  refine lpN (P := fun k => ∀ b, g < k → k ≤ (I 12 0 17) → 0 ≤ b → b ≤ 1 → (b = 1 ↔ (∃ t, rt I g t) ∨ ∃ k', k' < k ∧ rg hs I g k') → Ev (fun F => J12_findReady_80 F (rf e 12 0) (xk g) (xk k) (HS e C (frN I hs g b) z)) r) (I 12 0 17) (fun k ih b k0 k1 b0 b1 hb => ?_) k
  have hB' := hB.frn (hs := hs) (g := g) b0 b1
  have := RB.groups hB
  have e1 : frN I hs g b 12 0 17 = (I 12 0 17) := by simp [frN]
  have e2 : frN I hs g b 59 0 g = b := by simp [frN]
  have e3 : ∀ j, frN I hs g b 38 0 j = (I 38 0 j) := fun j => by simp [frN]
  refine Ev.step (fun F => E12_findReady_80 F _ _ _ _) ?_
  simp (disch := omega) only [a_38 hA hR, a_59 hA hR, d_12 hA hR, g_12_17 hA hR, g_12_18 hA hR, g_12_39 hA hR, s_38 hA hR, s_59 hA hR, Option.bind_some, up_s, up_k, up_j, up_i, xk_add, xk_sub, xk_mul, xk_neg, lk_add, lN_z, rf_none, rb1, rb0, rbp, xk_nI, zk_eq, zk_lt, zk_eq0, zk_lt0, zk_0lt, zk_long, lz_lt, lz_gt, zmax, zmin, ↓reduceIte, Int.reduceEq, Int.reduceLT, Int.reduceNeg, Int.reduceAdd, Int.reduceSub, Int.reduceMul, Int.ofNat_eq_natCast, Int.cast_ofNat_Int, e1, e2, e3]
  refine Ev.ite (fun h => ?_) (fun h => ?_)
  · have := RB.within hB (j := k) (by omega) (by omega)
    have ih := fun b => ih h b (by omega) (by omega)
    try simp (disch := omega) only [a_38 hA hR, a_59 hA hR, d_12 hA hR, g_12_17 hA hR, g_12_18 hA hR, g_12_39 hA hR, s_38 hA hR, s_59 hA hR, Option.bind_some, up_s, up_k, up_j, up_i, xk_add, xk_sub, xk_mul, xk_neg, lk_add, lN_z, rf_none, rb1, rb0, rbp, xk_nI, zk_eq, zk_lt, zk_eq0, zk_lt0, zk_0lt, zk_long, lz_lt, lz_gt, zmax, zmin, ↓reduceIte, Int.reduceEq, Int.reduceLT, Int.reduceNeg, Int.reduceAdd, Int.reduceSub, Int.reduceMul, Int.ofNat_eq_natCast, Int.cast_ofNat_Int, e1, e2, e3]
    have no : ¬ rg hs I g k → Ev (fun F => J12_findReady_80 F (rf e 12 0) (xk g) (xk (k + 1)) (HS e C (frN I hs g b) z)) r := fun q => ih b b0 b1 (hb.trans (or_congr_right ⟨fun ⟨a, c, d⟩ => ⟨a, by omega, d⟩, fun ⟨a, c, d⟩ => ⟨a, by
      by_cases ak : a = k
      · exact absurd (ak ▸ d) q
      · omega, d⟩⟩))
    have hq := hK.2.1 k (by omega) (by omega)
    have e4 : ∀ j, frN I hs g b 44 0 j = (I 44 0 j) := fun j => by simp [frN]
    have e5 : frN I hs g b 59 0 k = bI (hs k = true) := by simp [frN, k0, h]
    have e6 : ∀ j, frN I hs g b 42 0 j = (I 42 0 j) := fun j => by simp [frN]
    refine Ev.ite (fun hw => ?_) (fun hw => ?_)
    · refine Ev.kB (isReadyR_ev hA hR hB' (by omega) (by omega) (by rw [e4]; omega) (by rw [e4]; omega)) (fun hi => ?_) (fun hi => ?_)
      · rw [e4, e5, e6, bI_1] at hi
        try simp (disch := omega) only [a_38 hA hR, a_59 hA hR, d_12 hA hR, g_12_17 hA hR, g_12_18 hA hR, g_12_39 hA hR, s_38 hA hR, s_59 hA hR, Option.bind_some, up_s, up_k, up_j, up_i, xk_add, xk_sub, xk_mul, xk_neg, lk_add, lN_z, rf_none, rb1, rb0, rbp, xk_nI, zk_eq, zk_lt, zk_eq0, zk_lt0, zk_0lt, zk_long, lz_lt, lz_gt, zmax, zmin, ↓reduceIte, Int.reduceEq, Int.reduceLT, Int.reduceNeg, Int.reduceAdd, Int.reduceSub, Int.reduceMul, Int.ofNat_eq_natCast, Int.cast_ofNat_Int, e1, e2, e3, or1, or0, frN_u]
        exact ih 1 (by omega) (by omega) ⟨fun _ => Or.inr ⟨k, by omega, by omega, h, hw, hi.1, hi.2⟩, fun _ => rfl⟩
      · rw [e4, e5, e6, bI_1] at hi
        try simp (disch := omega) only [a_38 hA hR, a_59 hA hR, d_12 hA hR, g_12_17 hA hR, g_12_18 hA hR, g_12_39 hA hR, s_38 hA hR, s_59 hA hR, Option.bind_some, up_s, up_k, up_j, up_i, xk_add, xk_sub, xk_mul, xk_neg, lk_add, lN_z, rf_none, rb1, rb0, rbp, xk_nI, zk_eq, zk_lt, zk_eq0, zk_lt0, zk_0lt, zk_long, lz_lt, lz_gt, zmax, zmin, ↓reduceIte, Int.reduceEq, Int.reduceLT, Int.reduceNeg, Int.reduceAdd, Int.reduceSub, Int.reduceMul, Int.ofNat_eq_natCast, Int.cast_ofNat_Int, e1, e2, e3, or1, or0, frN_u]
        exact no (fun q => hi ⟨q.2.2.2.1, q.2.2.2.2⟩)
    · try simp (disch := omega) only [a_38 hA hR, a_59 hA hR, d_12 hA hR, g_12_17 hA hR, g_12_18 hA hR, g_12_39 hA hR, s_38 hA hR, s_59 hA hR, Option.bind_some, up_s, up_k, up_j, up_i, xk_add, xk_sub, xk_mul, xk_neg, lk_add, lN_z, rf_none, rb1, rb0, rbp, xk_nI, zk_eq, zk_lt, zk_eq0, zk_lt0, zk_0lt, zk_long, lz_lt, lz_gt, zmax, zmin, ↓reduceIte, Int.reduceEq, Int.reduceLT, Int.reduceNeg, Int.reduceAdd, Int.reduceSub, Int.reduceMul, Int.ofNat_eq_natCast, Int.cast_ofNat_Int, e1, e2, e3, or1, or0, frN_u]
      exact no (fun q => hw q.2.2.1)
  · have : k = (I 12 0 17) := by omega
    subst this
    have : b = bI (hs g = true) := by
      have h1 := hH g g0 g1
      have h2 : (∃ k', k' < (I 12 0 17) ∧ rg hs I g k') ↔ ∃ k, rg hs I g k := ⟨fun ⟨a, c, d⟩ => ⟨a, d⟩, fun ⟨a, d⟩ => ⟨a, d.2.1, d⟩⟩
      rw [h2, ← h1] at hb
      have := bI_b (p := hs g = true)
      have := bI_1 (p := hs g = true)
      by_cases q : hs g = true
      · rw [hb.mpr q, this.mpr q]
      · have : b ≠ 1 := fun w => q (hb.mp w)
        rw [bI_f q]; omega
    subst this
    rw [Int.sub_eq_add_neg] at hr
    exact hr
theorem findReady20_ev (hA : WA e z) (hR : WR e) (hB : RB I) (hK : KB I) {hs : Int → Bool} (hH : HsR I hs) {g : Int} (g0 : 0 ≤ g) (g1 : g < (I 12 0 17)) {r : XV × XH} (hr : Ev (fun F => J12_findReady_7 F (rf e 12 0) (xk (g - 1)) (HS e C (frN I hs g (bI (hs g = true))) z)) r) : ∀ t b, 0 ≤ t → t ≤ (I 12 0 1) → 0 ≤ b → b ≤ 1 → (b = 1 ↔ ∃ t', t' < t ∧ rt I g t') → Ev (fun F => J12_findReady_20 F (rf e 12 0) (xk g) (xk t) (HS e C (frN I hs g b) z)) r := by
  intro t
  refine lpN (P := fun t => ∀ b, 0 ≤ t → t ≤ (I 12 0 1) → 0 ≤ b → b ≤ 1 → (b = 1 ↔ ∃ t', t' < t ∧ rt I g t') → Ev (fun F => J12_findReady_20 F (rf e 12 0) (xk g) (xk t) (HS e C (frN I hs g b) z)) r) (I 12 0 1) (fun t ih b t0 t1 b0 b1 hb => ?_) t
  have := RB.groups hB
  have := RB.tasks hB
  have e1 : frN I hs g b 12 0 1 = (I 12 0 1) := by simp [frN]
  have e2 : frN I hs g b 59 0 g = b := by simp [frN]
  have e3 : ∀ j, frN I hs g b 22 0 j = (I 22 0 j) := fun j => by simp [frN]
  have e4 : ∀ j, frN I hs g b 29 0 j = (I 29 0 j) := fun j => by simp [frN]
  have e5 : ∀ j, frN I hs g b 25 0 j = (I 25 0 j) := fun j => by simp [frN]
  refine Ev.step (fun F => E12_findReady_20 F _ _ _ _) ?_
  simp (disch := omega) only [a_22 hA hR, a_25 hA hR, a_29 hA hR, a_59 hA hR, g_12_1 hA hR, g_12_2 hA hR, g_12_39 hA hR, g_12_5 hA hR, g_12_9 hA hR, s_22 hA hR, s_25 hA hR, s_29 hA hR, s_59 hA hR, Option.bind_some, up_s, up_k, up_j, up_i, xk_add, xk_sub, xk_mul, xk_neg, lk_add, lN_z, rf_none, rb1, rb0, rbp, xk_nI, zk_eq, zk_lt, zk_eq0, zk_lt0, zk_0lt, zk_long, lz_lt, lz_gt, zmax, zmin, ↓reduceIte, Int.reduceEq, Int.reduceLT, Int.reduceNeg, Int.reduceAdd, Int.reduceSub, Int.reduceMul, Int.ofNat_eq_natCast, Int.cast_ofNat_Int, e1, e2, e3, e4, e5]
  refine Ev.ite (fun h => ?_) (fun h => ?_)
  · have := RB.state hB (j := t) (by omega) (by omega)
    have := RB.asleep hB (j := t) (by omega) (by omega)
    have := RB.group hB (j := t) (by omega) (by omega)
    have ih := fun b => ih h b (by omega) (by omega)
    try simp (disch := omega) only [a_22 hA hR, a_25 hA hR, a_29 hA hR, a_59 hA hR, g_12_1 hA hR, g_12_2 hA hR, g_12_39 hA hR, g_12_5 hA hR, g_12_9 hA hR, s_22 hA hR, s_25 hA hR, s_29 hA hR, s_59 hA hR, Option.bind_some, up_s, up_k, up_j, up_i, xk_add, xk_sub, xk_mul, xk_neg, lk_add, lN_z, rf_none, rb1, rb0, rbp, xk_nI, zk_eq, zk_lt, zk_eq0, zk_lt0, zk_0lt, zk_long, lz_lt, lz_gt, zmax, zmin, ↓reduceIte, Int.reduceEq, Int.reduceLT, Int.reduceNeg, Int.reduceAdd, Int.reduceSub, Int.reduceMul, Int.ofNat_eq_natCast, Int.cast_ofNat_Int, e1, e2, e3, e4, e5, or1, or0, frN_u]
    have no : ¬ rt I g t → Ev (fun F => J12_findReady_20 F (rf e 12 0) (xk g) (xk (t + 1)) (HS e C (frN I hs g b) z)) r := fun q => ih b b0 b1 (hb.trans ⟨fun ⟨a, c, d⟩ => ⟨a, by omega, d⟩, fun ⟨a, c, d⟩ => ⟨a, by
      by_cases ak : a = t
      · exact absurd (ak ▸ d) q
      · omega, d⟩⟩)
    refine Ev.ite (fun hs => ?_) (fun hs => no (fun q => hs q.2.2.1))
    refine Ev.ite (fun hs => ?_) (fun hs => no (fun q => hs q.2.2.2.1))
    refine Ev.ite (fun hs => ?_) (fun hs => no (fun q => hs q.2.2.2.2))
    exact ih 1 (by omega) (by omega) ⟨fun _ => ⟨t, by omega, t0, h, by assumption, by assumption, hs⟩, fun _ => rfl⟩
  · refine findReady80_ev hA hR hB hK hH g0 g1 hr (g + 1) b (by omega) (by omega) b0 b1 (hb.trans ⟨fun ⟨a, c, d⟩ => Or.inl ⟨a, d⟩, fun q => ?_⟩)
    rcases q with ⟨a, d⟩ | ⟨k, d, q⟩
    · exact ⟨a, by have := d.2.1; omega, d⟩
    · have a1 := q.1
      have a2 := q.2.1
      have a3 := q.2.2.1
      have := RB.wiw hB (j := k) (by omega) (by omega)
      omega
theorem findReady7_ev (hA : WA e z) (hR : WR e) (hB : RB I) (hK : KB I) {hs : Int → Bool} (hH : HsR I hs) : ∀ (n : Nat) (g : Int) (I' : ST), g + 1 = n → g < (I 12 0 17) → I' = (fun k i j => if k = 59 ∧ i = 0 ∧ g < j ∧ j < (I 12 0 17) then bI (hs j = true) else I k i j) → Ev (fun F => J12_findReady_7 F (rf e 12 0) (xk g) (HS e C I' z)) (rV (HS e C (frI I hs) z)) := by
  have := RB.groups hB
  have := RB.tasks hB
  intro n
  induction n with
  | zero =>
    intro g I' h1 h2 h3
    refine Ev.step (fun F => E12_findReady_7 F _ _ _) ?_
    simp (disch := omega) only [g_12_39 hA hR, s_59 hA hR, Option.bind_some, up_s, up_k, up_j, up_i, xk_add, xk_sub, xk_mul, xk_neg, lk_add, lN_z, rf_none, rb1, rb0, rbp, xk_nI, zk_eq, zk_lt, zk_eq0, zk_lt0, zk_0lt, zk_long, lz_lt, lz_gt, zmax, zmin, ↓reduceIte, Int.reduceEq, Int.reduceLT, Int.reduceNeg, Int.reduceAdd, Int.reduceSub, Int.reduceMul, Int.ofNat_eq_natCast, Int.cast_ofNat_Int]
    refine Ev.ite (fun _ => Ev.ret ?_) (fun q => absurd q (by omega))
    rw [h3]
    unfold rV
    congr 2
    funext k i j
    simp only [up, frI]
    repeat' split
    all_goals first | rfl | (exfalso; omega)
  | succ n ih =>
    intro g I' h1 h2 h3
    refine Ev.step (fun F => E12_findReady_7 F _ _ _) ?_
    simp (disch := omega) only [g_12_39 hA hR, s_59 hA hR, Option.bind_some, up_s, up_k, up_j, up_i, xk_add, xk_sub, xk_mul, xk_neg, lk_add, lN_z, rf_none, rb1, rb0, rbp, xk_nI, zk_eq, zk_lt, zk_eq0, zk_lt0, zk_0lt, zk_long, lz_lt, lz_gt, zmax, zmin, ↓reduceIte, Int.reduceEq, Int.reduceLT, Int.reduceNeg, Int.reduceAdd, Int.reduceSub, Int.reduceMul, Int.ofNat_eq_natCast, Int.cast_ofNat_Int]
    refine Ev.ite (fun q => absurd q (by omega)) (fun _ => ?_)
    have e1 : up I' 59 0 g 0 = frN I hs g 0 := by
      rw [h3]
      funext k i j
      simp only [up, frN]
      repeat' split
      all_goals first | rfl | (exfalso; omega)
    rw [e1]
    refine findReady20_ev hA hR hB hK hH (by omega) h2 (ih _ _ (by omega) (by omega) ?_) 0 0 (by omega) (by omega) (by omega) (by omega) ⟨fun q => absurd q (by omega), fun ⟨a, b, d⟩ => absurd d.1 (by omega)⟩
    funext k i j
    simp only [frN]
    by_cases hj : j = g
    · subst hj
      repeat' split
      all_goals first | rfl | (exfalso; omega)
    · repeat' split
      all_goals first | rfl | (exfalso; omega)
theorem findReady_ev (hA : WA e z) (hR : WR e) (hB : RB I) (hK : KB I) {hs : Int → Bool} (hH : HsR I hs) : Ev (fun F => J12_findReady F (rf e 12 0) (HS e C I z)) (rV (HS e C (frI I hs) z)) := by
  have := RB.groups hB
  refine Ev.step (fun F => E12_findReady F _ _) ?_
  simp (disch := omega) only [g_12_17 hA hR, Option.bind_some, up_s, up_k, up_j, up_i, xk_add, xk_sub, xk_mul, xk_neg, lk_add, lN_z, rf_none, rb1, rb0, rbp, xk_nI, zk_eq, zk_lt, zk_eq0, zk_lt0, zk_0lt, zk_long, lz_lt, lz_gt, zmax, zmin, ↓reduceIte, Int.reduceEq, Int.reduceLT, Int.reduceNeg, Int.reduceAdd, Int.reduceSub, Int.reduceMul, Int.ofNat_eq_natCast, Int.cast_ofNat_Int]
  refine findReady7_ev hA hR hB hK hH (I 12 0 17).toNat _ _ (by omega) (by omega) ?_
  funext k i j
  rw [if_neg (by omega)]
end RA
theorem HsR.ex {J : ST} (hB : RB J) : ∃ hs, HsR J hs := by
  have key : ∀ n : Nat, ∃ hs : Int → Bool, ∀ g, (J 12 0 17) - n ≤ g → 0 ≤ g → g < (J 12 0 17) → (hs g = true ↔ (∃ t, rt J g t) ∨ ∃ k, rg hs J g k) := by
    intro n
    induction n with
    | zero => exact ⟨fun _ => false, fun g a b c => absurd c (by omega)⟩
    | succ n ih =>
      obtain ⟨hs, h⟩ := ih
      have exb : ∀ P : Prop, ∃ b : Bool, b = true ↔ P := fun P => (Classical.em P).elim (fun p => ⟨true, fun _ => p, fun _ => rfl⟩) (fun p => ⟨false, fun q => absurd q (by decide), fun q => absurd q p⟩)
      obtain ⟨bb, hbb⟩ := exb ((∃ t, rt J ((J 12 0 17) - (n + 1)) t) ∨ ∃ k, rg hs J ((J 12 0 17) - (n + 1)) k)
      refine ⟨fun x => if x = (J 12 0 17) - (n + 1) then bb else hs x, fun g a b c => ?_⟩
      have e : ∀ k, rg (fun x => if x = (J 12 0 17) - (n + 1) then bb else hs x) J g k ↔ rg hs J g k := by
        intro k
        unfold rg
        constructor
        · rintro ⟨q1, q2, q3, q4, q5⟩
          have := RB.groups hB
          have := RB.wiw hB (j := k) (by omega) (by omega)
          dsimp only at q4
          rw [if_neg (by omega)] at q4
          exact ⟨q1, q2, q3, q4, q5⟩
        · rintro ⟨q1, q2, q3, q4, q5⟩
          have := RB.groups hB
          have := RB.wiw hB (j := k) (by omega) (by omega)
          refine ⟨q1, q2, q3, ?_, q5⟩
          dsimp only
          rw [if_neg (by omega)]
          exact q4
      simp only [e]
      by_cases hg : g = (J 12 0 17) - (n + 1)
      · rw [if_pos hg, hg]; exact hbb
      · rw [if_neg hg]
        exact h g (by omega) b c
  obtain ⟨hs, h⟩ := key (J 12 0 17).toNat
  have := RB.groups hB
  exact ⟨hs, fun g a b => h g (by omega) a b⟩
end
section
/-! the reference: leastTime, come, tick -/
def ltV (I : ST) (a b : Int) : Int := if a < 0 then (if b < 0 then -1 else (I 45 0 b)) else if b < 0 then (I 30 0 a) else min (I 30 0 a) (I 45 0 b)
def ltP (I : ST) (g fl bt t : Int) : Prop := rt I g t ∧ ¬ (fl = 0 ∧ t = bt)
def ltQ (hs : Int → Bool) (I : ST) (g fl bt k : Int) : Prop := rg hs I g k ∧ ¬ (fl = 1 ∧ k = bt)
section RA
variable {e : EN} {C I : ST} {z : Nat × Nat × Nat × Nat}
theorem leastTime103_ev (hA : WA e z) (hR : WR e) (hB : RB I) (hK : KB I) {hs : Int → Bool} (hF : ∀ k, 0 ≤ k → k < (I 12 0 17) → I 59 0 k = bI (hs k = true)) {g fl bt a b : Int} (g0 : 0 ≤ g) (g1 : g < 20) (f0 : 0 ≤ fl) (f1 : fl ≤ 1) (b0 : 0 ≤ bt) (b1 : bt < 150) (a0 : -1 ≤ a) (a1 : a < 150) (hb : AM (ltQ hs I g fl bt) (fun k => (I 45 0 k)) (I 12 0 17) b) : ∀ k x l, 1 ≤ k → k ≤ (I 12 0 17) → AM (ltQ hs I g fl bt) (fun k => (I 45 0 k)) k x → l = ltV I a x → Ev (fun F => J12_leastTime_103 F (rf e 12 0) (xk g) (xk fl) (xk bt) (Int64.ofInt l) (xk k) (HS e C I z)) (rL (ltV I a b) (HS e C I z)) := by
  have := RB.groups hB
  intro k
  refine lpN (P := fun k => ∀ x l, 1 ≤ k → k ≤ (I 12 0 17) → AM (ltQ hs I g fl bt) (fun k => (I 45 0 k)) k x → l = ltV I a x → Ev (fun F => J12_leastTime_103 F (rf e 12 0) (xk g) (xk fl) (xk bt) (Int64.ofInt l) (xk k) (HS e C I z)) (rL (ltV I a b) (HS e C I z))) (I 12 0 17) (fun k ih x l k0 k1 hx hl => ?_) k
  refine Ev.step (fun F => E12_leastTime_103 F _ _ _ _ _ _ _) ?_
  simp (disch := omega) only [a_38 hA hR, g_12_17 hA hR, g_12_18 hA hR, Option.bind_some, up_s, up_k, up_j, up_i, xk_add, xk_sub, xk_mul, xk_neg, lk_add, lN_z, rf_none, rb1, rb0, rbp, xk_nI, zk_eq, zk_lt, zk_eq0, zk_lt0, zk_0lt, zk_long, lz_lt, lz_gt, zmax, zmin, ↓reduceIte, Int.reduceEq, Int.reduceLT, Int.reduceNeg, Int.reduceAdd, Int.reduceSub, Int.reduceMul, Int.ofNat_eq_natCast, Int.cast_ofNat_Int]
  refine Ev.ite (fun h => ?_) (fun h => ?_)
  · have := RB.within hB (j := k) (by omega) (by omega)
    have ih := fun x l => ih h x l (by omega) (by omega)
    try simp (disch := omega) only [a_38 hA hR, g_12_17 hA hR, g_12_18 hA hR, Option.bind_some, up_s, up_k, up_j, up_i, xk_add, xk_sub, xk_mul, xk_neg, lk_add, lN_z, rf_none, rb1, rb0, rbp, xk_nI, zk_eq, zk_lt, zk_eq0, zk_lt0, zk_0lt, zk_long, lz_lt, lz_gt, zmax, zmin, ↓reduceIte, Int.reduceEq, Int.reduceLT, Int.reduceNeg, Int.reduceAdd, Int.reduceSub, Int.reduceMul, Int.ofNat_eq_natCast, Int.cast_ofNat_Int]
    have no : ¬ ltQ hs I g fl bt k → Ev (fun F => J12_leastTime_103 F (rf e 12 0) (xk g) (xk fl) (xk bt) (Int64.ofInt l) (xk (k + 1)) (HS e C I z)) (rL (ltV I a b) (HS e C I z)) := fun q => ih x l (hx.no q) hl
    have xb := hx.b (by omega)
    have tk := hK.2.1 k (by omega) (by omega)
    have ta : 0 ≤ a → 0 ≤ (I 30 0 a) ∧ (I 30 0 a) < 1000000000000 := fun q => hK.1 a q a1
    have tx : 0 ≤ x → 0 ≤ (I 45 0 x) ∧ (I 45 0 x) < 1000000000000 := fun q => ⟨(hK.2.1 x q (by omega)).1, (hK.2.1 x q (by omega)).2.1⟩
    have lb : -1 ≤ l ∧ l < 1000000000000 ∧ (l < 0 ↔ (a < 0 ∧ x < 0)) := by
      rw [hl]
      unfold ltV
      split
      · split
        · omega
        · have := tx (by omega); omega
      · have := ta (by omega)
        split
        · omega
        · have := tx (by omega); omega
    have go : (I 38 0 k) = g → ¬ (fl = 1 ∧ k = bt) → Ev (fun F => J12_leastTime_133 F (rf e 12 0) (xk g) (xk fl) (xk bt) (Int64.ofInt l) (xk k) (HS e C I z)) (rL (ltV I a b) (HS e C I z)) := by
      intro hw hn
      refine Ev.step (fun F => E12_leastTime_133 F _ _ _ _ _ _ _) ?_
      simp (disch := omega) only [a_45 hA hR, d_12 hA hR, g_12_25 hA hR, Option.bind_some, up_s, up_k, up_j, up_i, xk_add, xk_sub, xk_mul, xk_neg, lk_add, lN_z, rf_none, rb1, rb0, rbp, xk_nI, zk_eq, zk_lt, zk_eq0, zk_lt0, zk_0lt, zk_long, lz_lt, lz_gt, zmax, zmin, ↓reduceIte, Int.reduceEq, Int.reduceLT, Int.reduceNeg, Int.reduceAdd, Int.reduceSub, Int.reduceMul, Int.ofNat_eq_natCast, Int.cast_ofNat_Int]
      refine Ev.kB (isReadyR_ev hA hR hB (by omega) (by omega) (by omega) (by omega)) (fun hi => ?_) (fun hi => ?_)
      · rw [hF k (by omega) h, bI_1] at hi
        have hq : ltQ hs I g fl bt k := ⟨⟨by omega, h, hw, hi.1, hi.2⟩, hn⟩
        have tak : (x < 0 ∨ (I 45 0 k) < (I 45 0 x)) → AM (ltQ hs I g fl bt) (fun k => (I 45 0 k)) (k + 1) k := fun q => hx.take (by omega) hq q
        have kee : 0 ≤ x → (I 45 0 x) ≤ (I 45 0 k) → AM (ltQ hs I g fl bt) (fun k => (I 45 0 k)) (k + 1) x := fun q w => hx.keep q w
        try simp (disch := omega) only [a_45 hA hR, d_12 hA hR, g_12_25 hA hR, Option.bind_some, up_s, up_k, up_j, up_i, xk_add, xk_sub, xk_mul, xk_neg, lk_add, lN_z, rf_none, rb1, rb0, rbp, xk_nI, zk_eq, zk_lt, zk_eq0, zk_lt0, zk_0lt, zk_long, lz_lt, lz_gt, zmax, zmin, ↓reduceIte, Int.reduceEq, Int.reduceLT, Int.reduceNeg, Int.reduceAdd, Int.reduceSub, Int.reduceMul, Int.ofNat_eq_natCast, Int.cast_ofNat_Int]
        refine Ev.ite (fun hz => ?_) (fun hz => ?_)
        · refine ih k _ (tak (by omega)) ?_
          unfold ltV
          rw [if_pos (by omega), if_neg (by omega)]
        · refine Ev.ite (fun hc => ?_) (fun hc => ?_)
          · have : x < 0 ∨ (I 45 0 k) < (I 45 0 x) := by
              by_cases q : x < 0
              · exact Or.inl q
              · right
                rw [hl] at hc
                unfold ltV at hc
                rw [if_neg q, if_neg q] at hc
                split at hc <;> omega
            refine ih k _ (tak this) ?_
            unfold ltV
            rw [if_neg (by omega : ¬ k < 0), if_neg (by omega : ¬ k < 0)]
            split
            · rfl
            · rw [hl] at hc
              unfold ltV at hc
              rw [if_neg (by assumption)] at hc
              split at hc <;> omega
          · by_cases q : x < 0 ∨ (I 45 0 k) < (I 45 0 x)
            · refine ih k _ (tak q) ?_
              rw [hl] at hc hz ⊢
              unfold ltV at hc hz ⊢
              by_cases qa : a < 0
              · simp only [if_pos qa] at hc hz ⊢
                by_cases qx : x < 0
                · simp only [if_pos qx] at hz; omega
                · simp only [if_neg qx] at hc ⊢; omega
              · simp only [if_neg qa] at hc hz ⊢
                rw [if_neg (by omega : ¬ k < 0)]
                by_cases qx : x < 0
                · simp only [if_pos qx] at hc ⊢; omega
                · simp only [if_neg qx] at hc ⊢; omega
            · exact ih x _ (kee (by omega) (by omega)) hl
      · rw [hF k (by omega) h, bI_1] at hi
        try simp (disch := omega) only [a_45 hA hR, d_12 hA hR, g_12_25 hA hR, Option.bind_some, up_s, up_k, up_j, up_i, xk_add, xk_sub, xk_mul, xk_neg, lk_add, lN_z, rf_none, rb1, rb0, rbp, xk_nI, zk_eq, zk_lt, zk_eq0, zk_lt0, zk_0lt, zk_long, lz_lt, lz_gt, zmax, zmin, ↓reduceIte, Int.reduceEq, Int.reduceLT, Int.reduceNeg, Int.reduceAdd, Int.reduceSub, Int.reduceMul, Int.ofNat_eq_natCast, Int.cast_ofNat_Int]
        exact no (fun q => hi ⟨q.1.2.2.2.1, q.1.2.2.2.2⟩)
    refine Ev.ite (fun hw => ?_) (fun hw => no (fun q => hw q.1.2.2.1))
    refine Ev.ite (fun hf => go hw (by omega)) (fun hf => ?_)
    exact Ev.ite (fun hk => no (fun q => q.2 ⟨by omega, hk⟩)) (fun hk => go hw (by omega))
  · have : k = (I 12 0 17) := by omega
    subst this
    rw [hl, hx.uq hb]
    exact Ev.ret rfl
theorem leastTime12_ev (hA : WA e z) (hR : WR e) (hB : RB I) (hK : KB I) {hs : Int → Bool} (hF : ∀ k, 0 ≤ k → k < (I 12 0 17) → I 59 0 k = bI (hs k = true)) {g fl bt a b : Int} (g0 : 0 ≤ g) (g1 : g < 20) (f0 : 0 ≤ fl) (f1 : fl ≤ 1) (b0 : 0 ≤ bt) (b1 : bt < 150) (ha : AM (ltP I g fl bt) (fun k => (I 30 0 k)) (I 12 0 1) a) (hb : AM (ltQ hs I g fl bt) (fun k => (I 45 0 k)) (I 12 0 17) b) : ∀ t x l, 0 ≤ t → t ≤ (I 12 0 1) → AM (ltP I g fl bt) (fun k => (I 30 0 k)) t x → l = ltV I x (-1) → Ev (fun F => J12_leastTime_12 F (rf e 12 0) (xk g) (xk fl) (xk bt) (Int64.ofInt l) (xk t) (HS e C I z)) (rL (ltV I a b) (HS e C I z)) := by
  have := RB.tasks hB
  have := RB.groups hB
  intro t
  refine lpN (P := fun t => ∀ x l, 0 ≤ t → t ≤ (I 12 0 1) → AM (ltP I g fl bt) (fun k => (I 30 0 k)) t x → l = ltV I x (-1) → Ev (fun F => J12_leastTime_12 F (rf e 12 0) (xk g) (xk fl) (xk bt) (Int64.ofInt l) (xk t) (HS e C I z)) (rL (ltV I a b) (HS e C I z))) (I 12 0 1) (fun t ih x l t0 t1 hx hl => ?_) t
  refine Ev.step (fun F => E12_leastTime_12 F _ _ _ _ _ _ _) ?_
  simp (disch := omega) only [a_22 hA hR, a_25 hA hR, a_29 hA hR, g_12_1 hA hR, g_12_2 hA hR, g_12_5 hA hR, g_12_9 hA hR, Option.bind_some, up_s, up_k, up_j, up_i, xk_add, xk_sub, xk_mul, xk_neg, lk_add, lN_z, rf_none, rb1, rb0, rbp, xk_nI, zk_eq, zk_lt, zk_eq0, zk_lt0, zk_0lt, zk_long, lz_lt, lz_gt, zmax, zmin, ↓reduceIte, Int.reduceEq, Int.reduceLT, Int.reduceNeg, Int.reduceAdd, Int.reduceSub, Int.reduceMul, Int.ofNat_eq_natCast, Int.cast_ofNat_Int]
  refine Ev.ite (fun h => ?_) (fun h => ?_)
  · have := RB.state hB (j := t) (by omega) (by omega)
    have := RB.asleep hB (j := t) (by omega) (by omega)
    have := RB.group hB (j := t) (by omega) (by omega)
    have ih := fun x l => ih h x l (by omega) (by omega)
    try simp (disch := omega) only [a_22 hA hR, a_25 hA hR, a_29 hA hR, g_12_1 hA hR, g_12_2 hA hR, g_12_5 hA hR, g_12_9 hA hR, Option.bind_some, up_s, up_k, up_j, up_i, xk_add, xk_sub, xk_mul, xk_neg, lk_add, lN_z, rf_none, rb1, rb0, rbp, xk_nI, zk_eq, zk_lt, zk_eq0, zk_lt0, zk_0lt, zk_long, lz_lt, lz_gt, zmax, zmin, ↓reduceIte, Int.reduceEq, Int.reduceLT, Int.reduceNeg, Int.reduceAdd, Int.reduceSub, Int.reduceMul, Int.ofNat_eq_natCast, Int.cast_ofNat_Int]
    have no : ¬ ltP I g fl bt t → Ev (fun F => J12_leastTime_12 F (rf e 12 0) (xk g) (xk fl) (xk bt) (Int64.ofInt l) (xk (t + 1)) (HS e C I z)) (rL (ltV I a b) (HS e C I z)) := fun q => ih x l (hx.no q) hl
    have xb := hx.b (by omega)
    have tk := hK.1 t (by omega) (by omega)
    have tx : 0 ≤ x → 0 ≤ (I 30 0 x) ∧ (I 30 0 x) < 1000000000000 := fun q => hK.1 x q (by omega)
    have lv : l = if x < 0 then -1 else (I 30 0 x) := by
      rw [hl]
      unfold ltV
      split <;> rfl
    have go : ltP I g fl bt t → Ev (fun F => J12_leastTime_65 F (rf e 12 0) (xk g) (xk fl) (xk bt) (Int64.ofInt l) (xk t) (HS e C I z)) (rL (ltV I a b) (HS e C I z)) := by
      intro hq
      have lb : -1 ≤ l ∧ l < 1000000000000 ∧ (l < 0 ↔ x < 0) := by
        rw [lv]
        split
        · omega
        · have := tx (by omega); omega
      have nv : ltV I t (-1) = (I 30 0 t) := by unfold ltV; rw [if_neg (by omega)]; rfl
      refine Ev.step (fun F => E12_leastTime_65 F _ _ _ _ _ _ _) ?_
      simp (disch := omega) only [a_30 hA hR, g_12_10 hA hR, Option.bind_some, up_s, up_k, up_j, up_i, xk_add, xk_sub, xk_mul, xk_neg, lk_add, lN_z, rf_none, rb1, rb0, rbp, xk_nI, zk_eq, zk_lt, zk_eq0, zk_lt0, zk_0lt, zk_long, lz_lt, lz_gt, zmax, zmin, ↓reduceIte, Int.reduceEq, Int.reduceLT, Int.reduceNeg, Int.reduceAdd, Int.reduceSub, Int.reduceMul, Int.ofNat_eq_natCast, Int.cast_ofNat_Int]
      refine Ev.ite (fun hz => ?_) (fun hz => ?_)
      · exact ih t _ (hx.take t0 hq (Or.inl (by omega))) nv.symm
      · rw [if_neg (by omega)] at lv
        refine Ev.ite (fun hc => ?_) (fun hc => ?_)
        · exact ih t _ (hx.take t0 hq (Or.inr (by show (I 30 0 t) < (I 30 0 x); omega))) nv.symm
        · exact ih x _ (hx.keep (by omega) (by show (I 30 0 x) ≤ (I 30 0 t); omega)) hl
    refine Ev.ite (fun h1 => ?_) (fun h1 => no (fun q => h1 q.1.2.2.1))
    refine Ev.ite (fun h2 => ?_) (fun h2 => no (fun q => h2 q.1.2.2.2.1))
    refine Ev.ite (fun h3 => ?_) (fun h3 => no (fun q => h3 q.1.2.2.2.2))
    refine Ev.ite (fun h4 => ?_) (fun h4 => go ⟨⟨t0, h, h1, h2, h3⟩, by omega⟩)
    exact Ev.ite (fun h5 => no (fun q => q.2 ⟨h4, h5⟩)) (fun h5 => go ⟨⟨t0, h, h1, h2, h3⟩, by omega⟩)
  · have : t = (I 12 0 1) := by omega
    subst this
    have e := hx.uq ha
    have ab := ha.b (by omega)
    refine leastTime103_ev hA hR hB hK hF g0 g1 f0 f1 b0 b1 (by omega) (by omega) hb 1 (-1) l (by omega) (by omega) ?_ (by rw [hl, e])
    have := (AM.z (P := ltQ hs I g fl bt) (f := fun k => (I 45 0 k))).no (fun q => absurd q.1.1 (by omega))
    exact this
theorem KB.fr {J : ST} (h : KB J) {hs : Int → Bool} : KB (frI J hs) := by
  unfold KB
  simp (disch := decide) only [fr_f]
  exact h
theorem rt_c {I I' : ST} (h1 : I' 12 0 1 = I 12 0 1) (h2 : ∀ j, I' 22 0 j = I 22 0 j) (h3 : ∀ j, I' 29 0 j = I 29 0 j) (h4 : ∀ j, I' 25 0 j = I 25 0 j) : rt I' = rt I := by
  funext g t
  unfold rt
  rw [h1, h2, h3, h4]
theorem rg_c {I I' : ST} (h1 : I' 12 0 17 = I 12 0 17) (h2 : ∀ j, I' 38 0 j = I 38 0 j) (h3 : ∀ j, I' 42 0 j = I 42 0 j) (h4 : ∀ j, I' 44 0 j = I 44 0 j) {hs : Int → Bool} : rg hs I' = rg hs I := by
  funext g t
  unfold rg qok
  rw [h1, h2, h3, h4]
theorem rt_fr {hs : Int → Bool} : rt (frI I hs) = rt I := rt_c (fr_f (by decide)) (fun _ => fr_f (by decide)) (fun _ => fr_f (by decide)) (fun _ => fr_f (by decide))
theorem rg_fr {hs hs' : Int → Bool} : rg hs' (frI I hs) = rg hs' I := rg_c (fr_f (by decide)) (fun _ => fr_f (by decide)) (fun _ => fr_f (by decide)) (fun _ => fr_f (by decide))
theorem leastTime_ev (hA : WA e z) (hR : WR e) (hB : RB I) (hK : KB I) {hs : Int → Bool} (hH : HsR I hs) {g fl bt a b : Int} (g0 : 0 ≤ g) (g1 : g < 20) (f0 : 0 ≤ fl) (f1 : fl ≤ 1) (b0 : 0 ≤ bt) (b1 : bt < 150) (ha : AM (ltP I g fl bt) (fun k => (I 30 0 k)) (I 12 0 1) a) (hb : AM (ltQ hs I g fl bt) (fun k => (I 45 0 k)) (I 12 0 17) b) : Ev (fun F => J12_leastTime F (rf e 12 0) (xk g) (xk fl) (xk bt) (HS e C I z)) (rL (ltV I a b) (HS e C (frI I hs) z)) := by
  refine Ev.step (fun F => E12_leastTime F _ _ _ _ _) ?_
  simp (disch := omega) only [d_12 hA hR, Option.bind_some, up_s, up_k, up_j, up_i, xk_add, xk_sub, xk_mul, xk_neg, lk_add, lN_z, rf_none, rb1, rb0, rbp, xk_nI, zk_eq, zk_lt, zk_eq0, zk_lt0, zk_0lt, zk_long, lz_lt, lz_gt, zmax, zmin, ↓reduceIte, Int.reduceEq, Int.reduceLT, Int.reduceNeg, Int.reduceAdd, Int.reduceSub, Int.reduceMul, Int.ofNat_eq_natCast, Int.cast_ofNat_Int]
  refine Ev.kV (findReady_ev hA hR hB hK hH) ?_
  have e1 : frI I hs 12 0 1 = I 12 0 1 := fr_f (by decide)
  have e2 : frI I hs 12 0 17 = I 12 0 17 := fr_f (by decide)
  have e3 : ltV (frI I hs) a b = ltV I a b := by
    unfold ltV
    simp (disch := decide) only [fr_f]
  have e4 : ltP (frI I hs) g fl bt = ltP I g fl bt := by funext t; unfold ltP; rw [rt_fr]
  have e5 : ltQ hs (frI I hs) g fl bt = ltQ hs I g fl bt := by funext t; unfold ltQ; rw [rg_fr]
  have := leastTime12_ev (C := C) (I := frI I hs) hA hR hB.fri hK.fr (hs := hs) (fun k k0 k1 => fr_h k0 (by rw [← e2]; exact k1)) g0 g1 f0 f1 b0 b1 (a := a) (b := b) (by rw [e4, e1]; simp (disch := decide) only [fr_f]; exact ha) (by rw [e5, e2]; simp (disch := decide) only [fr_f]; exact hb) 0 (-1) (-1) (by omega) (by have := RB.tasks hB; omega) AM.z rfl
  rw [e3] at this
  rw [ll_n1]
  exact this
def cmI (J : ST) (t mv x : Int) : ST := if mv = 0 then (if (J 30 0 t) < x then up J 30 0 t x else J) else up J 30 0 t (if x < 0 then 0 else x)
theorem come_ev (hA : WA e z) (hR : WR e) (hB : RB I) (hK : KB I) {hs : Int → Bool} (hH : HsR I hs) {t mv a b : Int} (t0 : 0 ≤ t) (t1 : t < 150) (m0 : 0 ≤ mv) (m1 : mv ≤ 1) (ha : AM (ltP I (I 25 0 t) 0 t) (fun k => (I 30 0 k)) (I 12 0 1) a) (hb : AM (ltQ hs I (I 25 0 t) 0 t) (fun k => (I 45 0 k)) (I 12 0 17) b) : Ev (fun F => J12_come F (rf e 12 0) (xk t) (xk mv) (HS e C I z)) (rV (HS e C (cmI (frI I hs) t mv (ltV I a b)) z)) := by
  have := RB.group hB (j := t) (by omega) (by omega)
  have := RB.tasks hB
  have := RB.groups hB
  have tt := hK.1 t t0 t1
  have ab := ha.b (by omega)
  have bb := hb.b (by omega)
  have lb : -1 ≤ ltV I a b ∧ ltV I a b < 1000000000000 := by
    unfold ltV
    split
    · split
      · omega
      · have := hK.2.1 b (by omega) (by omega); omega
    · have := hK.1 a (by omega) (by omega)
      split
      · omega
      · have := hK.2.1 b (by omega) (by omega); omega
  refine Ev.step (fun F => E12_come F _ _ _ _) ?_
  simp (disch := omega) only [a_25 hA hR, a_30 hA hR, d_12 hA hR, g_12_10 hA hR, g_12_5 hA hR, s_25 hA hR, s_30 hA hR, Option.bind_some, up_s, up_k, up_j, up_i, xk_add, xk_sub, xk_mul, xk_neg, lk_add, lN_z, rf_none, rb1, rb0, rbp, xk_nI, zk_eq, zk_lt, zk_eq0, zk_lt0, zk_0lt, zk_long, lz_lt, lz_gt, zmax, zmin, ↓reduceIte, Int.reduceEq, Int.reduceLT, Int.reduceNeg, Int.reduceAdd, Int.reduceSub, Int.reduceMul, Int.ofNat_eq_natCast, Int.cast_ofNat_Int]
  refine Ev.kL (leastTime_ev hA hR hB hK hH (by omega) (by omega) (by omega) (by omega) t0 t1 ha hb) ?_
  have e1 : ∀ j, frI I hs 30 0 j = I 30 0 j := fun j => fr_f (by decide)
  try simp (disch := omega) only [a_25 hA hR, a_30 hA hR, d_12 hA hR, g_12_10 hA hR, g_12_5 hA hR, s_25 hA hR, s_30 hA hR, Option.bind_some, up_s, up_k, up_j, up_i, xk_add, xk_sub, xk_mul, xk_neg, lk_add, lN_z, rf_none, rb1, rb0, rbp, xk_nI, zk_eq, zk_lt, zk_eq0, zk_lt0, zk_0lt, zk_long, lz_lt, lz_gt, zmax, zmin, ↓reduceIte, Int.reduceEq, Int.reduceLT, Int.reduceNeg, Int.reduceAdd, Int.reduceSub, Int.reduceMul, Int.ofNat_eq_natCast, Int.cast_ofNat_Int, e1]
  unfold cmI
  refine Ev.ite (fun h => ?_) (fun h => ?_)
  · rw [if_pos h]
    refine Ev.ite (fun q => Ev.ret ?_) (fun q => Ev.ret ?_)
    · rw [if_pos (by rw [e1]; exact q)]; rfl
    · rw [if_neg (by rw [e1]; exact q)]; rfl
  · rw [if_neg h]
    refine Ev.ite (fun q => Ev.ret ?_) (fun q => Ev.ret ?_)
    · rw [if_pos q]; rfl
    · rw [if_neg q]; rfl
end RA
end
section
/-! the reference: tick -/
def ldF (J : ST) (ft fg : Int → Int) (g : Int) : Prop := 0 ≤ fg g ∧ (ft g < 0 ∨ (J 45 0 (fg g)) < (J 30 0 (ft g)))
def ldB (J : ST) (ft fg : Int → Int) (g : Int) : Bool := decide (0 ≤ fg g) && (decide (ft g < 0) || decide ((J 45 0 (fg g)) < (J 30 0 (ft g))))
theorem ld_i {J : ST} {ft fg : Int → Int} {g : Int} : ldB J ft fg g = true ↔ ldF J ft fg g := by
  unfold ldB ldF
  simp only [Bool.and_eq_true, Bool.or_eq_true, decide_eq_true_eq]
def wkF (J : ST) (ft fg : Int → Int) : Nat → Int → Int × Int
  | 0, g => (g, ft g)
  | n + 1, g => if ldB J ft fg g = true then wkF J ft fg n (fg g) else (g, ft g)
/-- ft, fg: each group's first ready task and first ready group -/
def FtR (hs : Int → Bool) (J : ST) (ft fg : Int → Int) : Prop := ∀ g, 0 ≤ g → g < (J 12 0 17) → AM (rt J g) (fun k => (J 30 0 k)) (J 12 0 1) (ft g) ∧ AM (rg hs J g) (fun k => (J 45 0 k)) (J 12 0 17) (fg g)
def rnS (J : ST) (k : Int) : ST := if 0 < k then up (up J 44 0 k ((J 44 0 k) + 1)) 45 0 k ((J 45 0 k) + 1000000 / (J 41 0 k)) else up J 44 0 k ((J 44 0 k) + 1)
def rnF : Nat → Int → ST → ST
  | 0, _, J => J
  | n + 1, k, J => if k < 0 then J else rnF n (J 38 0 k) (rnS J k)
def rsI (J : ST) : ST := fun k i j => if k = 44 ∧ i = 0 ∧ 0 ≤ j ∧ j < (J 12 0 17) then 0 else J k i j
def peI (J : ST) : ST := if (J 12 0 26) % 20 = 0 then rsI J else J
def ruI (J : ST) (g t : Int) : ST := if t < 0 then J else rnF 20 g (up (up J 30 0 t ((J 30 0 t) + 10000)) 31 0 t ((J 31 0 t) + 1))
section RA
variable {e : EN} {C I : ST} {z : Nat × Nat × Nat × Nat}
theorem tick328_ev (hA : WA e z) (hR : WR e) {I : ST} (hB : RB I) {t : Int} : Ev (fun F => J12_tick_328 F (rf e 12 0) (xk t) (xk 0) (HS e C I z)) (rI t (HS e C (rsI I) z)) := by
  have := RB.groups hB
  refine lpN (P := fun k => ∀ I', 0 ≤ k → k ≤ (I 12 0 17) → I' = (fun k' i j => if k' = 44 ∧ i = 0 ∧ 0 ≤ j ∧ j < k then 0 else I k' i j) → Ev (fun F => J12_tick_328 F (rf e 12 0) (xk t) (xk k) (HS e C I' z)) (rI t (HS e C (rsI I) z))) (I 12 0 17) (fun k ih I' k0 k1 hI => ?_) 0 _ (by omega) (by omega) ?_
  · have e1 : I' 12 0 17 = (I 12 0 17) := by rw [hI]; simp
    refine Ev.step (fun F => E12_tick_328 F _ _ _ _) ?_
    simp (disch := omega) only [g_12_17 hA hR, g_12_24 hA hR, s_44 hA hR, Option.bind_some, up_s, up_k, up_j, up_i, xk_add, xk_sub, xk_mul, xk_neg, lk_add, lN_z, rf_none, rb1, rb0, rbp, xk_nI, zk_eq, zk_lt, zk_eq0, zk_lt0, zk_0lt, zk_long, lz_lt, lz_gt, zmax, zmin, ↓reduceIte, Int.reduceEq, Int.reduceLT, Int.reduceNeg, Int.reduceAdd, Int.reduceSub, Int.reduceMul, Int.ofNat_eq_natCast, Int.cast_ofNat_Int, e1]
    refine Ev.ite (fun h => ?_) (fun h => ?_)
    · refine ih h _ (by omega) (by omega) ?_
      rw [hI]
      funext k i j
      simp only [up]
      repeat' split
      all_goals first | rfl | (exfalso; omega)
    · refine Ev.ret ?_
      have : k = (I 12 0 17) := by omega
      subst this
      rw [hI]
      rfl
  · funext k i j
    rw [if_neg (by omega)]
theorem per_ev (hA : WA e z) (hR : WR e) {I : ST} (hB : RB I) (c0 : 0 ≤ (I 12 0 26)) (c1 : (I 12 0 26) < 10000000) {t : Int} : Ev (fun F => if ((I 12 0 26) - (I 12 0 26) / 20 * 20) = 0 then J12_tick_328 F (rf e 12 0) (xk t) (xk 0) (HS e C I z) else some (.inl (some (.inl (xk t))), HS e C I z)) (rI t (HS e C (peI I) z)) := by
  unfold peI
  refine Ev.ite (fun h => ?_) (fun h => ?_)
  · rw [if_pos (by omega)]; exact tick328_ev hA hR hB
  · rw [if_neg (by omega)]; exact Ev.ret rfl
theorem tick260_ev (hA : WA e z) (hR : WR e) {t : Int} (t0 : 0 ≤ t) (t1 : t < 150) : ∀ (n : Nat) (k : Int) (I : ST), RB I → (∀ g, 0 ≤ g → g < (I 12 0 17) → 1 ≤ (I 41 0 g)) → -1 ≤ k → k < (I 12 0 17) → k < n → 0 ≤ (I 12 0 26) → (I 12 0 26) < 10000000 → Ev (fun F => J12_tick_260 F (rf e 12 0) (xk t) (xk k) (HS e C I z)) (rI t (HS e C (peI (rnF n k I)) z)) := by
  intro n
  induction n with
  | zero =>
    intro k I hB hW k0 k1 kn c0 c1
    refine Ev.step (fun F => E12_tick_260 F _ _ _ _) ?_
    simp (disch := omega) only [a_38 hA hR, a_41 hA hR, a_44 hA hR, a_45 hA hR, g_12_18 hA hR, g_12_21 hA hR, g_12_24 hA hR, g_12_25 hA hR, g_12_26 hA hR, s_38 hA hR, s_41 hA hR, s_44 hA hR, s_45 hA hR, Option.bind_some, up_s, up_k, up_j, up_i, xk_add, xk_sub, xk_mul, xk_neg, lk_add, lN_z, rf_none, rb1, rb0, rbp, xk_nI, zk_eq, zk_lt, zk_eq0, zk_lt0, zk_0lt, zk_long, lz_lt, lz_gt, zmax, zmin, ↓reduceIte, Int.reduceEq, Int.reduceLT, Int.reduceNeg, Int.reduceAdd, Int.reduceSub, Int.reduceMul, Int.ofNat_eq_natCast, Int.cast_ofNat_Int, zdiv]
    refine Ev.ite (fun _ => ?_) (fun q => absurd q (by omega))
    exact per_ev hA hR hB c0 c1
  | succ n ih =>
    intro k I hB hW k0 k1 kn c0 c1
    have := RB.groups hB
    rw [rnF]
    refine Ev.step (fun F => E12_tick_260 F _ _ _ _) ?_
    simp (disch := omega) only [a_38 hA hR, a_41 hA hR, a_44 hA hR, a_45 hA hR, g_12_18 hA hR, g_12_21 hA hR, g_12_24 hA hR, g_12_25 hA hR, g_12_26 hA hR, s_38 hA hR, s_41 hA hR, s_44 hA hR, s_45 hA hR, Option.bind_some, up_s, up_k, up_j, up_i, xk_add, xk_sub, xk_mul, xk_neg, lk_add, lN_z, rf_none, rb1, rb0, rbp, xk_nI, zk_eq, zk_lt, zk_eq0, zk_lt0, zk_0lt, zk_long, lz_lt, lz_gt, zmax, zmin, ↓reduceIte, Int.reduceEq, Int.reduceLT, Int.reduceNeg, Int.reduceAdd, Int.reduceSub, Int.reduceMul, Int.ofNat_eq_natCast, Int.cast_ofNat_Int, zdiv]
    refine Ev.ite (fun h => ?_) (fun h => ?_)
    · rw [if_pos (by omega)]
      exact per_ev hA hR hB c0 c1
    · rw [if_neg (by omega)]
      have w1 := hW k (by omega) k1
      have := RB.weight hB (j := k) (by omega) (by omega)
      have := RB.within hB (j := k) (by omega) (by omega)
      have := RB.wiw hB (j := k) (by omega) (by omega)
      unfold rnS
      refine Ev.ite (fun q => ?_) (fun q => ?_)
      · rw [if_pos q]
        have d0 : 0 ≤ 1000000 / (I 41 0 k) := Int.ediv_nonneg (by omega) (by omega)
        have d1 : 1000000 / (I 41 0 k) ≤ 1000000 := Int.ediv_le_self _ (by omega)
        try simp (disch := omega) only [a_38 hA hR, a_41 hA hR, a_44 hA hR, a_45 hA hR, g_12_18 hA hR, g_12_21 hA hR, g_12_24 hA hR, g_12_25 hA hR, g_12_26 hA hR, s_38 hA hR, s_41 hA hR, s_44 hA hR, s_45 hA hR, Option.bind_some, up_s, up_k, up_j, up_i, xk_add, xk_sub, xk_mul, xk_neg, lk_add, lN_z, rf_none, rb1, rb0, rbp, xk_nI, zk_eq, zk_lt, zk_eq0, zk_lt0, zk_0lt, zk_long, lz_lt, lz_gt, zmax, zmin, ↓reduceIte, Int.reduceEq, Int.reduceLT, Int.reduceNeg, Int.reduceAdd, Int.reduceSub, Int.reduceMul, Int.ofNat_eq_natCast, Int.cast_ofNat_Int, i32_m, zdiv]
        refine Ev.ite (fun w => absurd w (by omega)) (fun _ => ?_)
        refine ih _ _ (RB.u_groupTime (RB.u_ranNow hB)) ?_ (by omega) ?_ (by omega) ?_ ?_
        · intro g; rw [up_k (by decide), up_k (by decide), up_k (by decide), up_k (by decide)]; exact hW g
        · rw [up_k (by decide), up_k (by decide)]; omega
        · rw [up_k (by decide), up_k (by decide)]; exact c0
        · rw [up_k (by decide), up_k (by decide)]; exact c1
      · rw [if_neg q]
        try simp (disch := omega) only [a_38 hA hR, a_41 hA hR, a_44 hA hR, a_45 hA hR, g_12_18 hA hR, g_12_21 hA hR, g_12_24 hA hR, g_12_25 hA hR, g_12_26 hA hR, s_38 hA hR, s_41 hA hR, s_44 hA hR, s_45 hA hR, Option.bind_some, up_s, up_k, up_j, up_i, xk_add, xk_sub, xk_mul, xk_neg, lk_add, lN_z, rf_none, rb1, rb0, rbp, xk_nI, zk_eq, zk_lt, zk_eq0, zk_lt0, zk_0lt, zk_long, lz_lt, lz_gt, zmax, zmin, ↓reduceIte, Int.reduceEq, Int.reduceLT, Int.reduceNeg, Int.reduceAdd, Int.reduceSub, Int.reduceMul, Int.ofNat_eq_natCast, Int.cast_ofNat_Int]
        refine ih _ _ (RB.u_ranNow hB) ?_ (by omega) ?_ (by omega) ?_ ?_
        · intro g; rw [up_k (by decide), up_k (by decide)]; exact hW g
        · rw [up_k (by decide)]; omega
        · rw [up_k (by decide)]; exact c0
        · rw [up_k (by decide)]; exact c1
theorem tick25z_ev (hA : WA e z) (hR : WR e) (hB : RB I) (hW : ∀ g, 0 ≤ g → g < (I 12 0 17) → 1 ≤ (I 41 0 g)) (c0 : 0 ≤ (I 12 0 26)) (c1 : (I 12 0 26) < 10000000) {t g : Int} (t0 : -1 ≤ t) (t1 : t < 150) (g0 : 0 ≤ g) (g1 : g < (I 12 0 17)) : Ev (fun F => J12_tick_25 F (rf e 12 0) (xk t) (xk g) (xk 0) (HS e C I z)) (rI t (HS e C (peI (ruI I g t)) z)) := by
  have := RB.groups hB
  refine Ev.step (fun F => E12_tick_25 F _ _ _ _ _) ?_
  simp (disch := omega) only [a_30 hA hR, a_31 hA hR, g_12_10 hA hR, g_12_11 hA hR, g_12_26 hA hR, s_30 hA hR, s_31 hA hR, Option.bind_some, up_s, up_k, up_j, up_i, xk_add, xk_sub, xk_mul, xk_neg, lk_add, lN_z, rf_none, rb1, rb0, rbp, xk_nI, zk_eq, zk_lt, zk_eq0, zk_lt0, zk_0lt, zk_long, lz_lt, lz_gt, zmax, zmin, ↓reduceIte, Int.reduceEq, Int.reduceLT, Int.reduceNeg, Int.reduceAdd, Int.reduceSub, Int.reduceMul, Int.ofNat_eq_natCast, Int.cast_ofNat_Int, zdiv, ll_10000]
  unfold ruI
  refine Ev.ite (fun h => ?_) (fun h => ?_)
  · rw [if_pos (by omega)]
    exact per_ev hA hR hB c0 c1
  · rw [if_neg (by omega)]
    try simp (disch := omega) only [a_30 hA hR, a_31 hA hR, g_12_10 hA hR, g_12_11 hA hR, g_12_26 hA hR, s_30 hA hR, s_31 hA hR, Option.bind_some, up_s, up_k, up_j, up_i, xk_add, xk_sub, xk_mul, xk_neg, lk_add, lN_z, rf_none, rb1, rb0, rbp, xk_nI, zk_eq, zk_lt, zk_eq0, zk_lt0, zk_0lt, zk_long, lz_lt, lz_gt, zmax, zmin, ↓reduceIte, Int.reduceEq, Int.reduceLT, Int.reduceNeg, Int.reduceAdd, Int.reduceSub, Int.reduceMul, Int.ofNat_eq_natCast, Int.cast_ofNat_Int, ll_10000]
    refine tick260_ev hA hR (by omega) t1 20 g _ (RB.u_ran (RB.u_time hB)) ?_ (by omega) ?_ (by omega) ?_ ?_
    · intro g; rw [up_k (by decide), up_k (by decide), up_k (by decide), up_k (by decide)]; exact hW g
    · rw [up_k (by decide), up_k (by decide)]; exact g1
    · rw [up_k (by decide), up_k (by decide)]; exact c0
    · rw [up_k (by decide), up_k (by decide)]; exact c1
theorem tick115_ev (hA : WA e z) (hR : WR e) (hB : RB I) (hK : KB I) {hs : Int → Bool} (hF : ∀ k, 0 ≤ k → k < (I 12 0 17) → I 59 0 k = bI (hs k = true)) {g a b : Int} {r : XV × XH} (g0 : 0 ≤ g) (g1 : g < 20) (a0 : -1 ≤ a) (a1 : a < 150) (hb : AM (rg hs I g) (fun k => (I 45 0 k)) (I 12 0 17) b) (hab : ¬ (a = -1 ∧ b = -1)) (h1 : (0 ≤ b ∧ (a < 0 ∨ (I 45 0 b) < (I 30 0 a))) → Ev (fun F => J12_tick_25 F (rf e 12 0) (xk (-1)) (xk b) (xk 1) (HS e C I z)) r) (h2 : ¬ (0 ≤ b ∧ (a < 0 ∨ (I 45 0 b) < (I 30 0 a))) → Ev (fun F => J12_tick_25 F (rf e 12 0) (xk a) (xk g) (xk 0) (HS e C I z)) r) : ∀ k x, 1 ≤ k → k ≤ (I 12 0 17) → AM (rg hs I g) (fun k => (I 45 0 k)) k x → Ev (fun F => J12_tick_115 F (rf e 12 0) (xk (-1)) (xk g) (xk a) (xk x) (xk k) (HS e C I z)) r := by
  have := RB.groups hB
  intro k
  refine lpN (P := fun k => ∀ x, 1 ≤ k → k ≤ (I 12 0 17) → AM (rg hs I g) (fun k => (I 45 0 k)) k x → Ev (fun F => J12_tick_115 F (rf e 12 0) (xk (-1)) (xk g) (xk a) (xk x) (xk k) (HS e C I z)) r) (I 12 0 17) (fun k ih x k0 k1 hx => ?_) k
  have xb := hx.b (by omega)
  refine Ev.step (fun F => E12_tick_115 F _ _ _ _ _ _ _) ?_
  simp (disch := omega) only [a_30 hA hR, a_38 hA hR, a_45 hA hR, d_12 hA hR, g_12_10 hA hR, g_12_17 hA hR, g_12_18 hA hR, g_12_25 hA hR, Option.bind_some, up_s, up_k, up_j, up_i, xk_add, xk_sub, xk_mul, xk_neg, lk_add, lN_z, rf_none, rb1, rb0, rbp, xk_nI, zk_eq, zk_lt, zk_eq0, zk_lt0, zk_0lt, zk_long, lz_lt, lz_gt, zmax, zmin, ↓reduceIte, Int.reduceEq, Int.reduceLT, Int.reduceNeg, Int.reduceAdd, Int.reduceSub, Int.reduceMul, Int.ofNat_eq_natCast, Int.cast_ofNat_Int]
  refine Ev.ite (fun h => ?_) (fun h => ?_)
  · have := RB.within hB (j := k) (by omega) (by omega)
    have ih := fun x => ih h x (by omega) (by omega)
    have tk := hK.2.1 k (by omega) (by omega)
    try simp (disch := omega) only [a_30 hA hR, a_38 hA hR, a_45 hA hR, d_12 hA hR, g_12_10 hA hR, g_12_17 hA hR, g_12_18 hA hR, g_12_25 hA hR, Option.bind_some, up_s, up_k, up_j, up_i, xk_add, xk_sub, xk_mul, xk_neg, lk_add, lN_z, rf_none, rb1, rb0, rbp, xk_nI, zk_eq, zk_lt, zk_eq0, zk_lt0, zk_0lt, zk_long, lz_lt, lz_gt, zmax, zmin, ↓reduceIte, Int.reduceEq, Int.reduceLT, Int.reduceNeg, Int.reduceAdd, Int.reduceSub, Int.reduceMul, Int.ofNat_eq_natCast, Int.cast_ofNat_Int]
    refine Ev.ite (fun hw => ?_) (fun hw => ih x (hx.no (fun q => hw q.2.2.1)))
    refine Ev.kB (isReadyR_ev hA hR hB (by omega) (by omega) (by omega) (by omega)) (fun hi => ?_) (fun hi => ?_)
    · rw [hF k (by omega) h, bI_1] at hi
      have hq : rg hs I g k := ⟨by omega, h, hw, hi.1, hi.2⟩
      try simp (disch := omega) only [a_30 hA hR, a_38 hA hR, a_45 hA hR, d_12 hA hR, g_12_10 hA hR, g_12_17 hA hR, g_12_18 hA hR, g_12_25 hA hR, Option.bind_some, up_s, up_k, up_j, up_i, xk_add, xk_sub, xk_mul, xk_neg, lk_add, lN_z, rf_none, rb1, rb0, rbp, xk_nI, zk_eq, zk_lt, zk_eq0, zk_lt0, zk_0lt, zk_long, lz_lt, lz_gt, zmax, zmin, ↓reduceIte, Int.reduceEq, Int.reduceLT, Int.reduceNeg, Int.reduceAdd, Int.reduceSub, Int.reduceMul, Int.ofNat_eq_natCast, Int.cast_ofNat_Int]
      refine Ev.ite (fun hz => ih k (hx.take (by omega) hq (Or.inl (by omega)))) (fun hz => ?_)
      have tx := hK.2.1 x (by omega) (by omega)
      try simp (disch := omega) only [a_30 hA hR, a_38 hA hR, a_45 hA hR, d_12 hA hR, g_12_10 hA hR, g_12_17 hA hR, g_12_18 hA hR, g_12_25 hA hR, Option.bind_some, up_s, up_k, up_j, up_i, xk_add, xk_sub, xk_mul, xk_neg, lk_add, lN_z, rf_none, rb1, rb0, rbp, xk_nI, zk_eq, zk_lt, zk_eq0, zk_lt0, zk_0lt, zk_long, lz_lt, lz_gt, zmax, zmin, ↓reduceIte, Int.reduceEq, Int.reduceLT, Int.reduceNeg, Int.reduceAdd, Int.reduceSub, Int.reduceMul, Int.ofNat_eq_natCast, Int.cast_ofNat_Int]
      exact Ev.ite (fun hc => ih k (hx.take (by omega) hq (Or.inr hc))) (fun hc => ih x (hx.keep (by omega) (by show (I 45 0 x) ≤ (I 45 0 k); omega)))
    · rw [hF k (by omega) h, bI_1] at hi
      try simp (disch := omega) only [a_30 hA hR, a_38 hA hR, a_45 hA hR, d_12 hA hR, g_12_10 hA hR, g_12_17 hA hR, g_12_18 hA hR, g_12_25 hA hR, Option.bind_some, up_s, up_k, up_j, up_i, xk_add, xk_sub, xk_mul, xk_neg, lk_add, lN_z, rf_none, rb1, rb0, rbp, xk_nI, zk_eq, zk_lt, zk_eq0, zk_lt0, zk_0lt, zk_long, lz_lt, lz_gt, zmax, zmin, ↓reduceIte, Int.reduceEq, Int.reduceLT, Int.reduceNeg, Int.reduceAdd, Int.reduceSub, Int.reduceMul, Int.ofNat_eq_natCast, Int.cast_ofNat_Int]
      exact ih x (hx.no (fun q => hi ⟨q.2.2.2.1, q.2.2.2.2⟩))
  · have : k = (I 12 0 17) := by omega
    subst this
    have e := hx.uq hb
    subst e
    refine Ev.ite (fun q => h1 ⟨by omega, by omega⟩) (fun q => ?_)
    refine Ev.ite (fun q => h2 (by omega)) (fun q => ?_)
    have ta := hK.1 a (by omega) (by omega)
    have tx := hK.2.1 x (by omega) (by omega)
    try simp (disch := omega) only [a_30 hA hR, a_38 hA hR, a_45 hA hR, d_12 hA hR, g_12_10 hA hR, g_12_17 hA hR, g_12_18 hA hR, g_12_25 hA hR, Option.bind_some, up_s, up_k, up_j, up_i, xk_add, xk_sub, xk_mul, xk_neg, lk_add, lN_z, rf_none, rb1, rb0, rbp, xk_nI, zk_eq, zk_lt, zk_eq0, zk_lt0, zk_0lt, zk_long, lz_lt, lz_gt, zmax, zmin, ↓reduceIte, Int.reduceEq, Int.reduceLT, Int.reduceNeg, Int.reduceAdd, Int.reduceSub, Int.reduceMul, Int.ofNat_eq_natCast, Int.cast_ofNat_Int]
    exact Ev.ite (fun q => h1 ⟨by omega, by omega⟩) (fun q => h2 (by omega))
theorem tick38_ev (hA : WA e z) (hR : WR e) (hB : RB I) {g a : Int} {r : XV × XH} (hK : KB I) (g0 : 0 ≤ g) (g1 : g < 20) (ha : AM (rt I g) (fun k => (I 30 0 k)) (I 12 0 1) a) (hr : Ev (fun F => J12_tick_115 F (rf e 12 0) (xk (-1)) (xk g) (xk a) (xk (-1)) (xk 1) (HS e C I z)) r) : ∀ k x, 0 ≤ k → k ≤ (I 12 0 1) → AM (rt I g) (fun k => (I 30 0 k)) k x → Ev (fun F => J12_tick_38 F (rf e 12 0) (xk (-1)) (xk g) (xk x) (xk (-1)) (xk k) (HS e C I z)) r := by
  have := RB.tasks hB
  intro k
  refine lpN (P := fun k => ∀ x, 0 ≤ k → k ≤ (I 12 0 1) → AM (rt I g) (fun k => (I 30 0 k)) k x → Ev (fun F => J12_tick_38 F (rf e 12 0) (xk (-1)) (xk g) (xk x) (xk (-1)) (xk k) (HS e C I z)) r) (I 12 0 1) (fun k ih x k0 k1 hx => ?_) k
  have xb := hx.b (by omega)
  refine Ev.step (fun F => E12_tick_38 F _ _ _ _ _ _ _) ?_
  simp (disch := omega) only [a_22 hA hR, a_25 hA hR, a_29 hA hR, a_30 hA hR, g_12_1 hA hR, g_12_10 hA hR, g_12_2 hA hR, g_12_5 hA hR, g_12_9 hA hR, Option.bind_some, up_s, up_k, up_j, up_i, xk_add, xk_sub, xk_mul, xk_neg, lk_add, lN_z, rf_none, rb1, rb0, rbp, xk_nI, zk_eq, zk_lt, zk_eq0, zk_lt0, zk_0lt, zk_long, lz_lt, lz_gt, zmax, zmin, ↓reduceIte, Int.reduceEq, Int.reduceLT, Int.reduceNeg, Int.reduceAdd, Int.reduceSub, Int.reduceMul, Int.ofNat_eq_natCast, Int.cast_ofNat_Int]
  refine Ev.ite (fun h => ?_) (fun h => ?_)
  · have := RB.state hB (j := k) (by omega) (by omega)
    have := RB.asleep hB (j := k) (by omega) (by omega)
    have := RB.group hB (j := k) (by omega) (by omega)
    have ih := fun x => ih h x (by omega) (by omega)
    have tk := hK.1 k (by omega) (by omega)
    try simp (disch := omega) only [a_22 hA hR, a_25 hA hR, a_29 hA hR, a_30 hA hR, g_12_1 hA hR, g_12_10 hA hR, g_12_2 hA hR, g_12_5 hA hR, g_12_9 hA hR, Option.bind_some, up_s, up_k, up_j, up_i, xk_add, xk_sub, xk_mul, xk_neg, lk_add, lN_z, rf_none, rb1, rb0, rbp, xk_nI, zk_eq, zk_lt, zk_eq0, zk_lt0, zk_0lt, zk_long, lz_lt, lz_gt, zmax, zmin, ↓reduceIte, Int.reduceEq, Int.reduceLT, Int.reduceNeg, Int.reduceAdd, Int.reduceSub, Int.reduceMul, Int.ofNat_eq_natCast, Int.cast_ofNat_Int]
    refine Ev.ite (fun h1 => ?_) (fun h1 => ih x (hx.no (fun q => h1 q.2.2.1)))
    refine Ev.ite (fun h2 => ?_) (fun h2 => ih x (hx.no (fun q => h2 q.2.2.2.1)))
    refine Ev.ite (fun h3 => ?_) (fun h3 => ih x (hx.no (fun q => h3 q.2.2.2.2)))
    have hq : rt I g k := ⟨k0, h, h1, h2, h3⟩
    refine Ev.ite (fun hz => ih k (hx.take (by omega) hq (Or.inl (by omega)))) (fun hz => ?_)
    have tx := hK.1 x (by omega) (by omega)
    try simp (disch := omega) only [a_22 hA hR, a_25 hA hR, a_29 hA hR, a_30 hA hR, g_12_1 hA hR, g_12_10 hA hR, g_12_2 hA hR, g_12_5 hA hR, g_12_9 hA hR, Option.bind_some, up_s, up_k, up_j, up_i, xk_add, xk_sub, xk_mul, xk_neg, lk_add, lN_z, rf_none, rb1, rb0, rbp, xk_nI, zk_eq, zk_lt, zk_eq0, zk_lt0, zk_0lt, zk_long, lz_lt, lz_gt, zmax, zmin, ↓reduceIte, Int.reduceEq, Int.reduceLT, Int.reduceNeg, Int.reduceAdd, Int.reduceSub, Int.reduceMul, Int.ofNat_eq_natCast, Int.cast_ofNat_Int]
    exact Ev.ite (fun hc => ih k (hx.take (by omega) hq (Or.inr hc))) (fun hc => ih x (hx.keep (by omega) (by show (I 30 0 x) ≤ (I 30 0 k); omega)))
  · have : k = (I 12 0 1) := by omega
    subst this
    rw [hx.uq ha]
    exact hr
theorem tick25_ev (hA : WA e z) (hR : WR e) (hB : RB I) (hK : KB I) {hs : Int → Bool} (hH : HsR I hs) (hF : ∀ k, 0 ≤ k → k < (I 12 0 17) → I 59 0 k = bI (hs k = true)) {ft fg : Int → Int} (hf : FtR hs I ft fg) {r : XV × XH} : ∀ (n : Nat) (g : Int), 0 ≤ g → g < (I 12 0 17) → (I 12 0 17) - g ≤ n → hs g = true → Ev (fun F => J12_tick_25 F (rf e 12 0) (xk (wkF I ft fg n g).2) (xk (wkF I ft fg n g).1) (xk 0) (HS e C I z)) r → Ev (fun F => J12_tick_25 F (rf e 12 0) (xk (-1)) (xk g) (xk 1) (HS e C I z)) r := by
  have := RB.groups hB
  have := RB.tasks hB
  intro n
  induction n with
  | zero => intro g a b c; omega
  | succ n ih =>
    intro g g0 g1 gn hg hr
    have q := hf g g0 g1
    have ab := q.1.b (by omega)
    have bb := q.2.b (by omega)
    have hab : ¬ (ft g = -1 ∧ fg g = -1) := by
      rintro ⟨w1, w2⟩
      rcases (hH g g0 g1).mp hg with ⟨t, ht⟩ | ⟨k, hk⟩
      · rcases q.1 with p | p
        · exact p.2 t ht.1 ht.2.1 ht
        · omega
      · rcases q.2 with p | p
        · exact p.2 k (by have := hk.1; omega) hk.2.1 hk
        · omega
    rw [wkF] at hr
    refine Ev.step (fun F => E12_tick_25 F _ _ _ _ _) ?_
    simp (disch := omega) only [a_30 hA hR, a_31 hA hR, g_12_10 hA hR, g_12_11 hA hR, g_12_26 hA hR, s_30 hA hR, s_31 hA hR, Option.bind_some, up_s, up_k, up_j, up_i, xk_add, xk_sub, xk_mul, xk_neg, lk_add, lN_z, rf_none, rb1, rb0, rbp, xk_nI, zk_eq, zk_lt, zk_eq0, zk_lt0, zk_0lt, zk_long, lz_lt, lz_gt, zmax, zmin, ↓reduceIte, Int.reduceEq, Int.reduceLT, Int.reduceNeg, Int.reduceAdd, Int.reduceSub, Int.reduceMul, Int.ofNat_eq_natCast, Int.cast_ofNat_Int]
    refine tick38_ev hA hR hB hK g0 (by omega) q.1 ?_ 0 (-1) (by omega) (by omega) AM.z
    refine tick115_ev hA hR hB hK hF g0 (by omega) (by omega) (by omega) q.2 hab (fun w => ?_) (fun w => ?_) 1 (-1) (by omega) (by omega) (AM.z.no (fun q => absurd q.1 (by omega)))
    · have p := q.2.p w.1
      have := RB.wiw hB (j := (fg g)) (by omega) (by omega)
      rw [if_pos (ld_i.mpr w)] at hr
      have := p.2.2.1
      exact ih (fg g) w.1 bb.2 (by omega) p.2.2.2.1 hr
    · rw [if_neg (fun y => w (ld_i.mp y))] at hr
      exact hr
theorem wk_b {J : ST} {ft fg : Int → Int} {hs : Int → Bool} (hf : FtR hs J ft fg) (hB : RB J) : ∀ (n : Nat) (g : Int), 0 ≤ g → g < (J 12 0 17) → (0 ≤ (wkF J ft fg n g).1 ∧ (wkF J ft fg n g).1 < (J 12 0 17)) ∧ (-1 ≤ (wkF J ft fg n g).2 ∧ (wkF J ft fg n g).2 < (J 12 0 1)) ∧ (0 ≤ (wkF J ft fg n g).2 → rt J (wkF J ft fg n g).1 (wkF J ft fg n g).2) := by
  have := RB.groups hB
  have := RB.tasks hB
  intro n
  induction n with
  | zero =>
    intro g g0 g1
    have q := (hf g g0 g1).1
    exact ⟨⟨g0, g1⟩, q.b (by omega), fun w => q.p w⟩
  | succ n ih =>
    intro g g0 g1
    rw [wkF]
    split
    · rename_i w
      exact ih _ (ld_i.mp w).1 ((hf g g0 g1).2.b (by omega)).2
    · have q := (hf g g0 g1).1
      exact ⟨⟨g0, g1⟩, q.b (by omega), fun w => q.p w⟩
def tkJ (J : ST) (hs : Int → Bool) : ST := frI (up J 12 0 26 ((J 12 0 26) + 1)) hs
def tkI (J : ST) (hs : Int → Bool) (ft fg : Int → Int) : ST := peI (ruI (tkJ J hs) (wkF J ft fg 20 0).1 (wkF J ft fg 20 0).2)
theorem wkF_c {J J' : ST} {ft fg : Int → Int} (h1 : ∀ j, J' 30 0 j = J 30 0 j) (h2 : ∀ j, J' 45 0 j = J 45 0 j) : wkF J' ft fg = wkF J ft fg := by
  funext n
  induction n with
  | zero => rfl
  | succ n ih =>
    funext g
    rw [wkF, wkF, ih]
    unfold ldB
    rw [h1, h2]
theorem tkJ_f {J : ST} {hs : Int → Bool} {k : Nat} {i j : Int} (h : k ≠ 12 ∨ j ≠ 26) (h' : k ≠ 59) : tkJ J hs k i j = J k i j := by
  unfold tkJ
  rw [fr_f h']
  unfold up
  rw [if_neg (by omega)]
theorem rt_tk {J : ST} {hs : Int → Bool} : rt (tkJ J hs) = rt J := rt_c (tkJ_f (Or.inr (by decide)) (by decide)) (fun _ => tkJ_f (Or.inl (by decide)) (by decide)) (fun _ => tkJ_f (Or.inl (by decide)) (by decide)) (fun _ => tkJ_f (Or.inl (by decide)) (by decide))
theorem rg_tk {J : ST} {hs hs' : Int → Bool} : rg hs' (tkJ J hs) = rg hs' J := rg_c (tkJ_f (Or.inr (by decide)) (by decide)) (fun _ => tkJ_f (Or.inl (by decide)) (by decide)) (fun _ => tkJ_f (Or.inl (by decide)) (by decide)) (fun _ => tkJ_f (Or.inl (by decide)) (by decide))
theorem KB.cl {J : ST} (h : KB J) (hc : (J 12 0 26) + 1 < 1000000) : KB (up J 12 0 26 ((J 12 0 26) + 1)) := by
  refine ⟨fun t => ?_, fun g => ?_, ?_⟩
  · rw [up_k (by decide)]; exact h.1 t
  · rw [up_k (by decide), up_k (by decide)]; exact h.2.1 g
  · rw [up_s]; have := h.2.2; omega
theorem tick_ev (hA : WA e z) (hR : WR e) (hB : RB I) (hK : KB I) (hc : (I 12 0 26) + 1 < 1000000) (hW : ∀ g, 0 ≤ g → g < (I 12 0 17) → 1 ≤ (I 41 0 g)) {hs : Int → Bool} (hH : HsR I hs) {ft fg : Int → Int} (hf : FtR hs I ft fg) : Ev (fun F => J12_tick F (rf e 12 0) (HS e C I z)) (rI (wkF I ft fg 20 0).2 (HS e C (tkI I hs ft fg) z)) := by
  have := RB.groups hB
  have := RB.tasks hB
  have hB1 : RB (up I 12 0 26 ((I 12 0 26) + 1)) := hB.uS (by omega) (by omega) (by omega) (by omega)
  have hK1 := hK.cl hc
  have r1 : rt (up I 12 0 26 ((I 12 0 26) + 1)) = rt I := rt_c (up_j (by decide)) (fun _ => up_k (by decide)) (fun _ => up_k (by decide)) (fun _ => up_k (by decide))
  have r2 : ∀ hs, rg hs (up I 12 0 26 ((I 12 0 26) + 1)) = rg hs I := fun hs => rg_c (up_j (by decide)) (fun _ => up_k (by decide)) (fun _ => up_k (by decide)) (fun _ => up_k (by decide))
  have hH1 : HsR (up I 12 0 26 ((I 12 0 26) + 1)) hs := by
    intro g
    rw [r1, r2, up_j (by decide)]
    exact hH g
  have eg : tkJ I hs 12 0 17 = (I 12 0 17) := tkJ_f (Or.inr (by decide)) (by decide)
  have et : tkJ I hs 12 0 1 = (I 12 0 1) := tkJ_f (Or.inr (by decide)) (by decide)
  have h0 : tkJ I hs 59 0 0 = bI (hs 0 = true) := fr_h (by omega) (by rw [up_j (by decide)]; omega)
  have hB2 : RB (tkJ I hs) := hB1.fri
  have hK2 : KB (tkJ I hs) := hK1.fr
  have ew : wkF (tkJ I hs) ft fg = wkF I ft fg := wkF_c (fun j => tkJ_f (Or.inl (by decide)) (by decide)) (fun j => tkJ_f (Or.inl (by decide)) (by decide))
  have wb := wk_b hf hB 20 0 (by omega) (by omega)
  have zz : Ev (fun F => J12_tick_25 F (rf e 12 0) (xk (wkF I ft fg 20 0).2) (xk (wkF I ft fg 20 0).1) (xk 0) (HS e C (tkJ I hs) z)) (rI (wkF I ft fg 20 0).2 (HS e C (tkI I hs ft fg) z)) := by
    refine tick25z_ev hA hR hB2 ?_ hK2.2.2.1 (by have := hK2.2.2; omega) wb.2.1.1 (by omega) wb.1.1 (by omega)
    intro g
    rw [eg, tkJ_f (Or.inl (by decide)) (by decide)]
    exact hW g
  refine Ev.step (fun F => E12_tick F _ _) ?_
  simp (disch := omega) only [a_59 hA hR, d_12 hA hR, g_12_26 hA hR, g_12_39 hA hR, p_12_26 hA hR, Option.bind_some, up_s, up_k, up_j, up_i, xk_add, xk_sub, xk_mul, xk_neg, lk_add, lN_z, rf_none, rb1, rb0, rbp, xk_nI, zk_eq, zk_lt, zk_eq0, zk_lt0, zk_0lt, zk_long, lz_lt, lz_gt, zmax, zmin, ↓reduceIte, Int.reduceEq, Int.reduceLT, Int.reduceNeg, Int.reduceAdd, Int.reduceSub, Int.reduceMul, Int.ofNat_eq_natCast, Int.cast_ofNat_Int]
  refine Ev.kV (findReady_ev hA hR hB1 hK1 hH1) ?_
  show Ev (fun F => (xgr (HS e C (tkJ I hs) z) (rf e 12 0) 12 39).bind fun v4 => (xaz (HS e C (tkJ I hs) z) v4 (xk 0)).bind fun v5 => J12_tick_25 F (rf e 12 0) (xk (-1)) (xk 0) v5 (HS e C (tkJ I hs) z)) _
  simp (disch := omega) only [g_12_39 hA hR, a_59 hA hR, h0, Option.bind_some, up_s, up_k, up_j, up_i, xk_add, xk_sub, xk_mul, xk_neg, lk_add, lN_z, rf_none, rb1, rb0, rbp, xk_nI, zk_eq, zk_lt, zk_eq0, zk_lt0, zk_0lt, zk_long, lz_lt, lz_gt, zmax, zmin, ↓reduceIte, Int.reduceEq, Int.reduceLT, Int.reduceNeg, Int.reduceAdd, Int.reduceSub, Int.reduceMul, Int.ofNat_eq_natCast, Int.cast_ofNat_Int]
  by_cases hb : hs 0 = true
  · rw [bI_t hb]
    refine tick25_ev hA hR hB2 hK2 (hs := hs) ?_ ?_ (ft := ft) (fg := fg) ?_ 20 0 (by omega) (by omega) (by omega) hb (by rw [ew]; exact zz)
    · intro g
      rw [rt_tk, rg_tk, eg]
      exact hH g
    · intro k k0 k1
      rw [eg] at k1
      exact fr_h k0 (by rw [up_j (by decide)]; exact k1)
    · intro g g0 g1
      rw [rt_tk, rg_tk, eg, et]
      rw [eg] at g1
      have := hf g g0 g1
      refine ⟨this.1.c (fun _ _ _ => Iff.rfl) (fun t _ _ _ => tkJ_f (Or.inl (by decide)) (by decide)), this.2.c (fun _ _ _ => Iff.rfl) (fun t _ _ _ => tkJ_f (Or.inl (by decide)) (by decide))⟩
  · rw [bI_f hb]
    have q := hf 0 (by omega) (by omega)
    have n1 : ft 0 = -1 := by
      rcases q.1 with p | p
      · exact p.1
      · exact absurd ((hH 0 (by omega) (by omega)).mpr (Or.inl ⟨_, p.2.2.1⟩)) hb
    have n2 : fg 0 = -1 := by
      rcases q.2 with p | p
      · exact p.1
      · exact absurd ((hH 0 (by omega) (by omega)).mpr (Or.inr ⟨_, p.2.2.1⟩)) hb
    have e1 : wkF I ft fg 20 0 = (0, -1) := by
      rw [wkF, if_neg (fun w => by have := (ld_i.mp w).1; omega), n1]
    rw [e1] at zz ⊢
    exact zz
end RA
end
section
/-! the reference: mounts: the first free one, what lies on a place, rising -/
theorem ToR_c {I I' : ST} (h1 : ∀ k, I' 50 0 k = I 50 0 k) (h2 : ∀ k, I' 52 0 k = I 52 0 k) (h3 : ∀ k, I' 53 0 k = I 53 0 k) : ToR I' = ToR I := by
  funext m d x
  unfold ToR
  simp only [h1, h2, h3]
def FmR (I : ST) (m : Int) : Prop := (0 ≤ m ∧ m < 80) ∧ (I 50 0 m) = 0 ∧ ∀ k, 0 ≤ k → k < m → (I 50 0 k) = 1
def mkI (I : ST) (v o p w q m : Int) : ST := if o = -1 then up (up (up (up (up (up (up I 50 0 m 1) 51 0 m v) 52 0 m o) 53 0 m p) 54 0 m w) 55 0 m q) 49 0 v m else up (up (up (up (up (up I 50 0 m 1) 51 0 m v) 52 0 m o) 53 0 m p) 54 0 m w) 55 0 m q
theorem sm_1 {n : Int} (h : 0 ≤ n) : sm (fun _ => 1) n = n := by
  have s1 : ∀ m : Nat, smN (fun _ => 1) m = m := by
    intro m
    induction m with
    | zero => rfl
    | succ m ih => rw [smN, ih]; rfl
  have := s1 n.toNat
  unfold sm
  omega
theorem FmR.ex {I : ST} (hB : RB I) (h : sm (fun k => (I 50 0 k)) 80 < 80) : ∃ m, FmR I m := by
  have key : ∀ n : Nat, n ≤ 80 → (∃ m, FmR I m) ∨ ∀ k : Int, 0 ≤ k → k < n → (I 50 0 k) = 1 := by
    intro n
    induction n with
    | zero => intro _; exact Or.inr (fun k a b => absurd b (by omega))
    | succ n ih =>
      intro hn
      rcases ih (by omega) with q | q
      · exact Or.inl q
      · have := RB.there hB (j := (n : Int)) (by omega) (by omega)
        by_cases hz : (I 50 0 ((n : Int))) = 0
        · exact Or.inl ⟨n, ⟨by omega, by omega⟩, hz, fun k a b => q k a b⟩
        · refine Or.inr (fun k a b => ?_)
          by_cases hk : k = n
          · subst hk; omega
          · exact q k a (by omega)
  rcases key 80 (by omega) with q | q
  · exact q
  · exfalso
    have e := sm_c (f := fun k => (I 50 0 k)) (f' := fun _ => 1) (n := 80) (fun k a b => q k a (by omega))
    rw [e, sm_1 (by omega)] at h
    omega
theorem FmR.uq {I : ST} {m m' : Int} (h : FmR I m) (h' : FmR I m') : m = m' := by
  obtain ⟨a, b, c⟩ := h
  obtain ⟨a', b', c'⟩ := h'
  by_cases q : m < m'
  · have := c' m (by omega) q; omega
  · by_cases q' : m' < m
    · have := c m' (by omega) q'; omega
    · omega
theorem mkI_f {I : ST} {v o p w q m : Int} {k : Nat} {i j : Int} (h : k < 49 ∨ 55 < k) : mkI I v o p w q m k i j = I k i j := by
  unfold mkI
  split
  · repeat rw [up_k (by omega)]
  · repeat rw [up_k (by omega)]
theorem RB.mk {I : ST} (hB : RB I) {v o p w q m : Int} (v0 : 0 ≤ v) (v1 : v ≤ 9) (o0 : -1 ≤ o) (o1 : o ≤ 79) (p0 : 0 ≤ p) (p1 : p ≤ 14) (w0 : 0 ≤ w) (w1 : w ≤ 9) (m0 : 0 ≤ m) (m1 : m ≤ 79) : RB (mkI I v o p w q m) := by
  have : RB (up (up (up (up (up (up I 50 0 m 1) 51 0 m v) 52 0 m o) 53 0 m p) 54 0 m w) 55 0 m q) := RB.u_peers (RB.u_volumes (RB.u_inPlace (RB.u_inMount (RB.u_viewOf (RB.u_there hB (by omega) (by omega)) v0 v1) o0 o1) p0 p1) w0 w1)
  unfold mkI
  split
  · exact RB.u_root this m0 m1
  · exact this
section RA
variable {e : EN} {C I : ST} {z : Nat × Nat × Nat × Nat}
theorem make_ev (hA : WA e z) (hR : WR e) (hB : RB I) {v o p w q m : Int} (v0 : 0 ≤ v) (v1 : v < 10) (o0 : -1 ≤ o) (o1 : o < 80) (hm : FmR I m) : Ev (fun F => J12_make F (rf e 12 0) (xk v) (xk o) (xk p) (xk w) (xk q) (HS e C I z)) (rI m (HS e C (mkI I v o p w q m) z)) := by
  obtain ⟨⟨m0, m1⟩, hm, hk⟩ := hm
  refine Ev.step (fun F => E12_make F _ _ _ _ _ _ _) ?_
  refine lpN (P := fun k => 0 ≤ k → k ≤ m → Ev (fun F => J12_make_3 F (rf e 12 0) (xk v) (xk o) (xk p) (xk w) (xk q) (xk k) (HS e C I z)) (rI m (HS e C (mkI I v o p w q m) z))) m (fun k ih k0 k1 => ?_) 0 (by omega) m0
  have := RB.there hB (j := k) (by omega) (by omega)
  refine Ev.step (fun F => E12_make_3 F _ _ _ _ _ _ _ _) ?_
  simp (disch := omega) only [a_49 hA hR, a_50 hA hR, a_51 hA hR, a_52 hA hR, a_53 hA hR, a_54 hA hR, a_55 hA hR, g_12_29 hA hR, g_12_30 hA hR, g_12_31 hA hR, g_12_32 hA hR, g_12_33 hA hR, g_12_34 hA hR, g_12_35 hA hR, s_49 hA hR, s_50 hA hR, s_51 hA hR, s_52 hA hR, s_53 hA hR, s_54 hA hR, s_55 hA hR, Option.bind_some, up_s, up_k, up_j, up_i, xk_add, xk_sub, xk_mul, xk_neg, lk_add, lN_z, rf_none, rb1, rb0, rbp, xk_nI, zk_eq, zk_lt, zk_eq0, zk_lt0, zk_0lt, zk_long, lz_lt, lz_gt, zmax, zmin, ↓reduceIte, Int.reduceEq, Int.reduceLT, Int.reduceNeg, Int.reduceAdd, Int.reduceSub, Int.reduceMul, Int.ofNat_eq_natCast, Int.cast_ofNat_Int]
  by_cases h : k = m
  · subst h
    refine Ev.ite (fun _ => ?_) (fun q => absurd hm q)
    unfold mkI
    refine Ev.ite (fun ho => Ev.ret ?_) (fun ho => Ev.ret ?_)
    · rw [if_pos ho]; rfl
    · rw [if_neg ho]; rfl
  · have := hk k k0 (by omega)
    refine Ev.ite (fun q => absurd q (by omega)) (fun _ => ih (by omega) (by omega) (by omega))
def pl (I : ST) (m d : Int) : ST := up (up I 12 0 37 m) 12 0 38 d
theorem pl_u {m d m' d' : Int} : up (up (pl I m d) 12 0 37 m') 12 0 38 d' = pl I m' d' := by
  funext k i j
  simp only [up, pl]
  repeat' split
  all_goals first | rfl | (exfalso; omega)
theorem pl_d {m d d' : Int} : up (pl I m d) 12 0 38 d' = pl I m d' := by
  funext k i j
  simp only [up, pl]
  repeat' split
  all_goals first | rfl | (exfalso; omega)
theorem pl_p {m d m' d' : Int} : pl (pl I m d) m' d' = pl I m' d' := pl_u
theorem pl_f {m d : Int} {k : Nat} {i j : Int} (h : k ≠ 12 ∨ (j ≠ 37 ∧ j ≠ 38)) : pl I m d k i j = I k i j := by
  unfold pl up
  rw [if_neg (by omega), if_neg (by omega)]
theorem pl_m {m d : Int} : pl I m d 12 0 37 = m := by unfold pl; rw [up_j (by decide), up_s]
theorem pl_e {m d : Int} : pl I m d 12 0 38 = d := up_s
theorem RB.pl {I : ST} (hB : RB I) {m d : Int} : RB (pl I m d) := RB.uS (RB.uS hB (by omega) (by omega) (by omega) (by omega)) (by omega) (by omega) (by omega) (by omega)
theorem ToR_pl {m d : Int} : ToR (pl I m d) = ToR I := ToR_c (fun _ => pl_f (Or.inl (by decide))) (fun _ => pl_f (Or.inl (by decide))) (fun _ => pl_f (Or.inl (by decide)))
/-- from a place up to the topmost mount -/
def riF (tp : Int → Int → Int) : Nat → Int → Int → Int × Int
  | 0, m, d => (m, d)
  | n + 1, m, d => if tp m d < 0 then (m, d) else riF tp n (tp m d) 0
def ToA (I : ST) (tp : Int → Int → Int) : Prop := ∀ m d, 0 ≤ m → m < 80 → 0 ≤ d → d < 15 → ToR I m d (tp m d)
theorem ToA.b {tp : Int → Int → Int} (h : ToA I tp) {m d : Int} (m0 : 0 ≤ m) (m1 : m < 80) (d0 : 0 ≤ d) (d1 : d < 15) : -1 ≤ tp m d ∧ tp m d < 80 := (h m d m0 m1 d0 d1).1
theorem ri_b {tp : Int → Int → Int} (h : ToA I tp) : ∀ (n : Nat) (m d : Int), 0 ≤ m → m < 80 → 0 ≤ d → d < 15 → (0 ≤ (riF tp n m d).1 ∧ (riF tp n m d).1 < 80) ∧ 0 ≤ (riF tp n m d).2 ∧ (riF tp n m d).2 < 15 := by
  intro n
  induction n with
  | zero => intro m d a b c f; exact ⟨⟨a, b⟩, c, f⟩
  | succ n ih =>
    intro m d a b c f
    rw [riF]
    have := h.b a b c f
    split
    · exact ⟨⟨a, b⟩, c, f⟩
    · exact ih _ _ (by omega) (by omega) (by omega) (by omega)
theorem rise13_ev (hA : WA e z) (hR : WR e) (hB : RB I) {tp : Int → Int → Int} (hT : ToA I tp) : ∀ (n : Nat) (m d : Int), 0 ≤ m → m < 80 → 0 ≤ d → d < 15 → tp (riF tp n m d).1 (riF tp n m d).2 < 0 → Ev (fun F => J12_rise_13 F (rf e 12 0) (xk (tp m d)) (HS e C (pl I m d) z)) (rV (HS e C (pl I (riF tp n m d).1 (riF tp n m d).2) z)) := by
  intro n
  induction n with
  | zero =>
    intro m d a b c f h
    have := hT.b a b c f
    rw [show tp m d = -1 by have : tp m d < 0 := h; omega]
    refine Ev.step (fun F => E12_rise_13 F _ _ _) ?_
    simp (disch := omega) only [d_12 hA hR, g_12_37 hA hR, g_12_38 hA hR, p_12_37 hA hR, p_12_38 hA hR, Option.bind_some, up_s, up_k, up_j, up_i, xk_add, xk_sub, xk_mul, xk_neg, lk_add, lN_z, rf_none, rb1, rb0, rbp, xk_nI, zk_eq, zk_lt, zk_eq0, zk_lt0, zk_0lt, zk_long, lz_lt, lz_gt, zmax, zmin, ↓reduceIte, Int.reduceEq, Int.reduceLT, Int.reduceNeg, Int.reduceAdd, Int.reduceSub, Int.reduceMul, Int.ofNat_eq_natCast, Int.cast_ofNat_Int]
    exact Ev.ret rfl
  | succ n ih =>
    intro m d a b c f h
    have hb := hT.b a b c f
    rw [riF] at h ⊢
    refine Ev.step (fun F => E12_rise_13 F _ _ _) ?_
    simp (disch := omega) only [d_12 hA hR, g_12_37 hA hR, g_12_38 hA hR, p_12_37 hA hR, p_12_38 hA hR, Option.bind_some, up_s, up_k, up_j, up_i, xk_add, xk_sub, xk_mul, xk_neg, lk_add, lN_z, rf_none, rb1, rb0, rbp, xk_nI, zk_eq, zk_lt, zk_eq0, zk_lt0, zk_0lt, zk_long, lz_lt, lz_gt, zmax, zmin, ↓reduceIte, Int.reduceEq, Int.reduceLT, Int.reduceNeg, Int.reduceAdd, Int.reduceSub, Int.reduceMul, Int.ofNat_eq_natCast, Int.cast_ofNat_Int, pl_u, pl_m, pl_e]
    refine Ev.ite (fun q => Ev.ret ?_) (fun q => ?_)
    · rw [if_pos (by omega)]; rfl
    · rw [if_neg (by omega)] at h ⊢
      refine Ev.kI (mountAt_ev hA hR hB.pl (by omega) (by omega) (by omega) (by omega) (x := tp (tp m d) 0) (by rw [ToR_pl]; exact hT _ _ (by omega) (by omega) (by omega) (by omega))) ?_
      exact ih _ _ (by omega) (by omega) (by omega) (by omega) h
theorem rise_ev (hA : WA e z) (hR : WR e) (hB : RB I) {tp : Int → Int → Int} (hT : ToA I tp) {n : Nat} {m d : Int} (m0 : 0 ≤ m) (m1 : m < 80) (d0 : 0 ≤ d) (d1 : d < 15) (hn : tp (riF tp n m d).1 (riF tp n m d).2 < 0) : Ev (fun F => J12_rise F (rf e 12 0) (HS e C (pl I m d) z)) (rV (HS e C (pl I (riF tp n m d).1 (riF tp n m d).2) z)) := by
  refine Ev.step (fun F => E12_rise F _ _) ?_
  simp (disch := omega) only [d_12 hA hR, g_12_37 hA hR, g_12_38 hA hR, Option.bind_some, up_s, up_k, up_j, up_i, xk_add, xk_sub, xk_mul, xk_neg, lk_add, lN_z, rf_none, rb1, rb0, rbp, xk_nI, zk_eq, zk_lt, zk_eq0, zk_lt0, zk_0lt, zk_long, lz_lt, lz_gt, zmax, zmin, ↓reduceIte, Int.reduceEq, Int.reduceLT, Int.reduceNeg, Int.reduceAdd, Int.reduceSub, Int.reduceMul, Int.ofNat_eq_natCast, Int.cast_ofNat_Int, pl_m, pl_e]
  refine Ev.kI (mountAt_ev hA hR hB.pl (by omega) (by omega) (by omega) (by omega) (x := tp m d) (by rw [ToR_pl]; exact hT _ _ m0 m1 d0 d1)) ?_
  exact rise13_ev hA hR hB hT n m d m0 m1 d0 d1 hn
end RA
end
section
/-! the reference: bits of a path, walking -/
theorem shb : ∀ b : Fin 31, ((xk (b.val : Int) &&& 31).toBitVec.smod (BitVec.ofNat 32 32)).toNat = b.val := by decide +kernel
theorem shr {p : Int} {b : Nat} (p0 : 0 ≤ p) (p1 : p < 2147483648) (b1 : b ≤ 30) : xk p >>> (xk (b : Int) &&& 31) = xk (p / 2 ^ b) := by
  have hd : 0 ≤ p / 2 ^ b := Int.ediv_nonneg p0 (Int.le_of_lt (Int.pow_pos (by decide)))
  have hd2 : p / 2 ^ b ≤ p := Int.ediv_le_self _ p0
  apply Int32.toInt_inj.mp
  rw [xk_toInt (a := p / 2 ^ b) ⟨by omega, by omega⟩]
  show ((xk p).toBitVec.sshiftRight' ((xk (b : Int) &&& 31).toBitVec.smod (BitVec.ofNat 32 32))).toInt = _
  rw [BitVec.sshiftRight_eq', shb ⟨b, by omega⟩, BitVec.toInt_sshiftRight]
  show (xk p).toInt >>> b = _
  rw [xk_toInt ⟨by omega, by omega⟩, Int.shiftRight_eq_div_pow]
  norm_cast
theorem and1 {x : Int} (x0 : 0 ≤ x) (x1 : x < 2147483648) : xk x &&& xk 1 = xk (x % 2) := by
  apply Int32.toBitVec_inj.mp
  apply BitVec.eq_of_toNat_eq
  show ((xk x).toBitVec &&& (xk 1).toBitVec).toNat = (xk (x % 2)).toBitVec.toNat
  have e : ∀ y : Int, 0 ≤ y → y < 2147483648 → (xk y).toBitVec.toNat = y.toNat := by
    intro y y0 y1
    show (BitVec.ofInt 32 y).toNat = y.toNat
    rw [BitVec.toNat_ofInt]
    omega
  rw [BitVec.toNat_and, e x x0 x1, e 1 (by omega) (by omega), e (x % 2) (by omega) (by omega)]
  rw [show (1 : Int).toNat = 1 from rfl, Nat.and_one_is_mod]
  omega
def wlF (tp : Int → Int → Int) (N : Nat) (p : Int) : Nat → Int → Int → Int × Int × Int
  | 0, m, d => (1, m, d)
  | b + 1, m, d => if d < 7 then wlF tp N p b (riF tp N m (2 * d + 1 + p / 2 ^ b % 2)).1 (riF tp N m (2 * d + 1 + p / 2 ^ b % 2)).2 else (0, m, d)
/-- N steps are enough to rise -/
def RiN (tp : Int → Int → Int) (N : Nat) : Prop := ∀ m d, 0 ≤ m → m < 80 → 0 ≤ d → d < 15 → tp (riF tp N m d).1 (riF tp N m d).2 < 0
def hbP (p : Int) (h : Nat) : Prop := h ≤ 30 ∧ 2 ^ h ≤ p ∧ p < 2 ^ (h + 1)
theorem hb_ex {p : Int} (p0 : 1 ≤ p) (p1 : p < 2147483648) : ∃ h, hbP p h := by
  have key : ∀ n : Nat, n ≤ 31 → p < 2 ^ n → ∃ h, hbP p h := by
    intro n
    induction n with
    | zero => intro _ h; omega
    | succ n ih =>
      intro hn h
      by_cases q : p < 2 ^ n
      · exact ih (by omega) q
      · exact ⟨n, by omega, by omega, h⟩
  exact key 31 (by omega) (by omega)
theorem hb_hi {p : Int} {h b : Nat} (hh : hbP p h) (p0 : 0 ≤ p) (hb : h < b) : p / 2 ^ b = 0 := by
  apply Int.ediv_eq_zero_of_lt p0
  have : (2 : Int) ^ (h + 1) ≤ 2 ^ b := by
    have : (2 : Nat) ^ (h + 1) ≤ 2 ^ b := Nat.pow_le_pow_right (by omega) hb
    exact_mod_cast this
  have := hh.2.2
  omega
theorem hb_at {p : Int} {h : Nat} (hh : hbP p h) : p / 2 ^ h = 1 := by
  have p2 : (0 : Int) < 2 ^ h := Int.pow_pos (by decide)
  have h1 := hh.2.1
  have h2 := hh.2.2
  rw [Int.pow_succ] at h2
  have a := Int.le_ediv_of_mul_le p2 (show 1 * 2 ^ h ≤ p by omega)
  have b := Int.ediv_lt_of_lt_mul p2 (show p < 2 * 2 ^ h by omega)
  omega
section RA
variable {e : EN} {C I : ST} {z : Nat × Nat × Nat × Nat}
theorem walk59_ev (hA : WA e z) (hR : WR e) (hB : RB I) {tp : Int → Int → Int} (hT : ToA I tp) {N : Nat} (hN : RiN tp N) {p : Int} (p0 : 0 ≤ p) (p1 : p < 2147483648) : ∀ (b : Nat) (m d : Int), b ≤ 31 → 0 ≤ m → m < 80 → 0 ≤ d → d < 15 → Ev (fun F => J12_walk_59 F (rf e 12 0) (xk p) (xk ((b : Int) - 1)) (HS e C (pl I m d) z)) (rI (wlF tp N p b m d).1 (HS e C (pl I (wlF tp N p b m d).2.1 (wlF tp N p b m d).2.2) z)) := by
  intro b
  induction b with
  | zero =>
    intro m d hb m0 m1 d0 d1
    rw [show ((0 : Nat) : Int) - 1 = -1 from rfl]
    refine Ev.step (fun F => E12_walk_59 F _ _ _ _) ?_
    simp (disch := omega) only [d_12 hA hR, g_12_38 hA hR, p_12_38 hA hR, Option.bind_some, up_s, up_k, up_j, up_i, xk_add, xk_sub, xk_mul, xk_neg, lk_add, lN_z, rf_none, rb1, rb0, rbp, xk_nI, zk_eq, zk_lt, zk_eq0, zk_lt0, zk_0lt, zk_long, lz_lt, lz_gt, zmax, zmin, ↓reduceIte, Int.reduceEq, Int.reduceLT, Int.reduceNeg, Int.reduceAdd, Int.reduceSub, Int.reduceMul, Int.ofNat_eq_natCast, Int.cast_ofNat_Int]
    exact Ev.ret rfl
  | succ b ih =>
    intro m d hb m0 m1 d0 d1
    have hm : 0 ≤ p / 2 ^ b := Int.ediv_nonneg p0 (Int.le_of_lt (Int.pow_pos (by decide)))
    have hm2 : p / 2 ^ b ≤ p := Int.ediv_le_self _ p0
    have es : xk p >>> (xk (b : Int) &&& 31) = xk (p / 2 ^ b) := shr p0 p1 (by omega)
    rw [show ((b + 1 : Nat) : Int) - 1 = b by omega, wlF]
    refine Ev.step (fun F => E12_walk_59 F _ _ _ _) ?_
    simp (disch := omega) only [d_12 hA hR, g_12_38 hA hR, p_12_38 hA hR, Option.bind_some, up_s, up_k, up_j, up_i, xk_add, xk_sub, xk_mul, xk_neg, lk_add, lN_z, rf_none, rb1, rb0, rbp, xk_nI, zk_eq, zk_lt, zk_eq0, zk_lt0, zk_0lt, zk_long, lz_lt, lz_gt, zmax, zmin, ↓reduceIte, Int.reduceEq, Int.reduceLT, Int.reduceNeg, Int.reduceAdd, Int.reduceSub, Int.reduceMul, Int.ofNat_eq_natCast, Int.cast_ofNat_Int, pl_e]
    refine Ev.ite (fun q => absurd q (by omega)) (fun _ => ?_)
    refine Ev.ite (fun q => ?_) (fun q => Ev.ret (by rw [if_neg q]; rfl))
    rw [if_pos q, es, and1 hm (by omega)]
    try simp (disch := omega) only [d_12 hA hR, g_12_38 hA hR, p_12_38 hA hR, Option.bind_some, up_s, up_k, up_j, up_i, xk_add, xk_sub, xk_mul, xk_neg, lk_add, lN_z, rf_none, rb1, rb0, rbp, xk_nI, zk_eq, zk_lt, zk_eq0, zk_lt0, zk_0lt, zk_long, lz_lt, lz_gt, zmax, zmin, ↓reduceIte, Int.reduceEq, Int.reduceLT, Int.reduceNeg, Int.reduceAdd, Int.reduceSub, Int.reduceMul, Int.ofNat_eq_natCast, Int.cast_ofNat_Int, pl_d]
    have rb := ri_b hT N m (2 * d + 1 + p / 2 ^ b % 2) m0 m1 (by omega) (by omega)
    refine Ev.kV (rise_ev hA hR hB hT m0 m1 (by omega) (by omega) (hN _ _ m0 m1 (by omega) (by omega))) ?_
    exact ih _ _ (by omega) rb.1.1 rb.1.2 rb.2.1 rb.2.2
theorem walk42_ev (hA : WA e z) (hR : WR e) {p : Int} {h : Nat} (p0 : 1 ≤ p) (p1 : p < 2147483648) (hh : hbP p h) {r : XV × XH} (hr : Ev (fun F => J12_walk_59 F (rf e 12 0) (xk p) (xk ((h : Int) - 1)) (HS e C I z)) r) : ∀ (n b : Nat), b = h + n → b ≤ 30 → Ev (fun F => J12_walk_42 F (rf e 12 0) (xk p) (xk (b : Int)) (HS e C I z)) r := by
  intro n
  induction n with
  | zero =>
    intro b hb b1
    rw [hb, Nat.add_zero]
    refine Ev.step (fun F => E12_walk_42 F _ _ _ _) ?_
    rw [shr (by omega) p1 hh.1, hb_at hh, and1 (by omega) (by omega)]
    simp (disch := omega) only [Option.bind_some, up_s, up_k, up_j, up_i, xk_add, xk_sub, xk_mul, xk_neg, lk_add, lN_z, rf_none, rb1, rb0, rbp, xk_nI, zk_eq, zk_lt, zk_eq0, zk_lt0, zk_0lt, zk_long, lz_lt, lz_gt, zmax, zmin, ↓reduceIte, Int.reduceEq, Int.reduceLT, Int.reduceNeg, Int.reduceAdd, Int.reduceSub, Int.reduceMul, Int.ofNat_eq_natCast, Int.cast_ofNat_Int]
    exact hr
  | succ n ih =>
    intro b hb b1
    refine Ev.step (fun F => E12_walk_42 F _ _ _ _) ?_
    rw [shr (by omega) p1 (by omega), hb_hi hh (by omega) (by omega), and1 (by omega) (by omega)]
    simp (disch := omega) only [Option.bind_some, up_s, up_k, up_j, up_i, xk_add, xk_sub, xk_mul, xk_neg, lk_add, lN_z, rf_none, rb1, rb0, rbp, xk_nI, zk_eq, zk_lt, zk_eq0, zk_lt0, zk_0lt, zk_long, lz_lt, lz_gt, zmax, zmin, ↓reduceIte, Int.reduceEq, Int.reduceLT, Int.reduceNeg, Int.reduceAdd, Int.reduceSub, Int.reduceMul, Int.ofNat_eq_natCast, Int.cast_ofNat_Int]
    have := ih (b - 1) (by omega) (by omega)
    rw [show ((b - 1 : Nat) : Int) = b + -1 by omega] at this
    exact this
/-- 0 and no place, or 1 and the place -/
def waF (I : ST) (tp : Int → Int → Int) (N h : Nat) (t p : Int) : Int × ST := if 0 ≤ t ∧ t < (I 12 0 1) ∧ (I 22 0 t) = 0 ∧ 1 ≤ p then ((wlF tp N p h (riF tp N (I 49 0 ((I 26 0 t))) 0).1 (riF tp N (I 49 0 ((I 26 0 t))) 0).2).1, pl I (wlF tp N p h (riF tp N (I 49 0 ((I 26 0 t))) 0).1 (riF tp N (I 49 0 ((I 26 0 t))) 0).2).2.1 (wlF tp N p h (riF tp N (I 49 0 ((I 26 0 t))) 0).1 (riF tp N (I 49 0 ((I 26 0 t))) 0).2).2.2) else (0, I)
theorem walk_ev (hA : WA e z) (hR : WR e) (hB : RB I) {tp : Int → Int → Int} (hT : ToA I tp) {N : Nat} (hN : RiN tp N) {t p : Int} {h : Nat} (t0 : -2147483648 ≤ t) (t1 : t < 2147483648) (p0 : -2147483648 ≤ p) (p1 : p < 2147483648) (hh : 1 ≤ p → hbP p h) : Ev (fun F => J12_walk F (rf e 12 0) (xk t) (xk p) (HS e C I z)) (rI (waF I tp N h t p).1 (HS e C (waF I tp N h t p).2 z)) := by
  have := RB.tasks hB
  unfold waF
  refine Ev.step (fun F => E12_walk F _ _ _ _) ?_
  simp (disch := omega) only [a_26 hA hR, a_49 hA hR, d_12 hA hR, g_12_29 hA hR, g_12_6 hA hR, p_12_37 hA hR, p_12_38 hA hR, Option.bind_some, up_s, up_k, up_j, up_i, xk_add, xk_sub, xk_mul, xk_neg, lk_add, lN_z, rf_none, rb1, rb0, rbp, xk_nI, zk_eq, zk_lt, zk_eq0, zk_lt0, zk_0lt, zk_long, lz_lt, lz_gt, zmax, zmin, ↓reduceIte, Int.reduceEq, Int.reduceLT, Int.reduceNeg, Int.reduceAdd, Int.reduceSub, Int.reduceMul, Int.ofNat_eq_natCast, Int.cast_ofNat_Int]
  refine Ev.kB (isLive_ev hA hR t0 t1 (by omega) (by omega) (fun t a b => RB.state hB a b)) (fun hl => ?_) (fun hl => ?_)
  · have := RB.view hB (j := t) (by omega) (by omega)
    have := RB.root hB (j := ((I 26 0 t))) (by omega) (by omega)
    try simp (disch := omega) only [a_26 hA hR, a_49 hA hR, d_12 hA hR, g_12_29 hA hR, g_12_6 hA hR, p_12_37 hA hR, p_12_38 hA hR, Option.bind_some, up_s, up_k, up_j, up_i, xk_add, xk_sub, xk_mul, xk_neg, lk_add, lN_z, rf_none, rb1, rb0, rbp, xk_nI, zk_eq, zk_lt, zk_eq0, zk_lt0, zk_0lt, zk_long, lz_lt, lz_gt, zmax, zmin, ↓reduceIte, Int.reduceEq, Int.reduceLT, Int.reduceNeg, Int.reduceAdd, Int.reduceSub, Int.reduceMul, Int.ofNat_eq_natCast, Int.cast_ofNat_Int]
    refine Ev.ite (fun q => Ev.ret (by rw [if_neg (by omega)]; rfl)) (fun q => ?_)
    rw [if_pos ⟨hl.1, hl.2.1, hl.2.2, by omega⟩]
    have rb := ri_b hT N (I 49 0 ((I 26 0 t))) 0 (by omega) (by omega) (by omega) (by omega)
    refine Ev.kV (rise_ev (m := (I 49 0 ((I 26 0 t)))) (d := 0) hA hR hB hT (by omega) (by omega) (by omega) (by omega) (hN _ _ (by omega) (by omega) (by omega) (by omega))) ?_
    have h1 := hh (by omega)
    have := walk59_ev (C := C) hA hR hB hT hN (p := p) (by omega) p1 h _ _ (by have := h1.1; omega) rb.1.1 rb.1.2 rb.2.1 rb.2.2
    exact walk42_ev hA hR (by omega) p1 h1 this (30 - h) 30 (by have := h1.1; omega) (by omega)
  · try simp (disch := omega) only [a_26 hA hR, a_49 hA hR, d_12 hA hR, g_12_29 hA hR, g_12_6 hA hR, p_12_37 hA hR, p_12_38 hA hR, Option.bind_some, up_s, up_k, up_j, up_i, xk_add, xk_sub, xk_mul, xk_neg, lk_add, lN_z, rf_none, rb1, rb0, rbp, xk_nI, zk_eq, zk_lt, zk_eq0, zk_lt0, zk_0lt, zk_long, lz_lt, lz_gt, zmax, zmin, ↓reduceIte, Int.reduceEq, Int.reduceLT, Int.reduceNeg, Int.reduceAdd, Int.reduceSub, Int.reduceMul, Int.ofNat_eq_natCast, Int.cast_ofNat_Int]
    exact Ev.ret (by rw [if_neg (by omega)]; rfl)
theorem wl_b {tp : Int → Int → Int} (h : ToA I tp) {N : Nat} {p : Int} (p0 : 0 ≤ p) : ∀ (b : Nat) (m d : Int), 0 ≤ m → m < 80 → 0 ≤ d → d < 15 → ((wlF tp N p b m d).1 = 0 ∨ (wlF tp N p b m d).1 = 1) ∧ (0 ≤ (wlF tp N p b m d).2.1 ∧ (wlF tp N p b m d).2.1 < 80) ∧ 0 ≤ (wlF tp N p b m d).2.2 ∧ (wlF tp N p b m d).2.2 < 15 := by
  intro b
  induction b with
  | zero => intro m d a b c f; exact ⟨Or.inr rfl, ⟨a, b⟩, c, f⟩
  | succ n ih =>
    intro m d a b c f
    rw [wlF]
    split
    · have rb := ri_b h N m (2 * d + 1 + p / 2 ^ n % 2) a b (by omega) (by omega)
      exact ih _ _ rb.1.1 rb.1.2 rb.2.1 rb.2.2
    · exact ⟨Or.inl rfl, ⟨a, b⟩, c, f⟩
end RA
end
section
/-! the reference: mount, unmount, copyView -/
/-- k is a peer of m with nothing on place d -/
def pkT (I : ST) (tp : Int → Int → Int) (m q d k : Int) : Int := if (k ≠ m ∧ (I 50 0 k) = 1 ∧ 0 < q ∧ (I 55 0 k) = q) ∧ tp k d < 0 then 1 else 0
def cpI (I : ST) (c : Int → Int) : ST := fun k i j => if k = 60 ∧ i = 0 ∧ 0 ≤ j ∧ j < 80 then c j else I k i j
/-- mounts on all marked ones from k on, one after the other -/
def MtR (d w q : Int) : Nat → Int → ST → ST → Prop
  | 0, _, I, I' => I' = I
  | n + 1, k, I, I' => if (I 60 0 k) = 0 then MtR d w q n (k + 1) I I' else ∃ m, FmR I m ∧ MtR d w q n (k + 1) (mkI I (I 51 0 k) k d w q m) I'
def PB (I : ST) : Prop := (∀ k, 0 ≤ k → k < 80 → 0 ≤ (I 55 0 k) ∧ (I 55 0 k) ≤ (I 12 0 36)) ∧ (I 12 0 36) < 1000000
theorem pk_b {I : ST} {tp : Int → Int → Int} {m q d k : Int} : 0 ≤ pkT I tp m q d k ∧ pkT I tp m q d k ≤ 1 := by
  unfold pkT
  split <;> omega
theorem th_b {I : ST} (hB : RB I) : 0 ≤ sm (fun k => (I 50 0 k)) 80 ∧ sm (fun k => (I 50 0 k)) 80 ≤ 80 := by
  refine ⟨sm_n0 (fun k a b => (RB.there hB a b).1), ?_⟩
  have := sm_le (f := fun k => (I 50 0 k)) (f' := fun _ => 1) (n := 80) (fun k a b => (RB.there hB a b).2)
  rw [sm_1 (by omega)] at this
  exact this
theorem sm_b1 {f : Int → Int} {n : Int} (h0 : ∀ k, 0 ≤ f k ∧ f k ≤ 1) (hn : 0 ≤ n) : 0 ≤ sm f n ∧ sm f n ≤ n := by
  refine ⟨sm_nn (fun k => (h0 k).1) _, ?_⟩
  have := sm_le (f := f) (f' := fun _ => 1) (n := n) (fun k _ _ => (h0 k).2)
  rw [sm_1 hn] at this
  exact this
section RA
variable {e : EN} {C I : ST} {z : Nat × Nat × Nat × Nat}
theorem mount228_ev (hA : WA e z) (hR : WR e) {d w q f : Int} (d0 : 0 ≤ d) (d1 : d < 15) (w0 : 0 ≤ w) (w1 : w ≤ 9) : ∀ (n : Nat) (k : Int) (I I' : ST), RB I → 0 ≤ k → k + n = 80 → MtR d w q n k I I' → Ev (fun F => J12_mount_228 F (rf e 12 0) (xk w) (xk d) (xk q) (xk f) (xk k) (HS e C I z)) (rI f (HS e C I' z)) := by
  intro n
  induction n with
  | zero =>
    intro k I I' hB k0 k1 h
    refine Ev.step (fun F => E12_mount_228 F _ _ _ _ _ _ _) ?_
    simp (disch := omega) only [a_51 hA hR, a_60 hA hR, d_12 hA hR, g_12_31 hA hR, g_12_40 hA hR, Option.bind_some, up_s, up_k, up_j, up_i, xk_add, xk_sub, xk_mul, xk_neg, lk_add, lN_z, rf_none, rb1, rb0, rbp, xk_nI, zk_eq, zk_lt, zk_eq0, zk_lt0, zk_0lt, zk_long, lz_lt, lz_gt, zmax, zmin, ↓reduceIte, Int.reduceEq, Int.reduceLT, Int.reduceNeg, Int.reduceAdd, Int.reduceSub, Int.reduceMul, Int.ofNat_eq_natCast, Int.cast_ofNat_Int]
    refine Ev.ite (fun q => absurd q (by omega)) (fun _ => Ev.ret (by rw [show I' = I from h]; rfl))
  | succ n ih =>
    intro k I I' hB k0 k1 h
    rw [MtR] at h
    have := RB.copies hB (j := k) (by omega) (by omega)
    have := RB.viewOf hB (j := k) (by omega) (by omega)
    refine Ev.step (fun F => E12_mount_228 F _ _ _ _ _ _ _) ?_
    simp (disch := omega) only [a_51 hA hR, a_60 hA hR, d_12 hA hR, g_12_31 hA hR, g_12_40 hA hR, Option.bind_some, up_s, up_k, up_j, up_i, xk_add, xk_sub, xk_mul, xk_neg, lk_add, lN_z, rf_none, rb1, rb0, rbp, xk_nI, zk_eq, zk_lt, zk_eq0, zk_lt0, zk_0lt, zk_long, lz_lt, lz_gt, zmax, zmin, ↓reduceIte, Int.reduceEq, Int.reduceLT, Int.reduceNeg, Int.reduceAdd, Int.reduceSub, Int.reduceMul, Int.ofNat_eq_natCast, Int.cast_ofNat_Int]
    refine Ev.ite (fun _ => ?_) (fun q => absurd q (by omega))
    refine Ev.ite (fun hc => ?_) (fun hc => ?_)
    · rw [if_pos hc] at h
      exact ih _ _ _ hB (by omega) (by omega) h
    · rw [if_neg hc] at h
      obtain ⟨m, hm, h⟩ := h
      refine Ev.kI (make_ev hA hR hB (by omega) (by omega) (by omega) (by omega) hm) ?_
      exact ih _ _ _ (hB.mk (by omega) (by omega) (by omega) (by omega) (by omega) (by omega) w0 w1 (by have := hm.1; omega) (by have := hm.1; omega)) (by omega) (by omega) h
theorem RB.cp {I : ST} (hB : RB I) {c : Int → Int} (hc : ∀ k, -1 ≤ c k ∧ c k ≤ 79) : RB (cpI I c) := by
  obtain ⟨h1, h2, h3, h4, h5, h6⟩ := hB
  refine ⟨fun r hr a a0 a1 => ?_, fun g g0 g1 => ?_, ?_, ?_, ?_, ?_⟩
  · have := h1 r hr a a0 a1
    have e1 : ∀ r ∈ rbt, r.1 = 60 → r.2.1 = -1 ∧ r.2.2.1 = 79 := by decide
    unfold cpI
    split
    · rename_i hh; have := e1 r hr hh.1; have := hc a; omega
    · exact this
  · have := h2 g g0 g1
    simpa [cpI] using this
  all_goals simpa [cpI]
theorem mount155_ev (hA : WA e z) (hR : WR e) (hB : RB I) (hP : PB I) {tp : Int → Int → Int} (hT : ToA I tp) {m d w q f p : Int} (m0 : 0 ≤ m) (m1 : m < 80) (d0 : 0 ≤ d) (d1 : d < 15) (w0 : 0 ≤ w) (w1 : w ≤ 9) (p0 : 0 ≤ p) (p1 : p < 2147483648) {I2 : ST} (hm : FmR I f) (h2 : MtR d w q 80 0 (mkI (cpI I (pkT I tp m p d)) (I 51 0 m) m d w q f) I2) : Ev (fun F => J12_mount_155 F (rf e 12 0) (xk w) (xk m) (xk d) (xk p) (xk q) (xk 0) (HS e C I z)) (rI f (HS e C I2 z)) := by
  refine lpN (P := fun k => ∀ I', 0 ≤ k → k ≤ 80 → I' = (fun k' i j => if k' = 60 ∧ i = 0 ∧ 0 ≤ j ∧ j < k then pkT I tp m p d j else I k' i j) → Ev (fun F => J12_mount_155 F (rf e 12 0) (xk w) (xk m) (xk d) (xk p) (xk q) (xk k) (HS e C I' z)) (rI f (HS e C I2 z))) 80 (fun k ih I' k0 k1 hI => ?_) 0 I (by omega) (by omega) (by funext k i j; rw [if_neg (by omega)])
  have hf : ∀ k' i j, k' ≠ 60 → I' k' i j = I k' i j := fun k' i j h => by rw [hI]; simp [h]
  have hB' : RB I' := by
    have : I' = cpI I (fun j => if 0 ≤ j ∧ j < k then pkT I tp m p d j else if 0 ≤ j ∧ j < 80 then (I 60 0 j) else 0) := by
      rw [hI]
      funext k' i j
      simp only [cpI]
      grind
    rw [this]
    refine hB.cp (fun j => ?_)
    have := pk_b (I := I) (tp := tp) (m := m) (q := p) (d := d) (k := j)
    split
    · omega
    · split
      · have := RB.copies hB (j := j) (by omega) (by omega)
        omega
      · omega
  have e1 := fun j => hf 51 0 j (by decide)
  refine Ev.step (fun F => E12_mount_155 F _ _ _ _ _ _ _ _) ?_
  simp (disch := omega) only [a_51 hA hR, a_60 hA hR, d_12 hA hR, g_12_31 hA hR, g_12_40 hA hR, s_51 hA hR, s_60 hA hR, Option.bind_some, up_s, up_k, up_j, up_i, xk_add, xk_sub, xk_mul, xk_neg, lk_add, lN_z, rf_none, rb1, rb0, rbp, xk_nI, zk_eq, zk_lt, zk_eq0, zk_lt0, zk_0lt, zk_long, lz_lt, lz_gt, zmax, zmin, ↓reduceIte, Int.reduceEq, Int.reduceLT, Int.reduceNeg, Int.reduceAdd, Int.reduceSub, Int.reduceMul, Int.ofNat_eq_natCast, Int.cast_ofNat_Int, e1]
  refine Ev.ite (fun h => ?_) (fun h => ?_)
  · have ih := fun I' => ih h I' (by omega) (by omega)
    have pk := hP.1 k k0 h
    have pl := hP.2
    have nx : ∀ b, b = pkT I tp m p d k → up I' 60 0 k b = (fun k' i j => if k' = 60 ∧ i = 0 ∧ 0 ≤ j ∧ j < k + 1 then pkT I tp m p d j else I k' i j) := by
      intro b hb
      rw [hI, hb]
      funext k' i j
      simp only [up]
      by_cases hj : j = k
      · subst hj
        repeat' split
        all_goals first | rfl | (exfalso; omega)
      · repeat' split
        all_goals first | rfl | (exfalso; omega)
    refine Ev.kB (isPeer_ev hA hR hB' k0 h m0 m1 p0 p1 (by rw [hf _ _ _ (by decide)]; omega) (by rw [hf _ _ _ (by decide)]; omega)) (fun hi => ?_) (fun hi => ?_)
    · rw [hf _ _ _ (by decide), hf _ _ _ (by decide)] at hi
      have hx := hT k d k0 h d0 d1
      try simp (disch := omega) only [a_51 hA hR, a_60 hA hR, d_12 hA hR, g_12_31 hA hR, g_12_40 hA hR, s_51 hA hR, s_60 hA hR, Option.bind_some, up_s, up_k, up_j, up_i, xk_add, xk_sub, xk_mul, xk_neg, lk_add, lN_z, rf_none, rb1, rb0, rbp, xk_nI, zk_eq, zk_lt, zk_eq0, zk_lt0, zk_0lt, zk_long, lz_lt, lz_gt, zmax, zmin, ↓reduceIte, Int.reduceEq, Int.reduceLT, Int.reduceNeg, Int.reduceAdd, Int.reduceSub, Int.reduceMul, Int.ofNat_eq_natCast, Int.cast_ofNat_Int]
      refine Ev.kI (mountAt_ev hA hR hB' (by omega) (by omega) (by omega) (by omega) (x := tp k d) (by rw [ToR_c (I' := I') (I := I) (fun _ => hf _ _ _ (by decide)) (fun _ => hf _ _ _ (by decide)) (fun _ => hf _ _ _ (by decide))]; exact hx)) ?_
      have := hx.1
      try simp (disch := omega) only [a_51 hA hR, a_60 hA hR, d_12 hA hR, g_12_31 hA hR, g_12_40 hA hR, s_51 hA hR, s_60 hA hR, Option.bind_some, up_s, up_k, up_j, up_i, xk_add, xk_sub, xk_mul, xk_neg, lk_add, lN_z, rf_none, rb1, rb0, rbp, xk_nI, zk_eq, zk_lt, zk_eq0, zk_lt0, zk_0lt, zk_long, lz_lt, lz_gt, zmax, zmin, ↓reduceIte, Int.reduceEq, Int.reduceLT, Int.reduceNeg, Int.reduceAdd, Int.reduceSub, Int.reduceMul, Int.ofNat_eq_natCast, Int.cast_ofNat_Int]
      refine Ev.ite (fun hq => ih _ (nx _ ?_)) (fun hq => ih _ (nx _ ?_))
      · rw [pkT, if_pos ⟨hi, by omega⟩]
      · rw [pkT, if_neg (fun y => by have := y.2; omega)]
    · rw [hf _ _ _ (by decide), hf _ _ _ (by decide)] at hi
      try simp (disch := omega) only [a_51 hA hR, a_60 hA hR, d_12 hA hR, g_12_31 hA hR, g_12_40 hA hR, s_51 hA hR, s_60 hA hR, Option.bind_some, up_s, up_k, up_j, up_i, xk_add, xk_sub, xk_mul, xk_neg, lk_add, lN_z, rf_none, rb1, rb0, rbp, xk_nI, zk_eq, zk_lt, zk_eq0, zk_lt0, zk_0lt, zk_long, lz_lt, lz_gt, zmax, zmin, ↓reduceIte, Int.reduceEq, Int.reduceLT, Int.reduceNeg, Int.reduceAdd, Int.reduceSub, Int.reduceMul, Int.ofNat_eq_natCast, Int.cast_ofNat_Int]
      refine ih _ (nx _ ?_)
      rw [pkT, if_neg (fun y => hi y.1)]
  · have : k = 80 := by omega
    subst this
    have hI : I' = cpI I (pkT I tp m p d) := hI
    have := RB.viewOf hB (j := m) (by omega) (by omega)
    try simp (disch := omega) only [a_51 hA hR, a_60 hA hR, d_12 hA hR, g_12_31 hA hR, g_12_40 hA hR, s_51 hA hR, s_60 hA hR, Option.bind_some, up_s, up_k, up_j, up_i, xk_add, xk_sub, xk_mul, xk_neg, lk_add, lN_z, rf_none, rb1, rb0, rbp, xk_nI, zk_eq, zk_lt, zk_eq0, zk_lt0, zk_0lt, zk_long, lz_lt, lz_gt, zmax, zmin, ↓reduceIte, Int.reduceEq, Int.reduceLT, Int.reduceNeg, Int.reduceAdd, Int.reduceSub, Int.reduceMul, Int.ofNat_eq_natCast, Int.cast_ofNat_Int, e1]
    have hm' : FmR I' f := ⟨hm.1, by rw [hf _ _ _ (by decide)]; exact hm.2.1, fun k a b => by rw [hf _ _ _ (by decide)]; exact hm.2.2 k a b⟩
    refine Ev.kI (make_ev hA hR hB' (by omega) (by omega) (by omega) (by omega) hm') ?_
    refine mount228_ev hA hR d0 d1 w0 w1 80 0 _ I2 (hB'.mk (by omega) (by omega) (by omega) (by omega) (by omega) (by omega) w0 w1 (by have := hm.1; omega) (by have := hm.1; omega)) (by omega) (by omega) ?_
    rw [hI]
    exact h2
theorem mount68_ev (hA : WA e z) (hR : WR e) (hB : RB I) (hP : PB I) {tp : Int → Int → Int} (hT : ToA I tp) {m d w sh p : Int} (m0 : 0 ≤ m) (m1 : m < 80) (d0 : 0 ≤ d) (d1 : d < 15) (w0 : 0 ≤ w) (w1 : w ≤ 9) (p0 : 0 ≤ p) (p1 : p < 2147483648) (s0 : 0 ≤ sh) (s1 : sh ≤ 1) {r : XV × XH} (hf : 80 < sm (fun k => (I 50 0 k)) 80 + (1 + sm (pkT I tp m p d) 80) → r = rI (-2) (HS e C I z)) (hg : sm (fun k => (I 50 0 k)) 80 + (1 + sm (pkT I tp m p d) 80) ≤ 80 → Ev (fun F => J12_mount_155 F (rf e 12 0) (xk w) (xk m) (xk d) (xk p) (xk (if sh = 0 then 0 else (I 12 0 36) + 1)) (xk 0) (HS e C (if sh = 0 then I else up I 12 0 36 ((I 12 0 36) + 1)) z)) r) : Ev (fun F => J12_mount_68 F (rf e 12 0) (xk w) (xk sh) (xk m) (xk d) (xk p) (xk 1) (xk 0) (HS e C I z)) r := by
  refine lpN (P := fun k => ∀ n, 0 ≤ k → k ≤ 80 → n = 1 + sm (pkT I tp m p d) k → Ev (fun F => J12_mount_68 F (rf e 12 0) (xk w) (xk sh) (xk m) (xk d) (xk p) (xk n) (xk k) (HS e C I z)) r) 80 (fun k ih n k0 k1 hn => ?_) 0 1 (by omega) (by omega) rfl
  refine Ev.step (fun F => E12_mount_68 F _ _ _ _ _ _ _ _ _) ?_
  simp (disch := omega) only [d_12 hA hR, g_12_36 hA hR, p_12_36 hA hR, Option.bind_some, up_s, up_k, up_j, up_i, xk_add, xk_sub, xk_mul, xk_neg, lk_add, lN_z, rf_none, rb1, rb0, rbp, xk_nI, zk_eq, zk_lt, zk_eq0, zk_lt0, zk_0lt, zk_long, lz_lt, lz_gt, zmax, zmin, ↓reduceIte, Int.reduceEq, Int.reduceLT, Int.reduceNeg, Int.reduceAdd, Int.reduceSub, Int.reduceMul, Int.ofNat_eq_natCast, Int.cast_ofNat_Int]
  refine Ev.ite (fun h => ?_) (fun h => ?_)
  · have ih := fun n => ih h n (by omega) (by omega)
    rw [sm_s k0] at ih
    have pk := hP.1 k k0 h
    have pl := hP.2
    refine Ev.kB (isPeer_ev hA hR hB k0 h m0 m1 p0 p1 (by omega) (by omega)) (fun hi => ?_) (fun hi => ?_)
    · have hx := hT k d k0 h d0 d1
      try simp (disch := omega) only [d_12 hA hR, g_12_36 hA hR, p_12_36 hA hR, Option.bind_some, up_s, up_k, up_j, up_i, xk_add, xk_sub, xk_mul, xk_neg, lk_add, lN_z, rf_none, rb1, rb0, rbp, xk_nI, zk_eq, zk_lt, zk_eq0, zk_lt0, zk_0lt, zk_long, lz_lt, lz_gt, zmax, zmin, ↓reduceIte, Int.reduceEq, Int.reduceLT, Int.reduceNeg, Int.reduceAdd, Int.reduceSub, Int.reduceMul, Int.ofNat_eq_natCast, Int.cast_ofNat_Int]
      refine Ev.kI (mountAt_ev hA hR hB (by omega) (by omega) (by omega) (by omega) (x := tp k d) hx) ?_
      have := hx.1
      try simp (disch := omega) only [d_12 hA hR, g_12_36 hA hR, p_12_36 hA hR, Option.bind_some, up_s, up_k, up_j, up_i, xk_add, xk_sub, xk_mul, xk_neg, lk_add, lN_z, rf_none, rb1, rb0, rbp, xk_nI, zk_eq, zk_lt, zk_eq0, zk_lt0, zk_0lt, zk_long, lz_lt, lz_gt, zmax, zmin, ↓reduceIte, Int.reduceEq, Int.reduceLT, Int.reduceNeg, Int.reduceAdd, Int.reduceSub, Int.reduceMul, Int.ofNat_eq_natCast, Int.cast_ofNat_Int]
      refine Ev.ite (fun hq => ih _ ?_) (fun hq => ih _ ?_)
      · rw [pkT, if_pos ⟨hi, by omega⟩]; omega
      · rw [pkT, if_neg (fun y => by have := y.2; omega)]; omega
    · try simp (disch := omega) only [d_12 hA hR, g_12_36 hA hR, p_12_36 hA hR, Option.bind_some, up_s, up_k, up_j, up_i, xk_add, xk_sub, xk_mul, xk_neg, lk_add, lN_z, rf_none, rb1, rb0, rbp, xk_nI, zk_eq, zk_lt, zk_eq0, zk_lt0, zk_0lt, zk_long, lz_lt, lz_gt, zmax, zmin, ↓reduceIte, Int.reduceEq, Int.reduceLT, Int.reduceNeg, Int.reduceAdd, Int.reduceSub, Int.reduceMul, Int.ofNat_eq_natCast, Int.cast_ofNat_Int]
      refine ih _ ?_
      rw [pkT, if_neg (fun y => hi y.1)]; omega
  · have : k = 80 := by omega
    subst this
    have tb := th_b hB
    have sb := sm_b1 (f := pkT I tp m p d) (n := 80) (fun k => pk_b) (by omega)
    refine Ev.kI (freeMounts_ev hA hR hB) ?_
    try simp (disch := omega) only [d_12 hA hR, g_12_36 hA hR, p_12_36 hA hR, Option.bind_some, up_s, up_k, up_j, up_i, xk_add, xk_sub, xk_mul, xk_neg, lk_add, lN_z, rf_none, rb1, rb0, rbp, xk_nI, zk_eq, zk_lt, zk_eq0, zk_lt0, zk_0lt, zk_long, lz_lt, lz_gt, zmax, zmin, ↓reduceIte, Int.reduceEq, Int.reduceLT, Int.reduceNeg, Int.reduceAdd, Int.reduceSub, Int.reduceMul, Int.ofNat_eq_natCast, Int.cast_ofNat_Int]
    refine Ev.ite (fun hq => Ev.ret (hf (by omega)).symm) (fun hq => ?_)
    have hg := hg (by omega)
    refine Ev.ite (fun hs => ?_) (fun hs => ?_)
    · rw [if_pos hs, if_pos hs] at hg
      exact hg
    · rw [if_neg hs, if_neg hs] at hg
      exact hg
/-- same mounts are taken away, from k on -/
def UmR (m o q : Int) : Nat → Int → ST → ST → Int → Prop
  | 0, _, I, I', c => I' = I ∧ c = 0
  | n + 1, k, I, I', c => if k ≠ o ∧ (I 50 0 k) = 1 ∧ 0 < q ∧ (I 55 0 k) = q then (∃ x, ToR I k (I 53 0 m) x ∧ if 0 ≤ x ∧ (I 54 0 x) = (I 54 0 m) ∧ sm (bzT I x) 80 ≤ 0 then UmR m o q n (k + 1) (up I 50 0 x 0) I' (c - 1) else UmR m o q n (k + 1) I I' c) else UmR m o q n (k + 1) I I' c
theorem unmount82_ev (hA : WA e z) (hR : WR e) {m o q : Int} (m0 : 0 ≤ m) (m1 : m < 80) (o0 : 0 ≤ o) (o1 : o < 80) (q0 : 0 ≤ q) (q1 : q < 2147483648) : ∀ (n : Nat) (k : Int) (I I' : ST) (c a : Int), RB I → PB I → 0 ≤ k → k + n = 80 → UmR m o q n k I I' c → Ev (fun F => J12_unmount_82 F (rf e 12 0) (xk m) (xk o) (xk a) (xk q) (xk k) (HS e C I z)) (rI (a + c) (HS e C I' z)) := by
  intro n
  induction n with
  | zero =>
    intro k I I' c a hB hP k0 k1 h
    refine Ev.step (fun F => E12_unmount_82 F _ _ _ _ _ _ _) ?_
    simp (disch := omega) only [a_50 hA hR, a_53 hA hR, a_54 hA hR, d_12 hA hR, g_12_30 hA hR, g_12_33 hA hR, g_12_34 hA hR, s_50 hA hR, s_53 hA hR, s_54 hA hR, Option.bind_some, up_s, up_k, up_j, up_i, xk_add, xk_sub, xk_mul, xk_neg, lk_add, lN_z, rf_none, rb1, rb0, rbp, xk_nI, zk_eq, zk_lt, zk_eq0, zk_lt0, zk_0lt, zk_long, lz_lt, lz_gt, zmax, zmin, ↓reduceIte, Int.reduceEq, Int.reduceLT, Int.reduceNeg, Int.reduceAdd, Int.reduceSub, Int.reduceMul, Int.ofNat_eq_natCast, Int.cast_ofNat_Int]
    refine Ev.ite (fun q => absurd q (by omega)) (fun _ => Ev.ret (by rw [h.1, h.2, Int.add_zero]; rfl))
  | succ n ih =>
    intro k I I' c a hB hP k0 k1 h
    rw [UmR] at h
    have pk := hP.1 k k0 (by omega)
    have pl := hP.2
    refine Ev.step (fun F => E12_unmount_82 F _ _ _ _ _ _ _) ?_
    simp (disch := omega) only [a_50 hA hR, a_53 hA hR, a_54 hA hR, d_12 hA hR, g_12_30 hA hR, g_12_33 hA hR, g_12_34 hA hR, s_50 hA hR, s_53 hA hR, s_54 hA hR, Option.bind_some, up_s, up_k, up_j, up_i, xk_add, xk_sub, xk_mul, xk_neg, lk_add, lN_z, rf_none, rb1, rb0, rbp, xk_nI, zk_eq, zk_lt, zk_eq0, zk_lt0, zk_0lt, zk_long, lz_lt, lz_gt, zmax, zmin, ↓reduceIte, Int.reduceEq, Int.reduceLT, Int.reduceNeg, Int.reduceAdd, Int.reduceSub, Int.reduceMul, Int.ofNat_eq_natCast, Int.cast_ofNat_Int]
    refine Ev.ite (fun _ => ?_) (fun q => absurd q (by omega))
    refine Ev.kB (isPeer_ev hA hR hB k0 (by omega) o0 o1 q0 q1 (by omega) (by omega)) (fun hi => ?_) (fun hi => ?_)
    · rw [if_pos hi] at h
      obtain ⟨x, hx, h⟩ := h
      have := RB.inPlace hB (j := m) (by omega) (by omega)
      try simp (disch := omega) only [a_50 hA hR, a_53 hA hR, a_54 hA hR, d_12 hA hR, g_12_30 hA hR, g_12_33 hA hR, g_12_34 hA hR, s_50 hA hR, s_53 hA hR, s_54 hA hR, Option.bind_some, up_s, up_k, up_j, up_i, xk_add, xk_sub, xk_mul, xk_neg, lk_add, lN_z, rf_none, rb1, rb0, rbp, xk_nI, zk_eq, zk_lt, zk_eq0, zk_lt0, zk_0lt, zk_long, lz_lt, lz_gt, zmax, zmin, ↓reduceIte, Int.reduceEq, Int.reduceLT, Int.reduceNeg, Int.reduceAdd, Int.reduceSub, Int.reduceMul, Int.ofNat_eq_natCast, Int.cast_ofNat_Int]
      refine Ev.kI (mountAt_ev hA hR hB (by omega) (by omega) (by omega) (by omega) hx) ?_
      have xb := hx.1
      try simp (disch := omega) only [a_50 hA hR, a_53 hA hR, a_54 hA hR, d_12 hA hR, g_12_30 hA hR, g_12_33 hA hR, g_12_34 hA hR, s_50 hA hR, s_53 hA hR, s_54 hA hR, Option.bind_some, up_s, up_k, up_j, up_i, xk_add, xk_sub, xk_mul, xk_neg, lk_add, lN_z, rf_none, rb1, rb0, rbp, xk_nI, zk_eq, zk_lt, zk_eq0, zk_lt0, zk_0lt, zk_long, lz_lt, lz_gt, zmax, zmin, ↓reduceIte, Int.reduceEq, Int.reduceLT, Int.reduceNeg, Int.reduceAdd, Int.reduceSub, Int.reduceMul, Int.ofNat_eq_natCast, Int.cast_ofNat_Int]
      refine Ev.ite (fun hq => ?_) (fun hq => ?_)
      · rw [if_neg (by omega)] at h
        exact ih _ _ _ _ _ hB hP (by omega) (by omega) h
      · have := RB.volumes hB (j := x) (by omega) (by omega)
        have := RB.volumes hB (j := m) (by omega) (by omega)
        try simp (disch := omega) only [a_50 hA hR, a_53 hA hR, a_54 hA hR, d_12 hA hR, g_12_30 hA hR, g_12_33 hA hR, g_12_34 hA hR, s_50 hA hR, s_53 hA hR, s_54 hA hR, Option.bind_some, up_s, up_k, up_j, up_i, xk_add, xk_sub, xk_mul, xk_neg, lk_add, lN_z, rf_none, rb1, rb0, rbp, xk_nI, zk_eq, zk_lt, zk_eq0, zk_lt0, zk_0lt, zk_long, lz_lt, lz_gt, zmax, zmin, ↓reduceIte, Int.reduceEq, Int.reduceLT, Int.reduceNeg, Int.reduceAdd, Int.reduceSub, Int.reduceMul, Int.ofNat_eq_natCast, Int.cast_ofNat_Int]
        refine Ev.ite (fun hv => ?_) (fun hv => ?_)
        · refine Ev.kB (isBusy_ev hA hR hB (by omega) (by omega)) (fun hb => ?_) (fun hb => ?_)
          · try simp (disch := omega) only [a_50 hA hR, a_53 hA hR, a_54 hA hR, d_12 hA hR, g_12_30 hA hR, g_12_33 hA hR, g_12_34 hA hR, s_50 hA hR, s_53 hA hR, s_54 hA hR, Option.bind_some, up_s, up_k, up_j, up_i, xk_add, xk_sub, xk_mul, xk_neg, lk_add, lN_z, rf_none, rb1, rb0, rbp, xk_nI, zk_eq, zk_lt, zk_eq0, zk_lt0, zk_0lt, zk_long, lz_lt, lz_gt, zmax, zmin, ↓reduceIte, Int.reduceEq, Int.reduceLT, Int.reduceNeg, Int.reduceAdd, Int.reduceSub, Int.reduceMul, Int.ofNat_eq_natCast, Int.cast_ofNat_Int]
            rw [if_neg (by omega)] at h
            exact ih _ _ _ _ _ hB hP (by omega) (by omega) h
          · try simp (disch := omega) only [a_50 hA hR, a_53 hA hR, a_54 hA hR, d_12 hA hR, g_12_30 hA hR, g_12_33 hA hR, g_12_34 hA hR, s_50 hA hR, s_53 hA hR, s_54 hA hR, Option.bind_some, up_s, up_k, up_j, up_i, xk_add, xk_sub, xk_mul, xk_neg, lk_add, lN_z, rf_none, rb1, rb0, rbp, xk_nI, zk_eq, zk_lt, zk_eq0, zk_lt0, zk_0lt, zk_long, lz_lt, lz_gt, zmax, zmin, ↓reduceIte, Int.reduceEq, Int.reduceLT, Int.reduceNeg, Int.reduceAdd, Int.reduceSub, Int.reduceMul, Int.ofNat_eq_natCast, Int.cast_ofNat_Int]
            rw [if_pos ⟨by omega, hv, by omega⟩] at h
            have := ih (k + 1) (up I 50 0 x 0) I' (c - 1) (a + 1) (RB.u_there hB (by omega) (by omega)) ⟨fun k => by rw [up_k (by decide), up_k (by decide)]; exact hP.1 k, by rw [up_k (by decide)]; exact hP.2⟩ (by omega) (by omega) h
            rw [show a + 1 + (c - 1) = a + c by omega] at this
            exact this
        · rw [if_neg (fun y => hv y.2.1)] at h
          exact ih _ _ _ _ _ hB hP (by omega) (by omega) h
    · rw [if_neg hi] at h
      try simp (disch := omega) only [a_50 hA hR, a_53 hA hR, a_54 hA hR, d_12 hA hR, g_12_30 hA hR, g_12_33 hA hR, g_12_34 hA hR, s_50 hA hR, s_53 hA hR, s_54 hA hR, Option.bind_some, up_s, up_k, up_j, up_i, xk_add, xk_sub, xk_mul, xk_neg, lk_add, lN_z, rf_none, rb1, rb0, rbp, xk_nI, zk_eq, zk_lt, zk_eq0, zk_lt0, zk_0lt, zk_long, lz_lt, lz_gt, zmax, zmin, ↓reduceIte, Int.reduceEq, Int.reduceLT, Int.reduceNeg, Int.reduceAdd, Int.reduceSub, Int.reduceMul, Int.ofNat_eq_natCast, Int.cast_ofNat_Int]
      exact ih _ _ _ _ _ hB hP (by omega) (by omega) h
def Cv1 (v o : Int) : Nat → Int → ST → ST → Prop
  | 0, _, I, I' => I' = I
  | n + 1, k, I, I' => if (I 50 0 k) = 1 ∧ (I 51 0 k) = o then ∃ m, FmR I m ∧ Cv1 v o n (k + 1) (up (mkI I v (I 52 0 k) (I 53 0 k) (I 54 0 k) (I 55 0 k) m) 60 0 k m) I' else Cv1 v o n (k + 1) I I'
def c2F : Nat → Int → ST → ST
  | 0, _, I => I
  | n + 1, k, I => if (I 60 0 k) ≠ -1 ∧ (I 52 0 k) ≠ -1 then c2F n (k + 1) (up I 52 0 (I 60 0 k) (I 60 0 ((I 52 0 k)))) else c2F n (k + 1) I
theorem copyView121_ev (hA : WA e z) (hR : WR e) {v : Int} : ∀ (n : Nat) (k : Int) (I : ST), RB I → 0 ≤ k → k + n = 80 → Ev (fun F => J12_copyView_121 F (rf e 12 0) (xk v) (xk k) (HS e C I z)) (rI v (HS e C (c2F n k I) z)) := by
  intro n
  induction n with
  | zero =>
    intro k I hB k0 k1
    refine Ev.step (fun F => E12_copyView_121 F _ _ _ _) ?_
    simp (disch := omega) only [a_52 hA hR, a_60 hA hR, g_12_32 hA hR, g_12_40 hA hR, s_52 hA hR, s_60 hA hR, Option.bind_some, up_s, up_k, up_j, up_i, xk_add, xk_sub, xk_mul, xk_neg, lk_add, lN_z, rf_none, rb1, rb0, rbp, xk_nI, zk_eq, zk_lt, zk_eq0, zk_lt0, zk_0lt, zk_long, lz_lt, lz_gt, zmax, zmin, ↓reduceIte, Int.reduceEq, Int.reduceLT, Int.reduceNeg, Int.reduceAdd, Int.reduceSub, Int.reduceMul, Int.ofNat_eq_natCast, Int.cast_ofNat_Int]
    refine Ev.ite (fun q => absurd q (by omega)) (fun _ => Ev.ret rfl)
  | succ n ih =>
    intro k I hB k0 k1
    rw [c2F]
    have := RB.copies hB (j := k) (by omega) (by omega)
    have := RB.inMount hB (j := k) (by omega) (by omega)
    refine Ev.step (fun F => E12_copyView_121 F _ _ _ _) ?_
    simp (disch := omega) only [a_52 hA hR, a_60 hA hR, g_12_32 hA hR, g_12_40 hA hR, s_52 hA hR, s_60 hA hR, Option.bind_some, up_s, up_k, up_j, up_i, xk_add, xk_sub, xk_mul, xk_neg, lk_add, lN_z, rf_none, rb1, rb0, rbp, xk_nI, zk_eq, zk_lt, zk_eq0, zk_lt0, zk_0lt, zk_long, lz_lt, lz_gt, zmax, zmin, ↓reduceIte, Int.reduceEq, Int.reduceLT, Int.reduceNeg, Int.reduceAdd, Int.reduceSub, Int.reduceMul, Int.ofNat_eq_natCast, Int.cast_ofNat_Int]
    refine Ev.ite (fun _ => ?_) (fun q => absurd q (by omega))
    refine Ev.ite (fun hc => ?_) (fun hc => ?_)
    · rw [if_neg (fun y => y.1 hc)]
      exact ih _ _ hB (by omega) (by omega)
    · refine Ev.ite (fun hm => ?_) (fun hm => ?_)
      · rw [if_neg (fun y => y.2 hm)]
        exact ih _ _ hB (by omega) (by omega)
      · rw [if_pos ⟨hc, hm⟩]
        have := RB.copies hB (j := ((I 52 0 k))) (by omega) (by omega)
        try simp (disch := omega) only [a_52 hA hR, a_60 hA hR, g_12_32 hA hR, g_12_40 hA hR, s_52 hA hR, s_60 hA hR, Option.bind_some, up_s, up_k, up_j, up_i, xk_add, xk_sub, xk_mul, xk_neg, lk_add, lN_z, rf_none, rb1, rb0, rbp, xk_nI, zk_eq, zk_lt, zk_eq0, zk_lt0, zk_0lt, zk_long, lz_lt, lz_gt, zmax, zmin, ↓reduceIte, Int.reduceEq, Int.reduceLT, Int.reduceNeg, Int.reduceAdd, Int.reduceSub, Int.reduceMul, Int.ofNat_eq_natCast, Int.cast_ofNat_Int]
        exact ih _ _ (RB.u_inMount hB (by omega) (by omega)) (by omega) (by omega)
theorem copyView42_ev (hA : WA e z) (hR : WR e) {v o : Int} (v0 : 0 ≤ v) (v1 : v < 10) (o0 : 0 ≤ o) (o1 : o < 10) : ∀ (n : Nat) (k : Int) (I I' : ST), RB I → 0 ≤ k → k + n = 80 → Cv1 v o n k I I' → Ev (fun F => J12_copyView_42 F (rf e 12 0) (xk o) (xk v) (xk 80) (xk k) (HS e C I z)) (rI v (HS e C (c2F 80 0 I') z)) := by
  intro n
  induction n with
  | zero =>
    intro k I I' hB k0 k1 h
    refine Ev.step (fun F => E12_copyView_42 F _ _ _ _ _ _) ?_
    simp (disch := omega) only [a_50 hA hR, a_51 hA hR, a_52 hA hR, a_53 hA hR, a_54 hA hR, a_55 hA hR, a_60 hA hR, d_12 hA hR, g_12_30 hA hR, g_12_31 hA hR, g_12_32 hA hR, g_12_33 hA hR, g_12_34 hA hR, g_12_35 hA hR, g_12_40 hA hR, s_50 hA hR, s_51 hA hR, s_52 hA hR, s_53 hA hR, s_54 hA hR, s_55 hA hR, s_60 hA hR, Option.bind_some, up_s, up_k, up_j, up_i, xk_add, xk_sub, xk_mul, xk_neg, lk_add, lN_z, rf_none, rb1, rb0, rbp, xk_nI, zk_eq, zk_lt, zk_eq0, zk_lt0, zk_0lt, zk_long, lz_lt, lz_gt, zmax, zmin, ↓reduceIte, Int.reduceEq, Int.reduceLT, Int.reduceNeg, Int.reduceAdd, Int.reduceSub, Int.reduceMul, Int.ofNat_eq_natCast, Int.cast_ofNat_Int]
    refine Ev.ite (fun q => absurd q (by omega)) (fun _ => ?_)
    rw [show I' = I from h]
    exact copyView121_ev hA hR 80 0 I hB (by omega) (by omega)
  | succ n ih =>
    intro k I I' hB k0 k1 h
    rw [Cv1] at h
    have := RB.there hB (j := k) (by omega) (by omega)
    have := RB.viewOf hB (j := k) (by omega) (by omega)
    have := RB.inMount hB (j := k) (by omega) (by omega)
    have := RB.inPlace hB (j := k) (by omega) (by omega)
    have := RB.volumes hB (j := k) (by omega) (by omega)
    refine Ev.step (fun F => E12_copyView_42 F _ _ _ _ _ _) ?_
    simp (disch := omega) only [a_50 hA hR, a_51 hA hR, a_52 hA hR, a_53 hA hR, a_54 hA hR, a_55 hA hR, a_60 hA hR, d_12 hA hR, g_12_30 hA hR, g_12_31 hA hR, g_12_32 hA hR, g_12_33 hA hR, g_12_34 hA hR, g_12_35 hA hR, g_12_40 hA hR, s_50 hA hR, s_51 hA hR, s_52 hA hR, s_53 hA hR, s_54 hA hR, s_55 hA hR, s_60 hA hR, Option.bind_some, up_s, up_k, up_j, up_i, xk_add, xk_sub, xk_mul, xk_neg, lk_add, lN_z, rf_none, rb1, rb0, rbp, xk_nI, zk_eq, zk_lt, zk_eq0, zk_lt0, zk_0lt, zk_long, lz_lt, lz_gt, zmax, zmin, ↓reduceIte, Int.reduceEq, Int.reduceLT, Int.reduceNeg, Int.reduceAdd, Int.reduceSub, Int.reduceMul, Int.ofNat_eq_natCast, Int.cast_ofNat_Int]
    refine Ev.ite (fun _ => ?_) (fun q => absurd q (by omega))
    refine Ev.ite (fun hc => ?_) (fun hc => ?_)
    · rw [if_neg (by omega)] at h
      exact ih _ _ _ hB (by omega) (by omega) h
    · refine Ev.ite (fun hm => ?_) (fun hm => ?_)
      · rw [if_pos (by omega)] at h
        obtain ⟨m, hf, h⟩ := h
        have hB2 := hB.mk (v := v) (o := (I 52 0 k)) (p := (I 53 0 k)) (w := (I 54 0 k)) (q := (I 55 0 k)) (m := m) (by omega) (by omega) (by omega) (by omega) (by omega) (by omega) (by omega) (by omega) (by have := hf.1; omega) (by have := hf.1; omega)
        refine Ev.kI (make_ev hA hR hB v0 v1 (by omega) (by omega) hf) ?_
        try simp (disch := omega) only [a_50 hA hR, a_51 hA hR, a_52 hA hR, a_53 hA hR, a_54 hA hR, a_55 hA hR, a_60 hA hR, d_12 hA hR, g_12_30 hA hR, g_12_31 hA hR, g_12_32 hA hR, g_12_33 hA hR, g_12_34 hA hR, g_12_35 hA hR, g_12_40 hA hR, s_50 hA hR, s_51 hA hR, s_52 hA hR, s_53 hA hR, s_54 hA hR, s_55 hA hR, s_60 hA hR, Option.bind_some, up_s, up_k, up_j, up_i, xk_add, xk_sub, xk_mul, xk_neg, lk_add, lN_z, rf_none, rb1, rb0, rbp, xk_nI, zk_eq, zk_lt, zk_eq0, zk_lt0, zk_0lt, zk_long, lz_lt, lz_gt, zmax, zmin, ↓reduceIte, Int.reduceEq, Int.reduceLT, Int.reduceNeg, Int.reduceAdd, Int.reduceSub, Int.reduceMul, Int.ofNat_eq_natCast, Int.cast_ofNat_Int]
        exact ih _ _ _ (RB.u_copies hB2 (by have := hf.1; omega) (by have := hf.1; omega)) (by omega) (by omega) h
      · rw [if_neg (by omega)] at h
        exact ih _ _ _ hB (by omega) (by omega) h
theorem copyView_ev (hA : WA e z) (hR : WR e) (hB : RB I) {o : Int} (o0 : 0 ≤ o) (o1 : o < 10) (hv : (I 12 0 28) < 10) {I1 : ST} (h1 : Cv1 (I 12 0 28) o 80 0 (cpI (up I 12 0 28 ((I 12 0 28) + 1)) (fun _ => -1)) I1) : Ev (fun F => J12_copyView F (rf e 12 0) (xk o) (HS e C I z)) (rI (I 12 0 28) (HS e C (c2F 80 0 I1) z)) := by
  have := RB.views hB
  have hB1 : RB (up I 12 0 28 ((I 12 0 28) + 1)) := hB.uS (by omega) (by omega) (by omega) (by omega)
  refine Ev.step (fun F => E12_copyView F _ _ _) ?_
  simp (disch := omega) only [g_12_28 hA hR, p_12_28 hA hR, Option.bind_some, up_s, up_k, up_j, up_i, xk_add, xk_sub, xk_mul, xk_neg, lk_add, lN_z, rf_none, rb1, rb0, rbp, xk_nI, zk_eq, zk_lt, zk_eq0, zk_lt0, zk_0lt, zk_long, lz_lt, lz_gt, zmax, zmin, ↓reduceIte, Int.reduceEq, Int.reduceLT, Int.reduceNeg, Int.reduceAdd, Int.reduceSub, Int.reduceMul, Int.ofNat_eq_natCast, Int.cast_ofNat_Int]
  refine lpN (P := fun k => ∀ I', 0 ≤ k → k ≤ 80 → I' = (fun k' i j => if k' = 60 ∧ i = 0 ∧ 0 ≤ j ∧ j < k then -1 else up I 12 0 28 ((I 12 0 28) + 1) k' i j) → Ev (fun F => J12_copyView_18 F (rf e 12 0) (xk o) (xk (I 12 0 28)) (xk 80) (xk k) (HS e C I' z)) (rI (I 12 0 28) (HS e C (c2F 80 0 I1) z))) 80 (fun k ih I' k0 k1 hI => ?_) 0 _ (by omega) (by omega) (by funext k i j; rw [if_neg (by omega)])
  refine Ev.step (fun F => E12_copyView_18 F _ _ _ _ _ _) ?_
  simp (disch := omega) only [g_12_40 hA hR, s_60 hA hR, Option.bind_some, up_s, up_k, up_j, up_i, xk_add, xk_sub, xk_mul, xk_neg, lk_add, lN_z, rf_none, rb1, rb0, rbp, xk_nI, zk_eq, zk_lt, zk_eq0, zk_lt0, zk_0lt, zk_long, lz_lt, lz_gt, zmax, zmin, ↓reduceIte, Int.reduceEq, Int.reduceLT, Int.reduceNeg, Int.reduceAdd, Int.reduceSub, Int.reduceMul, Int.ofNat_eq_natCast, Int.cast_ofNat_Int]
  refine Ev.ite (fun h => ?_) (fun h => ?_)
  · refine ih h _ (by omega) (by omega) ?_
    rw [hI]
    funext k i j
    simp only [up]
    repeat' split
    all_goals first | rfl | (exfalso; omega)
  · have : k = 80 := by omega
    subst this
    have hI : I' = cpI (up I 12 0 28 ((I 12 0 28) + 1)) (fun _ => -1) := hI
    rw [hI]
    exact copyView42_ev hA hR (by omega) hv o0 o1 80 0 _ I1 (hB1.cp (fun _ => by omega)) (by omega) (by omega) h1
end RA
end
