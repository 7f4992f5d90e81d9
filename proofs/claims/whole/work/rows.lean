section
-- ===== PART A: goes FIRST, ahead of the names: the tables' words, and 'selects' of the private methods out of them =====
/-- a private method of a class that the tables say can be made, by its rows of tables_1 -/
def lw_okq (q : MethodName × Nat) : Prop := (q.1.cls ≠ "java/lang/invoke/MethodHandle" ∧ q.1.cls ≠ "java/lang/invoke/VarHandle") ∧ Cond.instantiable q.1.cls q.2 ∈ tables_1 ∧ Cond.privateMethod q.1 ∈ tables_1 ∧ Cond.instanceMethod q.1 ∈ tables_1
theorem lw_p0 : lw_okq (⟨"Slicehouse$Worker", "begin", "()V"⟩, 18) := ⟨⟨by decide +kernel, by decide +kernel⟩, List.mem_of_getElem? (i := 156) (by decide +kernel), List.mem_of_getElem? (i := 383) (by decide +kernel), List.mem_of_getElem? (i := 384) (by decide +kernel)⟩
theorem lw_p1 : lw_okq (⟨"Slicehouse$Worker", "beginMoment", "(I)V"⟩, 18) := ⟨⟨by decide +kernel, by decide +kernel⟩, List.mem_of_getElem? (i := 156) (by decide +kernel), List.mem_of_getElem? (i := 415) (by decide +kernel), List.mem_of_getElem? (i := 416) (by decide +kernel)⟩
theorem lw_p2 : lw_okq (⟨"Slicehouse$Worker", "leastCount", "(I)I"⟩, 18) := ⟨⟨by decide +kernel, by decide +kernel⟩, List.mem_of_getElem? (i := 156) (by decide +kernel), List.mem_of_getElem? (i := 435) (by decide +kernel), List.mem_of_getElem? (i := 436) (by decide +kernel)⟩
theorem lw_p3 : lw_okq (⟨"Slicehouse$Worker", "welcome", "(II)V"⟩, 18) := ⟨⟨by decide +kernel, by decide +kernel⟩, List.mem_of_getElem? (i := 156) (by decide +kernel), List.mem_of_getElem? (i := 440) (by decide +kernel), List.mem_of_getElem? (i := 441) (by decide +kernel)⟩
theorem lw_p4 : lw_okq (⟨"Slicehouse$Worker", "usesLevels", "()Z"⟩, 18) := ⟨⟨by decide +kernel, by decide +kernel⟩, List.mem_of_getElem? (i := 156) (by decide +kernel), List.mem_of_getElem? (i := 445) (by decide +kernel), List.mem_of_getElem? (i := 446) (by decide +kernel)⟩
theorem lw_p5 : lw_okq (⟨"Slicehouse$Worker", "endSlice", "()V"⟩, 18) := ⟨⟨by decide +kernel, by decide +kernel⟩, List.mem_of_getElem? (i := 156) (by decide +kernel), List.mem_of_getElem? (i := 454) (by decide +kernel), List.mem_of_getElem? (i := 455) (by decide +kernel)⟩
theorem lw_p6 : lw_okq (⟨"Slicehouse$Worker", "choose", "()V"⟩, 18) := ⟨⟨by decide +kernel, by decide +kernel⟩, List.mem_of_getElem? (i := 156) (by decide +kernel), List.mem_of_getElem? (i := 488) (by decide +kernel), List.mem_of_getElem? (i := 489) (by decide +kernel)⟩
theorem lw_p7 : lw_okq (⟨"Slicehouse$Worker", "drawn", "()I"⟩, 18) := ⟨⟨by decide +kernel, by decide +kernel⟩, List.mem_of_getElem? (i := 156) (by decide +kernel), List.mem_of_getElem? (i := 504) (by decide +kernel), List.mem_of_getElem? (i := 505) (by decide +kernel)⟩
theorem lw_p8 : lw_okq (⟨"Slicehouse$Worker", "leastByKey", "()I"⟩, 18) := ⟨⟨by decide +kernel, by decide +kernel⟩, List.mem_of_getElem? (i := 156) (by decide +kernel), List.mem_of_getElem? (i := 514) (by decide +kernel), List.mem_of_getElem? (i := 515) (by decide +kernel)⟩
theorem lw_p9 : lw_okq (⟨"Slicehouse$Worker", "keyOf", "(I)I"⟩, 18) := ⟨⟨by decide +kernel, by decide +kernel⟩, List.mem_of_getElem? (i := 156) (by decide +kernel), List.mem_of_getElem? (i := 518) (by decide +kernel), List.mem_of_getElem? (i := 519) (by decide +kernel)⟩
theorem lw_p10 : lw_okq (⟨"Slicehouse$Worker", "turnOf", "(I)I"⟩, 18) := ⟨⟨by decide +kernel, by decide +kernel⟩, List.mem_of_getElem? (i := 156) (by decide +kernel), List.mem_of_getElem? (i := 522) (by decide +kernel), List.mem_of_getElem? (i := 523) (by decide +kernel)⟩
theorem lw_p11 : lw_okq (⟨"Slicehouse$Worker", "pass", "(I)V"⟩, 18) := ⟨⟨by decide +kernel, by decide +kernel⟩, List.mem_of_getElem? (i := 156) (by decide +kernel), List.mem_of_getElem? (i := 526) (by decide +kernel), List.mem_of_getElem? (i := 527) (by decide +kernel)⟩
theorem lw_p12 : lw_okq (⟨"Slicehouse$Worker", "countKept", "()V"⟩, 18) := ⟨⟨by decide +kernel, by decide +kernel⟩, List.mem_of_getElem? (i := 156) (by decide +kernel), List.mem_of_getElem? (i := 535) (by decide +kernel), List.mem_of_getElem? (i := 536) (by decide +kernel)⟩
theorem lw_p13 : lw_okq (⟨"Slicehouse$Worker", "workAtChosen", "(I)V"⟩, 18) := ⟨⟨by decide +kernel, by decide +kernel⟩, List.mem_of_getElem? (i := 156) (by decide +kernel), List.mem_of_getElem? (i := 544) (by decide +kernel), List.mem_of_getElem? (i := 545) (by decide +kernel)⟩
theorem lw_p14 : lw_okq (⟨"Slicehouse$Pair", "least", "(ZI)I"⟩, 2) := ⟨⟨by decide +kernel, by decide +kernel⟩, List.mem_of_getElem? (i := 330) (by decide +kernel), List.mem_of_getElem? (i := 568) (by decide +kernel), List.mem_of_getElem? (i := 569) (by decide +kernel)⟩
theorem lw_p15 : lw_okq (⟨"Slicehouse", "haveRulesSameBusyTime", "()Z"⟩, 8) := ⟨⟨by decide +kernel, by decide +kernel⟩, List.mem_of_getElem? (i := 24) (by decide +kernel), List.mem_of_getElem? (i := 596) (by decide +kernel), List.mem_of_getElem? (i := 597) (by decide +kernel)⟩
def lw_privs_1 : List (MethodName × Nat) := [(⟨"Slicehouse$Worker", "begin", "()V"⟩, 18), (⟨"Slicehouse$Worker", "beginMoment", "(I)V"⟩, 18), (⟨"Slicehouse$Worker", "leastCount", "(I)I"⟩, 18), (⟨"Slicehouse$Worker", "welcome", "(II)V"⟩, 18), (⟨"Slicehouse$Worker", "usesLevels", "()Z"⟩, 18), (⟨"Slicehouse$Worker", "endSlice", "()V"⟩, 18), (⟨"Slicehouse$Worker", "choose", "()V"⟩, 18), (⟨"Slicehouse$Worker", "drawn", "()I"⟩, 18), (⟨"Slicehouse$Worker", "leastByKey", "()I"⟩, 18), (⟨"Slicehouse$Worker", "keyOf", "(I)I"⟩, 18), (⟨"Slicehouse$Worker", "turnOf", "(I)I"⟩, 18), (⟨"Slicehouse$Worker", "pass", "(I)V"⟩, 18), (⟨"Slicehouse$Worker", "countKept", "()V"⟩, 18), (⟨"Slicehouse$Worker", "workAtChosen", "(I)V"⟩, 18), (⟨"Slicehouse$Pair", "least", "(ZI)I"⟩, 2), (⟨"Slicehouse", "haveRulesSameBusyTime", "()Z"⟩, 8)]
theorem lw_r1 : ∀ q ∈ lw_privs_1, lw_okq q := List.forall_mem_cons.mpr ⟨lw_p0, List.forall_mem_cons.mpr ⟨lw_p1, List.forall_mem_cons.mpr ⟨lw_p2, List.forall_mem_cons.mpr ⟨lw_p3, List.forall_mem_cons.mpr ⟨lw_p4, List.forall_mem_cons.mpr ⟨lw_p5, List.forall_mem_cons.mpr ⟨lw_p6, List.forall_mem_cons.mpr ⟨lw_p7, List.forall_mem_cons.mpr ⟨lw_p8, List.forall_mem_cons.mpr ⟨lw_p9, List.forall_mem_cons.mpr ⟨lw_p10, List.forall_mem_cons.mpr ⟨lw_p11, List.forall_mem_cons.mpr ⟨lw_p12, List.forall_mem_cons.mpr ⟨lw_p13, List.forall_mem_cons.mpr ⟨lw_p14, List.forall_mem_cons.mpr ⟨lw_p15, fun _ h => absurd h List.not_mem_nil⟩⟩⟩⟩⟩⟩⟩⟩⟩⟩⟩⟩⟩⟩⟩⟩
theorem lw_p16 : lw_okq (⟨"Slicehouse", "keepsDeadlines", "(I)Z"⟩, 8) := ⟨⟨by decide +kernel, by decide +kernel⟩, List.mem_of_getElem? (i := 24) (by decide +kernel), List.mem_of_getElem? (i := 614) (by decide +kernel), List.mem_of_getElem? (i := 615) (by decide +kernel)⟩
theorem lw_p17 : lw_okq (⟨"Slicehouse", "hasLeastLeftLeastEnds", "()Z"⟩, 8) := ⟨⟨by decide +kernel, by decide +kernel⟩, List.mem_of_getElem? (i := 24) (by decide +kernel), List.mem_of_getElem? (i := 618) (by decide +kernel), List.mem_of_getElem? (i := 619) (by decide +kernel)⟩
theorem lw_p18 : lw_okq (⟨"Slicehouse", "doesSomeRuleKeepDeadlines", "()Z"⟩, 8) := ⟨⟨by decide +kernel, by decide +kernel⟩, List.mem_of_getElem? (i := 24) (by decide +kernel), List.mem_of_getElem? (i := 622) (by decide +kernel), List.mem_of_getElem? (i := 623) (by decide +kernel)⟩
theorem lw_p19 : lw_okq (⟨"java/lang/Throwable", "fillInStackTrace", "(I)Ljava/lang/Throwable;"⟩, 6) := ⟨⟨by decide +kernel, by decide +kernel⟩, List.mem_of_getElem? (i := 672) (by decide +kernel), List.mem_of_getElem? (i := 670) (by decide +kernel), List.mem_of_getElem? (i := 671) (by decide +kernel)⟩
theorem lw_p20 : lw_okq (⟨"Slicehouse", "isRingFair", "()Z"⟩, 8) := ⟨⟨by decide +kernel, by decide +kernel⟩, List.mem_of_getElem? (i := 24) (by decide +kernel), List.mem_of_getElem? (i := 707) (by decide +kernel), List.mem_of_getElem? (i := 708) (by decide +kernel)⟩
theorem lw_p21 : lw_okq (⟨"Slicehouse", "isHighestFreeInTime", "()Z"⟩, 8) := ⟨⟨by decide +kernel, by decide +kernel⟩, List.mem_of_getElem? (i := 24) (by decide +kernel), List.mem_of_getElem? (i := 719) (by decide +kernel), List.mem_of_getElem? (i := 720) (by decide +kernel)⟩
theorem lw_p22 : lw_okq (⟨"Slicehouse$Jobs", "longestRest", "(II)I"⟩, 11) := ⟨⟨by decide +kernel, by decide +kernel⟩, List.mem_of_getElem? (i := 32) (by decide +kernel), List.mem_of_getElem? (i := 731) (by decide +kernel), List.mem_of_getElem? (i := 732) (by decide +kernel)⟩
theorem lw_p23 : lw_okq (⟨"Slicehouse", "needJob", "(I)V"⟩, 8) := ⟨⟨by decide +kernel, by decide +kernel⟩, List.mem_of_getElem? (i := 24) (by decide +kernel), List.mem_of_getElem? (i := 772) (by decide +kernel), List.mem_of_getElem? (i := 773) (by decide +kernel)⟩
theorem lw_p24 : lw_okq (⟨"Slicehouse", "needMoment", "(I)V"⟩, 8) := ⟨⟨by decide +kernel, by decide +kernel⟩, List.mem_of_getElem? (i := 24) (by decide +kernel), List.mem_of_getElem? (i := 837) (by decide +kernel), List.mem_of_getElem? (i := 838) (by decide +kernel)⟩
theorem lw_p25 : lw_okq (⟨"Slicehouse", "needRun", "()V"⟩, 8) := ⟨⟨by decide +kernel, by decide +kernel⟩, List.mem_of_getElem? (i := 24) (by decide +kernel), List.mem_of_getElem? (i := 841) (by decide +kernel), List.mem_of_getElem? (i := 842) (by decide +kernel)⟩
theorem lw_p26 : lw_okq (⟨"Slicehouse$Course", "beginsBusy", "(I)Z"⟩, 3) := ⟨⟨by decide +kernel, by decide +kernel⟩, List.mem_of_getElem? (i := 228) (by decide +kernel), List.mem_of_getElem? (i := 919) (by decide +kernel), List.mem_of_getElem? (i := 920) (by decide +kernel)⟩
theorem lw_p27 : lw_okq (⟨"Slicehouse$Tasks", "goesAhead", "(II)Z"⟩, 4) := ⟨⟨by decide +kernel, by decide +kernel⟩, List.mem_of_getElem? (i := 102) (by decide +kernel), List.mem_of_getElem? (i := 999) (by decide +kernel), List.mem_of_getElem? (i := 1000) (by decide +kernel)⟩
theorem lw_p28 : lw_okq (⟨"SlicehouseModel", "refuse", "(I)I"⟩, 43) := ⟨⟨by decide +kernel, by decide +kernel⟩, List.mem_of_getElem? (i := 1021) (by decide +kernel), List.mem_of_getElem? (i := 1169) (by decide +kernel), List.mem_of_getElem? (i := 1170) (by decide +kernel)⟩
theorem lw_p29 : lw_okq (⟨"SlicehouseModel", "changed", "(I)I"⟩, 43) := ⟨⟨by decide +kernel, by decide +kernel⟩, List.mem_of_getElem? (i := 1021) (by decide +kernel), List.mem_of_getElem? (i := 1173) (by decide +kernel), List.mem_of_getElem? (i := 1174) (by decide +kernel)⟩
theorem lw_p30 : lw_okq (⟨"SlicehouseModel", "told", "(I)I"⟩, 43) := ⟨⟨by decide +kernel, by decide +kernel⟩, List.mem_of_getElem? (i := 1021) (by decide +kernel), List.mem_of_getElem? (i := 1177) (by decide +kernel), List.mem_of_getElem? (i := 1178) (by decide +kernel)⟩
theorem lw_p31 : lw_okq (⟨"SlicehouseModel", "isJob", "(I)Z"⟩, 43) := ⟨⟨by decide +kernel, by decide +kernel⟩, List.mem_of_getElem? (i := 1021) (by decide +kernel), List.mem_of_getElem? (i := 1185) (by decide +kernel), List.mem_of_getElem? (i := 1186) (by decide +kernel)⟩
def lw_privs_2 : List (MethodName × Nat) := [(⟨"Slicehouse", "keepsDeadlines", "(I)Z"⟩, 8), (⟨"Slicehouse", "hasLeastLeftLeastEnds", "()Z"⟩, 8), (⟨"Slicehouse", "doesSomeRuleKeepDeadlines", "()Z"⟩, 8), (⟨"java/lang/Throwable", "fillInStackTrace", "(I)Ljava/lang/Throwable;"⟩, 6), (⟨"Slicehouse", "isRingFair", "()Z"⟩, 8), (⟨"Slicehouse", "isHighestFreeInTime", "()Z"⟩, 8), (⟨"Slicehouse$Jobs", "longestRest", "(II)I"⟩, 11), (⟨"Slicehouse", "needJob", "(I)V"⟩, 8), (⟨"Slicehouse", "needMoment", "(I)V"⟩, 8), (⟨"Slicehouse", "needRun", "()V"⟩, 8), (⟨"Slicehouse$Course", "beginsBusy", "(I)Z"⟩, 3), (⟨"Slicehouse$Tasks", "goesAhead", "(II)Z"⟩, 4), (⟨"SlicehouseModel", "refuse", "(I)I"⟩, 43), (⟨"SlicehouseModel", "changed", "(I)I"⟩, 43), (⟨"SlicehouseModel", "told", "(I)I"⟩, 43), (⟨"SlicehouseModel", "isJob", "(I)Z"⟩, 43)]
theorem lw_r2 : ∀ q ∈ lw_privs_2, lw_okq q := List.forall_mem_cons.mpr ⟨lw_p16, List.forall_mem_cons.mpr ⟨lw_p17, List.forall_mem_cons.mpr ⟨lw_p18, List.forall_mem_cons.mpr ⟨lw_p19, List.forall_mem_cons.mpr ⟨lw_p20, List.forall_mem_cons.mpr ⟨lw_p21, List.forall_mem_cons.mpr ⟨lw_p22, List.forall_mem_cons.mpr ⟨lw_p23, List.forall_mem_cons.mpr ⟨lw_p24, List.forall_mem_cons.mpr ⟨lw_p25, List.forall_mem_cons.mpr ⟨lw_p26, List.forall_mem_cons.mpr ⟨lw_p27, List.forall_mem_cons.mpr ⟨lw_p28, List.forall_mem_cons.mpr ⟨lw_p29, List.forall_mem_cons.mpr ⟨lw_p30, List.forall_mem_cons.mpr ⟨lw_p31, fun _ h => absurd h List.not_mem_nil⟩⟩⟩⟩⟩⟩⟩⟩⟩⟩⟩⟩⟩⟩⟩⟩
theorem lw_p32 : lw_okq (⟨"SlicehouseModel", "runs", "(IIIZ)V"⟩, 43) := ⟨⟨by decide +kernel, by decide +kernel⟩, List.mem_of_getElem? (i := 1021) (by decide +kernel), List.mem_of_getElem? (i := 1208) (by decide +kernel), List.mem_of_getElem? (i := 1209) (by decide +kernel)⟩
theorem lw_p33 : lw_okq (⟨"SlicehouseModel", "begins", "()V"⟩, 43) := ⟨⟨by decide +kernel, by decide +kernel⟩, List.mem_of_getElem? (i := 1021) (by decide +kernel), List.mem_of_getElem? (i := 1212) (by decide +kernel), List.mem_of_getElem? (i := 1213) (by decide +kernel)⟩
theorem lw_p34 : lw_okq (⟨"SlicehouseModel", "rises", "()V"⟩, 43) := ⟨⟨by decide +kernel, by decide +kernel⟩, List.mem_of_getElem? (i := 1021) (by decide +kernel), List.mem_of_getElem? (i := 1216) (by decide +kernel), List.mem_of_getElem? (i := 1217) (by decide +kernel)⟩
theorem lw_p35 : lw_okq (⟨"SlicehouseModel", "takes", "(I)I"⟩, 43) := ⟨⟨by decide +kernel, by decide +kernel⟩, List.mem_of_getElem? (i := 1021) (by decide +kernel), List.mem_of_getElem? (i := 1220) (by decide +kernel), List.mem_of_getElem? (i := 1221) (by decide +kernel)⟩
theorem lw_p36 : lw_okq (⟨"SlicehouseModel", "joins", "(II)V"⟩, 43) := ⟨⟨by decide +kernel, by decide +kernel⟩, List.mem_of_getElem? (i := 1021) (by decide +kernel), List.mem_of_getElem? (i := 1224) (by decide +kernel), List.mem_of_getElem? (i := 1225) (by decide +kernel)⟩
theorem lw_p37 : lw_okq (⟨"SlicehouseModel", "becomesReady", "(II)V"⟩, 43) := ⟨⟨by decide +kernel, by decide +kernel⟩, List.mem_of_getElem? (i := 1021) (by decide +kernel), List.mem_of_getElem? (i := 1228) (by decide +kernel), List.mem_of_getElem? (i := 1229) (by decide +kernel)⟩
theorem lw_p38 : lw_okq (⟨"SlicehouseModel", "canBegin", "(II)Z"⟩, 43) := ⟨⟨by decide +kernel, by decide +kernel⟩, List.mem_of_getElem? (i := 1021) (by decide +kernel), List.mem_of_getElem? (i := 1232) (by decide +kernel), List.mem_of_getElem? (i := 1233) (by decide +kernel)⟩
theorem lw_p39 : lw_okq (⟨"SlicehouseModel", "leastCount", "(I)I"⟩, 43) := ⟨⟨by decide +kernel, by decide +kernel⟩, List.mem_of_getElem? (i := 1021) (by decide +kernel), List.mem_of_getElem? (i := 1236) (by decide +kernel), List.mem_of_getElem? (i := 1237) (by decide +kernel)⟩
theorem lw_p40 : lw_okq (⟨"SlicehouseModel", "chooses", "(IZ)I"⟩, 43) := ⟨⟨by decide +kernel, by decide +kernel⟩, List.mem_of_getElem? (i := 1021) (by decide +kernel), List.mem_of_getElem? (i := 1240) (by decide +kernel), List.mem_of_getElem? (i := 1241) (by decide +kernel)⟩
theorem lw_p41 : lw_okq (⟨"SlicehouseModel", "isThere", "(I)Z"⟩, 43) := ⟨⟨by decide +kernel, by decide +kernel⟩, List.mem_of_getElem? (i := 1021) (by decide +kernel), List.mem_of_getElem? (i := 1244) (by decide +kernel), List.mem_of_getElem? (i := 1245) (by decide +kernel)⟩
theorem lw_p42 : lw_okq (⟨"SlicehouseModel", "keeper", "(I)I"⟩, 43) := ⟨⟨by decide +kernel, by decide +kernel⟩, List.mem_of_getElem? (i := 1021) (by decide +kernel), List.mem_of_getElem? (i := 1248) (by decide +kernel), List.mem_of_getElem? (i := 1249) (by decide +kernel)⟩
theorem lw_p43 : lw_okq (⟨"SlicehouseModel", "needs", "(I)I"⟩, 43) := ⟨⟨by decide +kernel, by decide +kernel⟩, List.mem_of_getElem? (i := 1021) (by decide +kernel), List.mem_of_getElem? (i := 1252) (by decide +kernel), List.mem_of_getElem? (i := 1253) (by decide +kernel)⟩
theorem lw_p44 : lw_okq (⟨"SlicehouseModel", "has", "(II)Z"⟩, 43) := ⟨⟨by decide +kernel, by decide +kernel⟩, List.mem_of_getElem? (i := 1021) (by decide +kernel), List.mem_of_getElem? (i := 1256) (by decide +kernel), List.mem_of_getElem? (i := 1257) (by decide +kernel)⟩
theorem lw_p45 : lw_okq (⟨"SlicehouseModel", "keyOf", "(IIZ)I"⟩, 43) := ⟨⟨by decide +kernel, by decide +kernel⟩, List.mem_of_getElem? (i := 1021) (by decide +kernel), List.mem_of_getElem? (i := 1260) (by decide +kernel), List.mem_of_getElem? (i := 1261) (by decide +kernel)⟩
theorem lw_p46 : lw_okq (⟨"SlicehouseModel", "rankOf", "(IZ)I"⟩, 43) := ⟨⟨by decide +kernel, by decide +kernel⟩, List.mem_of_getElem? (i := 1021) (by decide +kernel), List.mem_of_getElem? (i := 1264) (by decide +kernel), List.mem_of_getElem? (i := 1265) (by decide +kernel)⟩
theorem lw_p47 : lw_okq (⟨"SlicehouseModel", "drawnJob", "()I"⟩, 43) := ⟨⟨by decide +kernel, by decide +kernel⟩, List.mem_of_getElem? (i := 1021) (by decide +kernel), List.mem_of_getElem? (i := 1268) (by decide +kernel), List.mem_of_getElem? (i := 1269) (by decide +kernel)⟩
def lw_privs_3 : List (MethodName × Nat) := [(⟨"SlicehouseModel", "runs", "(IIIZ)V"⟩, 43), (⟨"SlicehouseModel", "begins", "()V"⟩, 43), (⟨"SlicehouseModel", "rises", "()V"⟩, 43), (⟨"SlicehouseModel", "takes", "(I)I"⟩, 43), (⟨"SlicehouseModel", "joins", "(II)V"⟩, 43), (⟨"SlicehouseModel", "becomesReady", "(II)V"⟩, 43), (⟨"SlicehouseModel", "canBegin", "(II)Z"⟩, 43), (⟨"SlicehouseModel", "leastCount", "(I)I"⟩, 43), (⟨"SlicehouseModel", "chooses", "(IZ)I"⟩, 43), (⟨"SlicehouseModel", "isThere", "(I)Z"⟩, 43), (⟨"SlicehouseModel", "keeper", "(I)I"⟩, 43), (⟨"SlicehouseModel", "needs", "(I)I"⟩, 43), (⟨"SlicehouseModel", "has", "(II)Z"⟩, 43), (⟨"SlicehouseModel", "keyOf", "(IIZ)I"⟩, 43), (⟨"SlicehouseModel", "rankOf", "(IZ)I"⟩, 43), (⟨"SlicehouseModel", "drawnJob", "()I"⟩, 43)]
theorem lw_r3 : ∀ q ∈ lw_privs_3, lw_okq q := List.forall_mem_cons.mpr ⟨lw_p32, List.forall_mem_cons.mpr ⟨lw_p33, List.forall_mem_cons.mpr ⟨lw_p34, List.forall_mem_cons.mpr ⟨lw_p35, List.forall_mem_cons.mpr ⟨lw_p36, List.forall_mem_cons.mpr ⟨lw_p37, List.forall_mem_cons.mpr ⟨lw_p38, List.forall_mem_cons.mpr ⟨lw_p39, List.forall_mem_cons.mpr ⟨lw_p40, List.forall_mem_cons.mpr ⟨lw_p41, List.forall_mem_cons.mpr ⟨lw_p42, List.forall_mem_cons.mpr ⟨lw_p43, List.forall_mem_cons.mpr ⟨lw_p44, List.forall_mem_cons.mpr ⟨lw_p45, List.forall_mem_cons.mpr ⟨lw_p46, List.forall_mem_cons.mpr ⟨lw_p47, fun _ h => absurd h List.not_mem_nil⟩⟩⟩⟩⟩⟩⟩⟩⟩⟩⟩⟩⟩⟩⟩⟩
theorem lw_p48 : lw_okq (⟨"SlicehouseModel", "draws", "(I)I"⟩, 43) := ⟨⟨by decide +kernel, by decide +kernel⟩, List.mem_of_getElem? (i := 1021) (by decide +kernel), List.mem_of_getElem? (i := 1272) (by decide +kernel), List.mem_of_getElem? (i := 1273) (by decide +kernel)⟩
theorem lw_p49 : lw_okq (⟨"SlicehouseModel", "turnOf", "(III)I"⟩, 43) := ⟨⟨by decide +kernel, by decide +kernel⟩, List.mem_of_getElem? (i := 1021) (by decide +kernel), List.mem_of_getElem? (i := 1277) (by decide +kernel), List.mem_of_getElem? (i := 1278) (by decide +kernel)⟩
theorem lw_p50 : lw_okq (⟨"SlicehouseModel", "keepsWaiting", "(I)V"⟩, 43) := ⟨⟨by decide +kernel, by decide +kernel⟩, List.mem_of_getElem? (i := 1021) (by decide +kernel), List.mem_of_getElem? (i := 1281) (by decide +kernel), List.mem_of_getElem? (i := 1282) (by decide +kernel)⟩
theorem lw_p51 : lw_okq (⟨"SlicehouseModel", "isRun", "()Z"⟩, 43) := ⟨⟨by decide +kernel, by decide +kernel⟩, List.mem_of_getElem? (i := 1021) (by decide +kernel), List.mem_of_getElem? (i := 1289) (by decide +kernel), List.mem_of_getElem? (i := 1290) (by decide +kernel)⟩
theorem lw_p52 : lw_okq (⟨"SlicehouseModel", "atMoment", "(I)I"⟩, 43) := ⟨⟨by decide +kernel, by decide +kernel⟩, List.mem_of_getElem? (i := 1021) (by decide +kernel), List.mem_of_getElem? (i := 1293) (by decide +kernel), List.mem_of_getElem? (i := 1294) (by decide +kernel)⟩
theorem lw_p53 : lw_okq (⟨"SlicehouseModel", "leftOf", "(II)I"⟩, 43) := ⟨⟨by decide +kernel, by decide +kernel⟩, List.mem_of_getElem? (i := 1021) (by decide +kernel), List.mem_of_getElem? (i := 1301) (by decide +kernel), List.mem_of_getElem? (i := 1302) (by decide +kernel)⟩
theorem lw_p54 : lw_okq (⟨"SlicehouseModel", "sumOf", "()I"⟩, 43) := ⟨⟨by decide +kernel, by decide +kernel⟩, List.mem_of_getElem? (i := 1021) (by decide +kernel), List.mem_of_getElem? (i := 1317) (by decide +kernel), List.mem_of_getElem? (i := 1318) (by decide +kernel)⟩
theorem lw_p55 : lw_okq (⟨"SlicehouseModel", "isLikeLatest", "()Z"⟩, 43) := ⟨⟨by decide +kernel, by decide +kernel⟩, List.mem_of_getElem? (i := 1021) (by decide +kernel), List.mem_of_getElem? (i := 1355) (by decide +kernel), List.mem_of_getElem? (i := 1356) (by decide +kernel)⟩
theorem lw_p56 : lw_okq (⟨"SlicehouseModel", "sumOfWork", "()I"⟩, 43) := ⟨⟨by decide +kernel, by decide +kernel⟩, List.mem_of_getElem? (i := 1021) (by decide +kernel), List.mem_of_getElem? (i := 1363) (by decide +kernel), List.mem_of_getElem? (i := 1364) (by decide +kernel)⟩
theorem lw_p57 : lw_okq (⟨"SlicehouseModel", "works", "(II)V"⟩, 43) := ⟨⟨by decide +kernel, by decide +kernel⟩, List.mem_of_getElem? (i := 1021) (by decide +kernel), List.mem_of_getElem? (i := 1371) (by decide +kernel), List.mem_of_getElem? (i := 1372) (by decide +kernel)⟩
theorem lw_p58 : lw_okq (⟨"SlicehouseModel", "isAnyWaiting", "()Z"⟩, 43) := ⟨⟨by decide +kernel, by decide +kernel⟩, List.mem_of_getElem? (i := 1021) (by decide +kernel), List.mem_of_getElem? (i := 1379) (by decide +kernel), List.mem_of_getElem? (i := 1380) (by decide +kernel)⟩
theorem lw_p59 : lw_okq (⟨"SlicehouseModel", "denies", "(I)Z"⟩, 43) := ⟨⟨by decide +kernel, by decide +kernel⟩, List.mem_of_getElem? (i := 1021) (by decide +kernel), List.mem_of_getElem? (i := 1383) (by decide +kernel), List.mem_of_getElem? (i := 1384) (by decide +kernel)⟩
theorem lw_p60 : lw_okq (⟨"SlicehouseModel", "areKept", "()Z"⟩, 43) := ⟨⟨by decide +kernel, by decide +kernel⟩, List.mem_of_getElem? (i := 1021) (by decide +kernel), List.mem_of_getElem? (i := 1387) (by decide +kernel), List.mem_of_getElem? (i := 1388) (by decide +kernel)⟩
theorem lw_p61 : lw_okq (⟨"SlicehouseModel", "isAnyFull", "()Z"⟩, 43) := ⟨⟨by decide +kernel, by decide +kernel⟩, List.mem_of_getElem? (i := 1021) (by decide +kernel), List.mem_of_getElem? (i := 1395) (by decide +kernel), List.mem_of_getElem? (i := 1396) (by decide +kernel)⟩
theorem lw_p62 : lw_okq (⟨"SlicehouseModel", "workWithin", "(II)I"⟩, 43) := ⟨⟨by decide +kernel, by decide +kernel⟩, List.mem_of_getElem? (i := 1021) (by decide +kernel), List.mem_of_getElem? (i := 1399) (by decide +kernel), List.mem_of_getElem? (i := 1400) (by decide +kernel)⟩
theorem lw_p63 : lw_okq (⟨"SlicehouseModel", "isLikeBusy", "()Z"⟩, 43) := ⟨⟨by decide +kernel, by decide +kernel⟩, List.mem_of_getElem? (i := 1021) (by decide +kernel), List.mem_of_getElem? (i := 1427) (by decide +kernel), List.mem_of_getElem? (i := 1428) (by decide +kernel)⟩
def lw_privs_4 : List (MethodName × Nat) := [(⟨"SlicehouseModel", "draws", "(I)I"⟩, 43), (⟨"SlicehouseModel", "turnOf", "(III)I"⟩, 43), (⟨"SlicehouseModel", "keepsWaiting", "(I)V"⟩, 43), (⟨"SlicehouseModel", "isRun", "()Z"⟩, 43), (⟨"SlicehouseModel", "atMoment", "(I)I"⟩, 43), (⟨"SlicehouseModel", "leftOf", "(II)I"⟩, 43), (⟨"SlicehouseModel", "sumOf", "()I"⟩, 43), (⟨"SlicehouseModel", "isLikeLatest", "()Z"⟩, 43), (⟨"SlicehouseModel", "sumOfWork", "()I"⟩, 43), (⟨"SlicehouseModel", "works", "(II)V"⟩, 43), (⟨"SlicehouseModel", "isAnyWaiting", "()Z"⟩, 43), (⟨"SlicehouseModel", "denies", "(I)Z"⟩, 43), (⟨"SlicehouseModel", "areKept", "()Z"⟩, 43), (⟨"SlicehouseModel", "isAnyFull", "()Z"⟩, 43), (⟨"SlicehouseModel", "workWithin", "(II)I"⟩, 43), (⟨"SlicehouseModel", "isLikeBusy", "()Z"⟩, 43)]
theorem lw_r4 : ∀ q ∈ lw_privs_4, lw_okq q := List.forall_mem_cons.mpr ⟨lw_p48, List.forall_mem_cons.mpr ⟨lw_p49, List.forall_mem_cons.mpr ⟨lw_p50, List.forall_mem_cons.mpr ⟨lw_p51, List.forall_mem_cons.mpr ⟨lw_p52, List.forall_mem_cons.mpr ⟨lw_p53, List.forall_mem_cons.mpr ⟨lw_p54, List.forall_mem_cons.mpr ⟨lw_p55, List.forall_mem_cons.mpr ⟨lw_p56, List.forall_mem_cons.mpr ⟨lw_p57, List.forall_mem_cons.mpr ⟨lw_p58, List.forall_mem_cons.mpr ⟨lw_p59, List.forall_mem_cons.mpr ⟨lw_p60, List.forall_mem_cons.mpr ⟨lw_p61, List.forall_mem_cons.mpr ⟨lw_p62, List.forall_mem_cons.mpr ⟨lw_p63, fun _ h => absurd h List.not_mem_nil⟩⟩⟩⟩⟩⟩⟩⟩⟩⟩⟩⟩⟩⟩⟩⟩
theorem lw_p64 : lw_okq (⟨"SlicehouseModel", "lentErrors", "()I"⟩, 43) := ⟨⟨by decide +kernel, by decide +kernel⟩, List.mem_of_getElem? (i := 1021) (by decide +kernel), List.mem_of_getElem? (i := 1431) (by decide +kernel), List.mem_of_getElem? (i := 1432) (by decide +kernel)⟩
theorem lw_p65 : lw_okq (⟨"SlicehouseModel", "longestFor", "(II)I"⟩, 43) := ⟨⟨by decide +kernel, by decide +kernel⟩, List.mem_of_getElem? (i := 1021) (by decide +kernel), List.mem_of_getElem? (i := 1435) (by decide +kernel), List.mem_of_getElem? (i := 1436) (by decide +kernel)⟩
def lw_privs_5 : List (MethodName × Nat) := [(⟨"SlicehouseModel", "lentErrors", "()I"⟩, 43), (⟨"SlicehouseModel", "longestFor", "(II)I"⟩, 43)]
theorem lw_r5 : ∀ q ∈ lw_privs_5, lw_okq q := List.forall_mem_cons.mpr ⟨lw_p64, List.forall_mem_cons.mpr ⟨lw_p65, fun _ h => absurd h List.not_mem_nil⟩⟩
def lw_privs : List (MethodName × Nat) := lw_privs_1 ++ (lw_privs_2 ++ (lw_privs_3 ++ (lw_privs_4 ++ (lw_privs_5))))
def lw_tbl : List Cond := k2_sels lw_privs ++ tables_1
theorem lw_privs_ok : ∀ q ∈ lw_privs, lw_okq q := by
  show ∀ q ∈ lw_privs_1 ++ (lw_privs_2 ++ (lw_privs_3 ++ (lw_privs_4 ++ (lw_privs_5)))), lw_okq q
  exact List.forall_mem_append.mpr ⟨lw_r1, List.forall_mem_append.mpr ⟨lw_r2, List.forall_mem_append.mpr ⟨lw_r3, List.forall_mem_append.mpr ⟨lw_r4, lw_r5⟩⟩⟩⟩
/-- the streams that the claim lets the run draw from -/
abbrev lw_cs : List Choice := [Jvm.Choice.named "NaN.bits"]
theorem lw_bits : nanBits ∈ lw_cs := by first | decide | exact List.mem_cons_self | simp [lw_cs, nanBits]
-- ===== end of PART A; then your names; then what follows =====
end
section
theorem zz_zero : True := trivial
end
section
/-! ===== BEGIN words of one list among another's, by their places ===== -/
theorem goodIn_r {big : List Cond} (ws : List Cond) (ps : List Nat) (hp : ws = ps.filterMap (fun i => big[i]?)) (h : ws.all goodWord = true) : GoodIn big ws := by
  intro w hw
  have h1 := List.all_eq_true.mp h w hw
  rw [hp] at hw
  obtain ⟨i, -, hi⟩ := List.mem_filterMap.mp hw
  have hm : w ∈ big := by first | exact List.mem_of_getElem? hi | exact List.getElem?_mem hi
  exact ⟨hm, good_of_word h1⟩
theorem goodIn_app {big a b : List Cond} (ha : GoodIn big a) (hb : GoodIn big b) : GoodIn big (a ++ b) := fun w h => (List.mem_append.mp h).elim (ha w) (hb w)
theorem goodIn_ca {big a b : List Cond} {c : Cond} (ha : GoodIn big (c :: a)) (hb : GoodIn big b) : GoodIn big (c :: (a ++ b)) := fun w h => (List.mem_cons.mp h).elim (fun e => ha w (List.mem_cons.mpr (Or.inl e))) (fun h => (List.mem_append.mp h).elim (fun h => ha w (List.mem_cons.mpr (Or.inr h))) (hb w))
theorem goodIn_sub {big ws : List Cond} (hm : ∀ w ∈ ws, w ∈ big) (h : ws.all goodWord = true) : GoodIn big ws := fun w hw => ⟨hm w hw, good_of_word (List.all_eq_true.mp h w hw)⟩
/-! ===== END ===== -/

/-! ===== BEGIN exceptions that leave a method, and their catching by the caller (launches without stack traces) ===== -/
section VXA
/-! The laws vx_back, vx_callV, vx_callS, vx_callSW, vx_throw0, vx_throwS follow proofs of the library, with one case more: JvmDerived/Free/Laws.lean (Back.of_free), Shelf42/LK1.lean (callV, callS), Shelf/KitTraced.lean (throwNew0V, throwNewS). -/
/-- where a method has thrown q: the class by its name, the cell, what was written, the world -/
def vx_T (XC : String → State → State → Prop) (st : State) (q : Addr) (t : State) (mc ms : Nat) (free : Addr → Prop) : Prop :=
  ∃ (E : String) (ce : Cell) (L : List Loc), XC E st t ∧ t.heap[q]? = some ce ∧ ce.vm = .none ∧ st.vm.findClass E = some ce.cls ∧ st.WarmedH t.vm ∧ st.sameButNew ({ t with vm := st.vm } : State) L mc ms ∧ ∀ z ∈ L, free z.base
def vx_Q (Qc : Array Value → State → Outcome → State → Prop) (XC : String → State → State → Prop) (mc ms : Nat) (free : Addr → Prop) : Array Value → State → Outcome → State → Prop := fun a st o t =>
  (Qc a st o t ∧ ∃ L, FrameEnd st o t L mc ms ∧ ∀ q ∈ L, free q.base) ∨ ∃ q, o = .threw q ∧ vx_T XC st q t mc ms free
/-- a callee that returns or throws -/
def vx_Met (l : Launch) (y : MethodName) (ws : List Cond) (rm : Room) (Pc : Array Value → State → Prop) (Qc : Array Value → State → Outcome → State → Prop) (XC : String → State → State → Prop) (mc ms : Nat) (free : Addr → Prop) : Prop :=
  MetFree l y (headSpec ws rm) Pc (fun _ _ _ _ _ => True) (vx_Q Qc XC mc ms free)
def vx_Post (XC : String → State → State → Prop) (mc ms : Nat) (free : Addr → Prop) : Pt → Array Value → Addr → Pt → Prop := fun A a q B =>
  ∃ (g : JFrame) (mk : MethodId) (t : State) (L : List Loc) (E : String) (ce : Cell), B.U.heap = t.heap ∧ B.U.vm = t.vm ∧ XC E (A.U.calling g mk a) t ∧ t.heap[q]? = some ce ∧ ce.vm = .none ∧ A.U.vm.findClass E = some ce.cls ∧ B.locs = A.locs ++ L ∧ (∀ z ∈ L, free z.base) ∧ B.cells = A.cells + mc ∧ B.slots = A.slots + ms
def vx_Back (l : Launch) (R : Room) (p : Program) (e : Env) (below : List Frame) (s : State) (sargs : Array Value) (y : MethodName) (len W9 : Nat)
    (Pre : Pt → Array Value → Prop) (Post : Pt → Array Value → Option Value → Pt → Prop) (PostX : Pt → Array Value → Addr → Pt → Prop) : Prop :=
  ∀ (m : MethodId) (meth : Method) (c : Code) (A : Pt) (g : JFrame) (ig : Instr) (mk : MethodId) (a : Array Value),
    Stand p l e R s m sargs below meth c A.U A.locs A.cells A.slots → g.method = m → g.locals.size = c.maxLocals → decode c.code g.pc = .ok (ig, len) →
    2 * g.monitorRoom + (g.stack.map fun v => v.category).sum ≤ W9 → A.U.methodNamed? y = some mk → Pre A a →
    (∃ (v : Option Value) (B : Pt), Stand p l e R s m sargs below meth c B.U B.locs B.cells B.slots ∧ Post A a v B ∧
      Steps p.tables e below (doInvoke e (A.U.setTop g) [] mk a).1 (B.U.setTop { g with pc := g.pc + len, stack := v.toList ++ g.stack })) ∨
    (∃ (q : Addr) (B : Pt), Stand p l e R s m sargs below meth c B.U B.locs B.cells B.slots ∧ PostX A a q B ∧
      Steps p.tables e below (doInvoke e (A.U.setTop g) [] mk a).1 ((B.U.setTop g).pushFrame (.throwing q)))
section Payer
variable {l : Launch} {R : Room} {p : Program} {e : Env} {below : List Frame} {s : State} {sargs : Array Value} {y : MethodName} {len W9 : Nat}
theorem vx_back {ws : List Cond} {rm : Room} {Pc : Array Value → State → Prop} {Qc : Array Value → State → Outcome → State → Prop} {XC : String → State → State → Prop} {mc ms : Nat} {free : Addr → Prop} {bytes : ByteArray} {maxL : Nat} {ret : Option FieldType}
    (hM : vx_Met l y ws rm Pc Qc XC mc ms free) (hblind : FrameBlind Pc) (hrc : rm.cells = mc) (hrs : rm.slots = ms)
    (hframes : rm.frames + 1 ≤ R.frames) (hlocals : W9 + (maxL + 11) + rm.locals ≤ R.locals)
    (hws : ∀ w ∈ ws, ∀ a' U, s.WarmedH U.vm → w.before a' U = true) (hcode : Cond.code y bytes maxL ret ∈ ws) (hinit : ∀ a' U, s.WarmedH U.vm → (Cond.initialized y.cls).before a' U = true) :
    vx_Back l R p e below s sargs y len W9 (PreOf R mc ms Pc) (PostOf Qc mc ms free) (vx_Post XC mc ms free) := by
  intro m meth c A g ig mk a X hg hsize hdg hW hn hp
  have h1 : (headSpec ws rm).pre.before a A.U = true := atoms_intro fun w hw => hws w hw _ _ X.warmed
  have h2 : (Cond.code y bytes maxL ret).before a A.U = true := hws _ hcode _ _ X.warmed
  have h3 : (Cond.initialized y.cls).before a A.U = true := hinit _ _ X.warmed
  have h4 : A.cells + (headSpec ws rm).room.cells ≤ R.cells := by rw [show (headSpec ws rm).room.cells = mc from hrc]; exact hp.1
  have h5 : A.slots + (headSpec ws rm).room.slots ≤ R.slots := by rw [show (headSpec ws rm).room.slots = ms from hrs]; exact hp.2.1
  have hPc : Pc a (A.U.calling g mk a) := hblind _ _ _ _ hp.2.2
  obtain ⟨U, Ls, c0, s0⟩ := A
  dsimp only [Pt.U, Pt.locs, Pt.cells, Pt.slots] at h1 h2 h3 h4 h5 X hn hPc ⊢
  obtain ⟨methY, cY, hmY, hcY, -, hlY, -, -, -, -⟩ := Cond.code_spec hn h2
  obtain ⟨kY, hkY, -⟩ := className_of_methodNamed hn
  have hinitY : kY.init = .initialized := Cond.initialized_spec (findClass_of_methodNamed hn) hkY h3
  have h : At U g.method c below := by rw [hg]; exact X.here
  have hlocals9 : W9 + (maxL + 11) + (headSpec ws rm).room.locals ≤ R.locals := hlocals
  have happ : (headSpec ws rm).appliesLoose y e.platform (U.calling g mk a) = true :=
    Spec.appliesLoose_calling (g := g) h hdg hn hkY hinitY
      (X.room_calling (g := g) (R' := (headSpec ws rm).room) hsize hmY hcY hframes (by rw [hlY]; omega) h4 h5) h1
  obtain ⟨mid, hmid⟩ := h.above
  have hfr : (U.setTop g).frames = (.java g :: mid) ++ below := by rw [State.frames_setTop' g h.top, hmid]; rfl
  obtain ⟨o, s₂, hsteps, -, hend, hq⟩ := Steps.callFree hM p X.admits X.cas X.clock (acts := []) hfr happ hPc trivial
  have hq' : vx_Q Qc XC mc ms free a (U.calling g mk a) o s₂ := hq
  rw [State.frames_setTop' g h.top] at hend
  obtain ⟨g₀, hg0⟩ := Option.isSome_iff_exists.mp h.top
  obtain ⟨r, hr⟩ := State.topJava?_eq_some.mp hg0
  have hr' : (({ U with heap := s₂.heap, slotsUsed := s₂.slotsUsed } : State).setVm s₂.vm).frames = .java g₀ :: r := hr
  rcases hq' with ⟨hqc, L, hfe, hL⟩ | ⟨q, rfl, E, ce, L, hx, hce, hcv, hcl, hW₂, hsm, hL⟩
  · obtain ⟨⟨v, rfl⟩, hW₂, e2, q2, q3, q4, q5, q6⟩ := id hfe
    have e3 : s₂ = ({ (U.calling g mk a).setFrames s₂.frames with heap := s₂.heap, slotsUsed := s₂.slotsUsed } : State).setVm s₂.vm := by
      have : s₂ = ({ s₂ with vm := (U.calling g mk a).vm } : State).setVm s₂.vm := rfl
      rw [e2] at this
      exact this
    obtain ⟨c₂, i₂, len₂, hc₂, hd₂, hf₂⟩ := hend
    have hW' : U.WarmedH s₂.vm := hW₂
    have hcc : c₂ = c := by
      have h1 : s₂.code? g.method = U.code? g.method := by
        rw [State.code?_eq, State.code?_eq, hW'.alike.method?]
      exact Option.some.inj (hc₂.symm.trans (h1.trans h.code))
    subst hcc
    have hlen : len₂ = len := by rw [hdg] at hd₂; cases hd₂; rfl
    subst hlen
    have hs₂ : s₂ = (({ U with heap := s₂.heap, slotsUsed := s₂.slotsUsed } : State).setVm s₂.vm).setTop { g with pc := g.pc + len₂, stack := v.toList ++ g.stack } := by
      refine e3.trans ?_
      rw [hf₂, State.calling_eq h.top, State.setFrames_setFrames, State.setTop_of_frames _ hr', hr]
      rfl
    have hsame : U.sameButNew ({ U with heap := s₂.heap, slotsUsed := s₂.slotsUsed } : State) L mc ms := by
      refine ⟨?_, q2, q3, q4, q5, q6⟩
      obtain ⟨t, ht, -⟩ := State.frames_cons hr
      show ({ U with heap := s₂.heap, slotsUsed := s₂.slotsUsed } : State) = { U.setFrames U.frames with heap := s₂.heap, slotsUsed := s₂.slotsUsed }
      rw [State.setFrames_self ht]
    subst hg
    refine Or.inl ⟨v, ⟨(({ U with heap := s₂.heap, slotsUsed := s₂.slotsUsed } : State).setVm s₂.vm), Ls ++ L, c0 + mc, s0 + ms⟩,
      ⟨X.admits, X.cas, X.clock, X.frames, X.room, X.hears, X.method, X.code, (X.here.setHeapUsed s₂.heap s₂.slotsUsed).setVm hW'.alike, X.tail, State.WarmedH.trans X.warmed hW', X.limits, X.bytes, X.same.trans (hsame.setVm s.vm)⟩,
      ⟨g, mk, s₂, L, rfl, rfl, hqc, rfl, hL, rfl, rfl⟩, ?_⟩
    show Steps p.tables e below _ ((({ U with heap := s₂.heap, slotsUsed := s₂.slotsUsed } : State).setVm s₂.vm).setTop { g with pc := g.pc + len₂, stack := v.toList ++ g.stack })
    rw [← hs₂]
    exact hsteps
  · obtain ⟨e2, q2, q3, q4, q5, q6⟩ := id hsm
    have e3 : s₂ = ({ (U.calling g mk a).setFrames s₂.frames with heap := s₂.heap, slotsUsed := s₂.slotsUsed } : State).setVm s₂.vm := by
      have : s₂ = ({ s₂ with vm := (U.calling g mk a).vm } : State).setVm s₂.vm := rfl
      rw [e2] at this
      exact this
    have hf₂ : s₂.frames = .throwing q :: .java g :: U.frames.tail := hend
    have hW' : U.WarmedH s₂.vm := hW₂
    have hs₂ : s₂ = ((({ U with heap := s₂.heap, slotsUsed := s₂.slotsUsed } : State).setVm s₂.vm).setTop g).pushFrame (.throwing q) := by
      refine e3.trans ?_
      rw [hf₂, State.calling_eq h.top, State.setFrames_setFrames, State.pushFrame, State.frames_setTop _ hr', State.setTop_of_frames _ hr', State.setFrames_setFrames, hr]
      rfl
    have hsame : U.sameButNew ({ U with heap := s₂.heap, slotsUsed := s₂.slotsUsed } : State) L mc ms := by
      refine ⟨?_, q2, q3, q4, q5, q6⟩
      obtain ⟨t, ht, -⟩ := State.frames_cons hr
      show ({ U with heap := s₂.heap, slotsUsed := s₂.slotsUsed } : State) = { U.setFrames U.frames with heap := s₂.heap, slotsUsed := s₂.slotsUsed }
      rw [State.setFrames_self ht]
    subst hg
    refine Or.inr ⟨q, ⟨(({ U with heap := s₂.heap, slotsUsed := s₂.slotsUsed } : State).setVm s₂.vm), Ls ++ L, c0 + mc, s0 + ms⟩,
      ⟨X.admits, X.cas, X.clock, X.frames, X.room, X.hears, X.method, X.code, (X.here.setHeapUsed s₂.heap s₂.slotsUsed).setVm hW'.alike, X.tail, State.WarmedH.trans X.warmed hW', X.limits, X.bytes, X.same.trans (hsame.setVm s.vm)⟩,
      ⟨g, mk, s₂, L, E, ce, rfl, rfl, hx, hce, hcv, hcl, rfl, hL, rfl, rfl⟩, ?_⟩
    show Steps p.tables e below _ (((({ U with heap := s₂.heap, slotsUsed := s₂.slotsUsed } : State).setVm s₂.vm).setTop g).pushFrame (.throwing q))
    rw [← hs₂]
    exact hsteps
end Payer
section Calls
variable {p : Program} {l : Launch} {e : Env} {R : Room} {s : State} {m : MethodId} {args : Array Value} {below : List Frame} {meth : Method} {c : Code} {T : State} {locs : List Loc} {cells slots : Nat}
theorem vx_callV (X : Stand p l e R s m args below meth c T locs cells slots) (hexec : p.tables.exec = Jvm.exec) {own C : String} {index : Nat} {y : MethodName} {bytes : ByteArray} {maxL : Nat} {ret : Option FieldType}
    (hown : s.vm.findClass own = some m.cls) (hlink : (Cond.methodLink own index y).before args s = true) (hinst : (Cond.instanceMethod y).before args s = true) (hsel : (Cond.selects C y y).before args s = true)
    (hcode : (Cond.code y bytes maxL ret).before args s = true) (hy : y.cls ≠ "java/lang/invoke/MethodHandle" ∧ y.cls ≠ "java/lang/invoke/VarHandle")
    {W9 : Nat} {Pre : Pt → Array Value → Prop} {Post : Pt → Array Value → Option Value → Pt → Prop} {PostX : Pt → Array Value → Addr → Pt → Prop} (hK : vx_Back l R p e below s args y 3 W9 Pre Post PostX)
    {b : Addr} {cellB : Cell} (hcell : T.heap[b]? = some cellB) (hobj : cellB.vm.isStatics = false) (hcls : s.vm.findClass C = some cellB.cls)
    {g : JFrame} (hg : g.method = m) (hsize : g.locals.size = c.maxLocals) {argsL rest : List Value} (hlen : ∀ sig, parseMethodDescriptor y.desc = some sig → argsL.length = sig.parameters.length)
    (hstack : g.stack = argsL.reverse ++ .ref b :: rest) (hW : 2 * g.monitorRoom + (rest.map fun v => v.category).sum ≤ W9) (hdg : decode c.code g.pc = .ok (.invokevirtual index, 3))
    (hpre : ∀ vm₁, s.WarmedH vm₁ → Pre ⟨T.setVm vm₁, locs, cells, slots⟩ (Value.ref b :: argsL).toArray) :
    (∃ (v : Option Value) (vm₁ : Vm) (B : Pt), s.WarmedH vm₁ ∧ Stand p l e R s m args below meth c B.U B.locs B.cells B.slots ∧ Post ⟨T.setVm vm₁, locs, cells, slots⟩ (Value.ref b :: argsL).toArray v B ∧
      ∀ target, Steps p.tables e below (B.U.setTop { g with pc := g.pc + 3, stack := v.toList ++ rest }) target → Steps p.tables e below (T.setTop g) target) ∨
    (∃ (q : Addr) (vm₁ : Vm) (B : Pt), s.WarmedH vm₁ ∧ Stand p l e R s m args below meth c B.U B.locs B.cells B.slots ∧ PostX ⟨T.setVm vm₁, locs, cells, slots⟩ (Value.ref b :: argsL).toArray q B ∧
      Steps p.tables e below (T.setTop g) ((B.U.setTop { g with stack := rest }).pushFrame (.throwing q))) := by
  obtain ⟨mk, methM, hnamed, hmethM, hstM, habM⟩ := Cond.instanceMethod_spec hinst
  obtain ⟨methM', cM, hmethM', -, -, -, -, -, -, hsigM⟩ := Cond.code_spec hnamed hcode
  cases hmethM.symm.trans hmethM'
  obtain ⟨c2, r2, m2, q1, q2, q3, q4, kP, hkP, hkPi⟩ := Cond.selects_spec hsel
  cases hcls.symm.trans q1
  cases (State.methodFound?_of_named hnamed hy).symm.trans q2
  cases hnamed.symm.trans q3
  have hselP : selectMethod e.platform s.vm cellB.cls mk = .method mk := by rw [Launch.admits_selectMethod X.admits]; exact q4
  obtain ⟨vm₁, X₁, hstep₁⟩ := X.invokevirtual hexec hown hlink hnamed hmethM hstM hkP hkPi hy (a := b) (cell := cellB) hcell
    (fun z h => by rw [h] at hobj; cases hobj) hselP hmethM habM hkP hkPi (g := g) hg (argsL := argsL) (rest := rest) (hlen _ hsigM) hstack hdg
  rcases hK m meth c ⟨T.setVm vm₁, locs, cells, slots⟩ { g with stack := rest } (.invokevirtual index) mk (Value.ref b :: argsL).toArray X₁ hg hsize hdg hW (X₁.named hnamed) (hpre vm₁ X₁.warmed) with ⟨v, B, X', hpost, hsteps⟩ | ⟨q, B, X', hpost, hsteps⟩
  · exact Or.inl ⟨v, vm₁, B, X₁.warmed, X', hpost, fun target h => hstep₁ _ fun acts => by rw [doInvoke_state]; exact hsteps.trans h⟩
  · exact Or.inr ⟨q, vm₁, B, X₁.warmed, X', hpost, hstep₁ _ fun acts => by rw [doInvoke_state]; exact hsteps⟩
theorem vx_callS (X : Stand p l e R s m args below meth c T locs cells slots) (hexec : p.tables.exec = Jvm.exec) {own : String} {index : Nat} {y : MethodName} {bytes : ByteArray} {maxL : Nat} {ret : Option FieldType}
    (hown : s.vm.findClass own = some m.cls) (hlink : (Cond.methodLink own index y).before args s = true) (hstat : (Cond.static y).before args s = true) (hinit : (Cond.initialized y.cls).before args s = true)
    (hcode : (Cond.code y bytes maxL ret).before args s = true) (hy : y.cls ≠ "java/lang/invoke/MethodHandle" ∧ y.cls ≠ "java/lang/invoke/VarHandle")
    {W9 : Nat} {Pre : Pt → Array Value → Prop} {Post : Pt → Array Value → Option Value → Pt → Prop} {PostX : Pt → Array Value → Addr → Pt → Prop} (hK : vx_Back l R p e below s args y 3 W9 Pre Post PostX)
    {g : JFrame} (hg : g.method = m) (hsize : g.locals.size = c.maxLocals) {argsL rest : List Value} (hlen : ∀ sig, parseMethodDescriptor y.desc = some sig → argsL.length = sig.parameters.length)
    (hstack : g.stack = argsL.reverse ++ rest) (hW : 2 * g.monitorRoom + (rest.map fun v => v.category).sum ≤ W9) (hdg : decode c.code g.pc = .ok (.invokestatic index, 3))
    (hpre : ∀ vm₁, s.WarmedH vm₁ → Pre ⟨T.setVm vm₁, locs, cells, slots⟩ argsL.toArray) :
    (∃ (v : Option Value) (vm₁ : Vm) (B : Pt), s.WarmedH vm₁ ∧ Stand p l e R s m args below meth c B.U B.locs B.cells B.slots ∧ Post ⟨T.setVm vm₁, locs, cells, slots⟩ argsL.toArray v B ∧
      ∀ target, Steps p.tables e below (B.U.setTop { g with pc := g.pc + 3, stack := v.toList ++ rest }) target → Steps p.tables e below (T.setTop g) target) ∨
    (∃ (q : Addr) (vm₁ : Vm) (B : Pt), s.WarmedH vm₁ ∧ Stand p l e R s m args below meth c B.U B.locs B.cells B.slots ∧ PostX ⟨T.setVm vm₁, locs, cells, slots⟩ argsL.toArray q B ∧
      Steps p.tables e below (T.setTop g) ((B.U.setTop { g with stack := rest }).pushFrame (.throwing q))) := by
  obtain ⟨mk, hnamed⟩ := Cond.code_named hcode
  obtain ⟨methM, cM, hmethM, -, -, -, -, -, -, hsigM⟩ := Cond.code_spec hnamed hcode
  have hstatic : methM.isStatic = true := Cond.static_spec hnamed hmethM hstat
  obtain ⟨kP, hkP, -⟩ := className_of_methodNamed hnamed
  have hinitP : kP.init = .initialized := Cond.initialized_spec (findClass_of_methodNamed hnamed) hkP hinit
  obtain ⟨vm₁, X₁, hstep₁⟩ := X.invokestatic hexec hown hlink hnamed hmethM hstatic hkP hinitP hy (g := g) hg (argsL := argsL) (rest := rest) (hlen _ hsigM) hstack hdg
  rcases hK m meth c ⟨T.setVm vm₁, locs, cells, slots⟩ { g with stack := rest } (.invokestatic index) mk argsL.toArray X₁ hg hsize hdg hW (X₁.named hnamed) (hpre vm₁ X₁.warmed) with ⟨v, B, X', hpost, hsteps⟩ | ⟨q, B, X', hpost, hsteps⟩
  · exact Or.inl ⟨v, vm₁, B, X₁.warmed, X', hpost, fun target h => hstep₁ _ fun acts => by rw [doInvoke_state]; exact hsteps.trans h⟩
  · exact Or.inr ⟨q, vm₁, B, X₁.warmed, X', hpost, hstep₁ _ fun acts => by rw [doInvoke_state]; exact hsteps⟩
end Calls
theorem vx_cls {s : State} {T : State} {vm₁ : Vm} {E : String} {k : ClassId} (hW : s.WarmedH vm₁) (h : (T.setVm vm₁).vm.findClass E = some k) : s.vm.findClass E = some k := by
  have h1 : vm₁.findClass E = some k := h
  rw [hW.alike.findClass] at h1
  exact h1
/-- the method's frame g, with q thrown over it -/
def vx_W (p : Program) (l : Launch) (e : Env) (R : Room) (s : State) (m : MethodId) (args : Array Value) (below : List Frame) (meth : Method) (c : Code) (H : Heap) (locs : List Loc) (cells slots : Nat) (Q : State → Prop) (g : JFrame) (q : Addr) : Prop :=
  ∀ T : State, T.heap = H → Stand p l e R s m args below meth c T locs cells slots → ∃ t, Steps p.tables e below ((T.setTop g).pushFrame (.throwing q)) t ∧ Q t
def vx_Run (p : Program) (l : Launch) (e : Env) (R : Room) (s : State) (m : MethodId) (args : Array Value) (below : List Frame) (meth : Method) (c : Code) (H : Heap) (locs : List Loc) (cells slots mc ms : Nat) (g : JFrame) (rest : List Value) (Qa : State → Outcome → State → Prop) (XC : String → State → State → Prop) (free : Addr → Prop) : Prop :=
  ∀ T : State, T.heap = H → Stand p l e R s m args below meth c T locs cells slots →
    (∃ (v : Option Value) (st₀ t T' : State) (L : List Loc), st₀.heap = H ∧ Stand p l e R s m args below meth c T' (locs ++ L) (cells + mc) (slots + ms) ∧ (∀ q ∈ L, free q.base) ∧ T'.heap = t.heap ∧ T'.vm = t.vm ∧ Qa st₀ (.returned v) t ∧
      Goes p e below T g T' { g with pc := g.pc + 3, stack := v.toList ++ rest }) ∨
    (∃ (q : Addr) (st₀ t T' : State) (L : List Loc) (E : String) (ce : Cell), st₀.heap = H ∧ Stand p l e R s m args below meth c T' (locs ++ L) (cells + mc) (slots + ms) ∧ (∀ z ∈ L, free z.base) ∧ T'.heap = t.heap ∧ T'.vm = t.vm ∧ XC E st₀ t ∧ t.heap[q]? = some ce ∧ ce.vm = .none ∧ s.vm.findClass E = some ce.cls ∧
      Steps p.tables e below (T.setTop g) ((T'.setTop { g with stack := rest }).pushFrame (.throwing q)))
def vx_X {S : Type} (px : S → Prop) (B : String → S → State → Prop) (A : Nat → Prop) : String → State → State → Prop := fun E st t => ∃ u : S, px u ∧ B E u t ∧ va_F A st t
section Runs
variable {p : Program} {l : Launch} {e : Env} {R : Room} {s : State} {m : MethodId} {args : Array Value} {below : List Frame} {meth : Method} {c : Code} {H : Heap} {locs : List Loc} {cells slots : Nat}
variable {y : MethodName} {bytes cc : ByteArray} {maxL nL mc ms n index : Nat} {ret : Option FieldType} {ws : List Cond} {rm : Room} {Pc : Array Value → State → Prop} {Qc : Array Value → State → Outcome → State → Prop} {XC : String → State → State → Prop} {free : Addr → Prop} {Ts : List Cond} {own C : String} {b : Addr} {As rest : List Value} {g : JFrame}
theorem vx_callBack (cb : CallB R s args own index y bytes maxL ret ws rm mc ms n) (hM : vx_Met l y ws rm Pc Qc XC mc ms free) (hbl : FrameBlind Pc) : vx_Back l R p e below s args y 3 8 (PreOf R mc ms Pc) (PostOf Qc mc ms free) (vx_Post XC mc ms free) := by
  obtain ⟨hrc, hrs, hfr, hlo, hws, hcw, -, hini, -⟩ := cb
  exact vx_back (bytes := bytes) (maxL := maxL) (ret := ret) hM hbl hrc hrs hfr hlo hws hcw (fun a' U hW => word_at hW (Or.inl (by first | rfl | simp [Cond.onTables, Cond.keeps, Cond.steady])) hini)
theorem vx_runV (S : CallFix p m c cc nL s args Ts own) (hM : vx_Met l y ws rm Pc Qc XC mc ms free) (cw : CallW R s args own C index y bytes maxL ret ws rm mc ms n) (hp : PreV s H C b Pc As)
    (hg : g.method = m) (hn : As.length = n) (hsize : g.locals.size = nL) (hstack : g.stack = As.reverse ++ .ref b :: rest) (hW : 2 * g.monitorRoom + (rest.map fun v => v.category).sum ≤ 8) (hdg : decode cc g.pc = .ok (.invokevirtual index, 3)) (hf : cells + mc ≤ R.cells ∧ slots + ms ≤ R.slots) :
    vx_Run p l e R s m args below meth c H locs cells slots mc ms g rest (Qc (Value.ref b :: As).toArray) XC free := by
  have hK : vx_Back l R p e below s args y 3 8 (PreOf R mc ms Pc) (PostOf Qc mc ms free) (vx_Post XC mc ms free) := vx_callBack cw.1 hM hp.1
  obtain ⟨⟨-, -, -, -, -, -, hcode, -, hy, hlen, hl⟩, hin, hse⟩ := cw
  obtain ⟨hx, hb, hml, ho, -⟩ := S
  obtain ⟨-, ⟨cellB, hcB, hoB, hclB⟩, hPc⟩ := hp
  intro T hT X
  rcases vx_callV X hx (C := C) (bytes := bytes) (maxL := maxL) (ret := ret) ho hl hin hse hcode hy hK (by rw [hT]; exact hcB) hoB hclB hg (hsize.trans hml.symm) (argsL := As) (rest := rest) (fun sig h => hn.trans (hlen sig h)) hstack hW (by rw [hb]; exact hdg)
    (fun vm₁ hW₁ => ⟨hf.1, hf.2, hPc (T.setVm vm₁) hT hW₁⟩) with ⟨v, vm₁, ⟨U', l2, c2, s2⟩, hW₁, X', ⟨g', mk, t, L, e1, e2, hq, h1, hL, h2, h3⟩, st⟩ | ⟨q, vm₁, ⟨U', l2, c2, s2⟩, hW₁, X', ⟨g', mk, t, L, E, ce, e1, e2, hq, hce, hcv, hcl, h1, hL, h2, h3⟩, st⟩
  · dsimp only [Pt.U, Pt.locs, Pt.cells, Pt.slots] at X' e1 e2 h1 h2 h3 st
    subst h1; subst h2; subst h3
    exact Or.inl ⟨v, (T.setVm vm₁).calling g' mk (Value.ref b :: As).toArray, t, U', L, hT, X', hL, e1, e2, hq, st⟩
  · dsimp only [Pt.U, Pt.locs, Pt.cells, Pt.slots] at X' e1 e2 h1 h2 h3 st hcl
    subst h1; subst h2; subst h3
    exact Or.inr ⟨q, (T.setVm vm₁).calling g' mk (Value.ref b :: As).toArray, t, U', L, E, ce, hT, X', hL, e1, e2, hq, hce, hcv, vx_cls hW₁ hcl, st⟩
theorem vx_runS (S : CallFix p m c cc nL s args Ts own) (hM : vx_Met l y ws rm Pc Qc XC mc ms free) (cw : CallB R s args own index y bytes maxL ret ws rm mc ms n ∧ (Cond.static y).before args s = true) (hp : PreS s H Pc As)
    (hg : g.method = m) (hn : As.length = n) (hsize : g.locals.size = nL) (hstack : g.stack = As.reverse ++ rest) (hW : 2 * g.monitorRoom + (rest.map fun v => v.category).sum ≤ 8) (hdg : decode cc g.pc = .ok (.invokestatic index, 3)) (hf : cells + mc ≤ R.cells ∧ slots + ms ≤ R.slots) :
    vx_Run p l e R s m args below meth c H locs cells slots mc ms g rest (Qc As.toArray) XC free := by
  have hK : vx_Back l R p e below s args y 3 8 (PreOf R mc ms Pc) (PostOf Qc mc ms free) (vx_Post XC mc ms free) := vx_callBack cw.1 hM hp.1
  obtain ⟨⟨-, -, -, -, -, -, hcode, hini, hy, hlen, hl⟩, hstt⟩ := cw
  obtain ⟨hx, hb, hml, ho, -⟩ := S
  intro T hT X
  rcases vx_callS X hx (bytes := bytes) (maxL := maxL) (ret := ret) ho hl hstt hini hcode hy hK hg (hsize.trans hml.symm) (argsL := As) (rest := rest) (fun sig h => hn.trans (hlen sig h)) hstack hW (by rw [hb]; exact hdg)
    (fun vm₁ hW₁ => ⟨hf.1, hf.2, hp.2 (T.setVm vm₁) hT hW₁⟩) with ⟨v, vm₁, ⟨U', l2, c2, s2⟩, hW₁, X', ⟨g', mk, t, L, e1, e2, hq, h1, hL, h2, h3⟩, st⟩ | ⟨q, vm₁, ⟨U', l2, c2, s2⟩, hW₁, X', ⟨g', mk, t, L, E, ce, e1, e2, hq, hce, hcv, hcl, h1, hL, h2, h3⟩, st⟩
  · dsimp only [Pt.U, Pt.locs, Pt.cells, Pt.slots] at X' e1 e2 h1 h2 h3 st
    subst h1; subst h2; subst h3
    exact Or.inl ⟨v, (T.setVm vm₁).calling g' mk As.toArray, t, U', L, hT, X', hL, e1, e2, hq, st⟩
  · dsimp only [Pt.U, Pt.locs, Pt.cells, Pt.slots] at X' e1 e2 h1 h2 h3 st hcl
    subst h1; subst h2; subst h3
    exact Or.inr ⟨q, (T.setVm vm₁).calling g' mk As.toArray, t, U', L, E, ce, hT, X', hL, e1, e2, hq, hce, hcv, vx_cls hW₁ hcl, st⟩
end Runs
section Rows
variable {p : Program} {l : Launch} {e : Env} {R : Room} {s : State} {m : MethodId} {args : Array Value} {below : List Frame} {meth : Method} {c : Code} {H : Heap} {locs : List Loc} {cells slots : Nat} {Q : State → Prop}
variable {mc ms : Nat} {free : Addr → Prop} {A0 A1 : Nat → Prop} {H0 : Heap} {a : Array Value} {pc : Nat} {ls : Array Slot} {st0 rest : List Value}
theorem vx_keep {st₀ t T' : State} {L : List Loc} (h0 : st₀.heap = H) (e1 : T'.heap = t.heap) (hS : va_S A0 H0 H locs) (hA : ∀ q, q < H.size → A1 q → A0 q) (hf : ∀ q, free q → A0 q) (hL : ∀ q ∈ L, free q.base) (hF : va_F A1 st₀ t) :
    H.size ≤ T'.heap.size ∧ (∀ q : Nat, q < H.size → ¬ A1 q → T'.heap[q]? = H[q]?) ∧ va_S A0 H0 T'.heap (locs ++ L) := by
  obtain ⟨hz, hk⟩ := hF
  rw [h0] at hz hk
  exact ⟨by rw [e1]; exact hz, fun q h1 h2 => by rw [e1]; exact hk q h1 h2,
    ⟨Nat.le_trans hS.1 (by rw [e1]; exact hz), fun q h1 h2 => by rw [e1, hk q (Nat.lt_of_lt_of_le h1 hS.1) (fun z => h2 (hA q (Nat.lt_of_lt_of_le h1 hS.1) z))]; exact hS.2.1 q h1 h2, fun q hq => by
      rcases List.mem_append.mp hq with h | h
      · exact hS.2.2 q h
      · exact hf _ (hL q h)⟩⟩
theorem vx_calli {S SX : Type} {post : Int32 → S → Prop} {px : SX → Prop} {B : S → State → Prop} {BX : String → SX → State → Prop} {AX : Nat → Prop} (hr : vx_Run p l e R s m args below meth c H locs cells slots mc ms (F0 m pc ls st0) rest (va_Qi post B A1 a) (vx_X px BX AX) free) (hS : va_S A0 H0 H locs) (hA : ∀ q, q < H.size → A1 q → A0 q) (hf : ∀ q, free q → A0 q) (hAX : ∀ q, q < H.size → AX q → A0 q)
    (kx : ∀ (E : String) (ce : Cell) (q9 : Addr) (u : SX) (t : State) (H1 : Heap) (locs1 : List Loc), t.heap = H1 → s.vm.Alike t.vm → px u → BX E u t → H.size ≤ H1.size → (∀ q : Nat, q < H.size → ¬ AX q → H1[q]? = H[q]?) → va_S A0 H0 H1 locs1 → H1[q9]? = some ce → ce.vm = .none → s.vm.findClass E = some ce.cls → vx_W p l e R s m args below meth c H1 locs1 (cells + mc) (slots + ms) Q (F0 m pc ls rest) q9)
    (kk : ∀ (r : Int32) (u : S) (t : State) (H1 : Heap) (locs1 : List Loc), t.heap = H1 → s.vm.Alike t.vm → post r u → B u t → H.size ≤ H1.size → (∀ q : Nat, q < H.size → ¬ A1 q → H1[q]? = H[q]?) → va_S A0 H0 H1 locs1 → W p l e R s m args below meth c H1 locs1 (cells + mc) (slots + ms) Q (F0 m (pc + 3) ls (.int r :: rest))) : W p l e R s m args below meth c H locs cells slots Q (F0 m pc ls st0) := by
  intro T hT X
  rcases hr T hT X with ⟨v, st₀, t, T', L, h0, X', hL, e1, e2, ⟨⟨r, u, hv, hp, hb⟩, hF⟩, st⟩ | ⟨q, st₀, t, T', L, E, ce, h0, X', hL, e1, e2, ⟨u, hp, hb, hF⟩, hce, hcv, hcl, st⟩
  · cases hv
    obtain ⟨k1, k2, k3⟩ := vx_keep h0 e1 hS hA hf hL hF
    obtain ⟨t2, a1, b1⟩ := kk r u t T'.heap (locs ++ L) e1.symm (by rw [← e2]; exact X'.warmed.alike) hp hb k1 k2 k3 T' rfl X'
    exact ⟨t2, st t2 a1, b1⟩
  · obtain ⟨k1, k2, k3⟩ := vx_keep h0 e1 hS hAX hf hL hF
    obtain ⟨t2, a1, b1⟩ := kx E ce q u t T'.heap (locs ++ L) e1.symm (by rw [← e2]; exact X'.warmed.alike) hp hb k1 k2 k3 (by rw [e1]; exact hce) hcv hcl T' rfl X'
    exact ⟨t2, st.trans a1, b1⟩
theorem vx_calll {S SX : Type} {post : Int64 → S → Prop} {px : SX → Prop} {B : S → State → Prop} {BX : String → SX → State → Prop} {AX : Nat → Prop} (hr : vx_Run p l e R s m args below meth c H locs cells slots mc ms (F0 m pc ls st0) rest (va_Ql post B A1 a) (vx_X px BX AX) free) (hS : va_S A0 H0 H locs) (hA : ∀ q, q < H.size → A1 q → A0 q) (hf : ∀ q, free q → A0 q) (hAX : ∀ q, q < H.size → AX q → A0 q)
    (kx : ∀ (E : String) (ce : Cell) (q9 : Addr) (u : SX) (t : State) (H1 : Heap) (locs1 : List Loc), t.heap = H1 → s.vm.Alike t.vm → px u → BX E u t → H.size ≤ H1.size → (∀ q : Nat, q < H.size → ¬ AX q → H1[q]? = H[q]?) → va_S A0 H0 H1 locs1 → H1[q9]? = some ce → ce.vm = .none → s.vm.findClass E = some ce.cls → vx_W p l e R s m args below meth c H1 locs1 (cells + mc) (slots + ms) Q (F0 m pc ls rest) q9)
    (kk : ∀ (r : Int64) (u : S) (t : State) (H1 : Heap) (locs1 : List Loc), t.heap = H1 → s.vm.Alike t.vm → post r u → B u t → H.size ≤ H1.size → (∀ q : Nat, q < H.size → ¬ A1 q → H1[q]? = H[q]?) → va_S A0 H0 H1 locs1 → W p l e R s m args below meth c H1 locs1 (cells + mc) (slots + ms) Q (F0 m (pc + 3) ls (.long r :: rest))) : W p l e R s m args below meth c H locs cells slots Q (F0 m pc ls st0) := by
  intro T hT X
  rcases hr T hT X with ⟨v, st₀, t, T', L, h0, X', hL, e1, e2, ⟨⟨r, u, hv, hp, hb⟩, hF⟩, st⟩ | ⟨q, st₀, t, T', L, E, ce, h0, X', hL, e1, e2, ⟨u, hp, hb, hF⟩, hce, hcv, hcl, st⟩
  · cases hv
    obtain ⟨k1, k2, k3⟩ := vx_keep h0 e1 hS hA hf hL hF
    obtain ⟨t2, a1, b1⟩ := kk r u t T'.heap (locs ++ L) e1.symm (by rw [← e2]; exact X'.warmed.alike) hp hb k1 k2 k3 T' rfl X'
    exact ⟨t2, st t2 a1, b1⟩
  · obtain ⟨k1, k2, k3⟩ := vx_keep h0 e1 hS hAX hf hL hF
    obtain ⟨t2, a1, b1⟩ := kx E ce q u t T'.heap (locs ++ L) e1.symm (by rw [← e2]; exact X'.warmed.alike) hp hb k1 k2 k3 (by rw [e1]; exact hce) hcv hcl T' rfl X'
    exact ⟨t2, st.trans a1, b1⟩
theorem vx_callf {S SX : Type} {post : UInt32 → S → Prop} {px : SX → Prop} {B : S → State → Prop} {BX : String → SX → State → Prop} {AX : Nat → Prop} (hr : vx_Run p l e R s m args below meth c H locs cells slots mc ms (F0 m pc ls st0) rest (va_Qf post B A1 a) (vx_X px BX AX) free) (hS : va_S A0 H0 H locs) (hA : ∀ q, q < H.size → A1 q → A0 q) (hf : ∀ q, free q → A0 q) (hAX : ∀ q, q < H.size → AX q → A0 q)
    (kx : ∀ (E : String) (ce : Cell) (q9 : Addr) (u : SX) (t : State) (H1 : Heap) (locs1 : List Loc), t.heap = H1 → s.vm.Alike t.vm → px u → BX E u t → H.size ≤ H1.size → (∀ q : Nat, q < H.size → ¬ AX q → H1[q]? = H[q]?) → va_S A0 H0 H1 locs1 → H1[q9]? = some ce → ce.vm = .none → s.vm.findClass E = some ce.cls → vx_W p l e R s m args below meth c H1 locs1 (cells + mc) (slots + ms) Q (F0 m pc ls rest) q9)
    (kk : ∀ (r : UInt32) (u : S) (t : State) (H1 : Heap) (locs1 : List Loc), t.heap = H1 → s.vm.Alike t.vm → post r u → B u t → H.size ≤ H1.size → (∀ q : Nat, q < H.size → ¬ A1 q → H1[q]? = H[q]?) → va_S A0 H0 H1 locs1 → W p l e R s m args below meth c H1 locs1 (cells + mc) (slots + ms) Q (F0 m (pc + 3) ls (.float r :: rest))) : W p l e R s m args below meth c H locs cells slots Q (F0 m pc ls st0) := by
  intro T hT X
  rcases hr T hT X with ⟨v, st₀, t, T', L, h0, X', hL, e1, e2, ⟨⟨r, u, hv, hp, hb⟩, hF⟩, st⟩ | ⟨q, st₀, t, T', L, E, ce, h0, X', hL, e1, e2, ⟨u, hp, hb, hF⟩, hce, hcv, hcl, st⟩
  · cases hv
    obtain ⟨k1, k2, k3⟩ := vx_keep h0 e1 hS hA hf hL hF
    obtain ⟨t2, a1, b1⟩ := kk r u t T'.heap (locs ++ L) e1.symm (by rw [← e2]; exact X'.warmed.alike) hp hb k1 k2 k3 T' rfl X'
    exact ⟨t2, st t2 a1, b1⟩
  · obtain ⟨k1, k2, k3⟩ := vx_keep h0 e1 hS hAX hf hL hF
    obtain ⟨t2, a1, b1⟩ := kx E ce q u t T'.heap (locs ++ L) e1.symm (by rw [← e2]; exact X'.warmed.alike) hp hb k1 k2 k3 (by rw [e1]; exact hce) hcv hcl T' rfl X'
    exact ⟨t2, st.trans a1, b1⟩
theorem vx_calld {S SX : Type} {post : UInt64 → S → Prop} {px : SX → Prop} {B : S → State → Prop} {BX : String → SX → State → Prop} {AX : Nat → Prop} (hr : vx_Run p l e R s m args below meth c H locs cells slots mc ms (F0 m pc ls st0) rest (va_Qd post B A1 a) (vx_X px BX AX) free) (hS : va_S A0 H0 H locs) (hA : ∀ q, q < H.size → A1 q → A0 q) (hf : ∀ q, free q → A0 q) (hAX : ∀ q, q < H.size → AX q → A0 q)
    (kx : ∀ (E : String) (ce : Cell) (q9 : Addr) (u : SX) (t : State) (H1 : Heap) (locs1 : List Loc), t.heap = H1 → s.vm.Alike t.vm → px u → BX E u t → H.size ≤ H1.size → (∀ q : Nat, q < H.size → ¬ AX q → H1[q]? = H[q]?) → va_S A0 H0 H1 locs1 → H1[q9]? = some ce → ce.vm = .none → s.vm.findClass E = some ce.cls → vx_W p l e R s m args below meth c H1 locs1 (cells + mc) (slots + ms) Q (F0 m pc ls rest) q9)
    (kk : ∀ (r : UInt64) (u : S) (t : State) (H1 : Heap) (locs1 : List Loc), t.heap = H1 → s.vm.Alike t.vm → post r u → B u t → H.size ≤ H1.size → (∀ q : Nat, q < H.size → ¬ A1 q → H1[q]? = H[q]?) → va_S A0 H0 H1 locs1 → W p l e R s m args below meth c H1 locs1 (cells + mc) (slots + ms) Q (F0 m (pc + 3) ls (.double r :: rest))) : W p l e R s m args below meth c H locs cells slots Q (F0 m pc ls st0) := by
  intro T hT X
  rcases hr T hT X with ⟨v, st₀, t, T', L, h0, X', hL, e1, e2, ⟨⟨r, u, hv, hp, hb⟩, hF⟩, st⟩ | ⟨q, st₀, t, T', L, E, ce, h0, X', hL, e1, e2, ⟨u, hp, hb, hF⟩, hce, hcv, hcl, st⟩
  · cases hv
    obtain ⟨k1, k2, k3⟩ := vx_keep h0 e1 hS hA hf hL hF
    obtain ⟨t2, a1, b1⟩ := kk r u t T'.heap (locs ++ L) e1.symm (by rw [← e2]; exact X'.warmed.alike) hp hb k1 k2 k3 T' rfl X'
    exact ⟨t2, st t2 a1, b1⟩
  · obtain ⟨k1, k2, k3⟩ := vx_keep h0 e1 hS hAX hf hL hF
    obtain ⟨t2, a1, b1⟩ := kx E ce q u t T'.heap (locs ++ L) e1.symm (by rw [← e2]; exact X'.warmed.alike) hp hb k1 k2 k3 (by rw [e1]; exact hce) hcv hcl T' rfl X'
    exact ⟨t2, st.trans a1, b1⟩
theorem vx_callv {S SX : Type} {post : S → Prop} {px : SX → Prop} {B : S → State → Prop} {BX : String → SX → State → Prop} {AX : Nat → Prop} (hr : vx_Run p l e R s m args below meth c H locs cells slots mc ms (F0 m pc ls st0) rest (va_Qv post B A1 a) (vx_X px BX AX) free) (hS : va_S A0 H0 H locs) (hA : ∀ q, q < H.size → A1 q → A0 q) (hf : ∀ q, free q → A0 q) (hAX : ∀ q, q < H.size → AX q → A0 q)
    (kx : ∀ (E : String) (ce : Cell) (q9 : Addr) (u : SX) (t : State) (H1 : Heap) (locs1 : List Loc), t.heap = H1 → s.vm.Alike t.vm → px u → BX E u t → H.size ≤ H1.size → (∀ q : Nat, q < H.size → ¬ AX q → H1[q]? = H[q]?) → va_S A0 H0 H1 locs1 → H1[q9]? = some ce → ce.vm = .none → s.vm.findClass E = some ce.cls → vx_W p l e R s m args below meth c H1 locs1 (cells + mc) (slots + ms) Q (F0 m pc ls rest) q9)
    (kk : ∀ (u : S) (t : State) (H1 : Heap) (locs1 : List Loc), t.heap = H1 → s.vm.Alike t.vm → post u → B u t → H.size ≤ H1.size → (∀ q : Nat, q < H.size → ¬ A1 q → H1[q]? = H[q]?) → va_S A0 H0 H1 locs1 → W p l e R s m args below meth c H1 locs1 (cells + mc) (slots + ms) Q (F0 m (pc + 3) ls (rest))) : W p l e R s m args below meth c H locs cells slots Q (F0 m pc ls st0) := by
  intro T hT X
  rcases hr T hT X with ⟨v, st₀, t, T', L, h0, X', hL, e1, e2, ⟨⟨u, hv, hp, hb⟩, hF⟩, st⟩ | ⟨q, st₀, t, T', L, E, ce, h0, X', hL, e1, e2, ⟨u, hp, hb, hF⟩, hce, hcv, hcl, st⟩
  · cases hv
    obtain ⟨k1, k2, k3⟩ := vx_keep h0 e1 hS hA hf hL hF
    obtain ⟨t2, a1, b1⟩ := kk u t T'.heap (locs ++ L) e1.symm (by rw [← e2]; exact X'.warmed.alike) hp hb k1 k2 k3 T' rfl X'
    exact ⟨t2, st t2 a1, b1⟩
  · obtain ⟨k1, k2, k3⟩ := vx_keep h0 e1 hS hAX hf hL hF
    obtain ⟨t2, a1, b1⟩ := kx E ce q u t T'.heap (locs ++ L) e1.symm (by rw [← e2]; exact X'.warmed.alike) hp hb k1 k2 k3 (by rw [e1]; exact hce) hcv hcl T' rfl X'
    exact ⟨t2, st.trans a1, b1⟩
/-- caught by the row x of this method's table; the rows ahead don't take it -/
theorem vx_catch {own name : String} {E : String} {ce : Cell} {q : Addr} (hown : s.vm.findClass own = some m.cls) (pre : List ExceptionTableEntry) (x : ExceptionTableEntry) (suf : List ExceptionTableEntry) (hsplit : c.exceptionTable.toList = pre ++ x :: suf)
    (hpass : ∀ z ∈ pre, covers z pc = false ∨ (z.catchType ≠ 0 ∧ ∃ nm : String, (Cond.classLink own z.catchType nm).before args s = true ∧ va_Nc E nm s)) (hx : covers x pc = true) (h0 : x.catchType ≠ 0)
    (hlink : (Cond.classLink own x.catchType name).before args s = true) (hcast : (Cond.castable E name).before args s = true) (hcell : H[q]? = some ce) (hv : ce.vm = .none) (hcl : s.vm.findClass E = some ce.cls)
    (kk : W p l e R s m args below meth c H locs cells slots Q (F0 m x.handlerPc ls [.ref q])) : vx_W p l e R s m args below meth c H locs cells slots Q (F0 m pc ls rest) q := by
  intro T hT X
  have hpl : e.platform.magicAccessors = ({} : Platform).magicAccessors := by rw [X.admits.platform]
  obtain ⟨c3, c4, hc3, hc4, hasg⟩ := Cond.castable_spec hcast
  cases Option.some.inj (hc3.symm.trans hcl)
  obtain ⟨c5, hc5, hcl5⟩ := Cond.classLink_spec hown hlink e.platform hpl
  cases Option.some.inj (hc4.symm.trans hc5)
  obtain ⟨vm', X', st⟩ := X.thenCaughtThrough q (g := F0 m pc ls rest) rfl (Steps.refl _) (by rw [hT]; exact hcell) (by rw [hv]; rfl) (by obtain ⟨k9, h9, -⟩ := Vm.findClass_spec hcl; exact ⟨k9, h9⟩) pre x suf hsplit
    (fun z hz => by
      rcases hpass z hz with h | ⟨hz0, nm, hl1, hn1⟩
      · exact Or.inl h
      · obtain ⟨c6, hc6, hcl6⟩ := Cond.classLink_spec hown hl1 e.platform hpl
        obtain ⟨a8, b8, h1, h2, h3⟩ := hn1
        cases Option.some.inj (h1.symm.trans hcl)
        cases Option.some.inj (h2.symm.trans hc6)
        exact Or.inr ⟨hz0, _, hcl6, h3⟩) hx (Or.inr ⟨h0, c4, hcl5, hasg⟩)
  obtain ⟨t, a1, b1⟩ := kk (T.setVm vm') hT X'
  exact ⟨t, st.trans a1, b1⟩
end Rows
section Ends
variable {p : Program} {l : Launch} {e : Env} {R : Room} {s : State} {m : MethodId} {args : Array Value} {below : List Frame} {meth : Method} {c : Code} {H : Heap} {locs : List Loc} {cells slots : Nat} {Q : State → Prop}
variable {mc ms : Nat} {free : Addr → Prop} {A0 A1 : Nat → Prop} {H0 : Heap} {a : Array Value} {ls : Array Slot} {st0 rest : List Value}
variable {Qc : Array Value → State → Outcome → State → Prop} {XC : String → State → State → Prop}
/-- what a body that may throw owes at its end -/
def vx_MQ (below : List Frame) (Qc : Array Value → State → Outcome → State → Prop) (XC : String → State → State → Prop) (a : Array Value) (s : State) (mc ms : Nat) (free : Addr → Prop) : State → Prop := fun t =>
  ∃ o, t.status = .running ∧ Ended t below o ∧ vx_Q Qc XC mc ms free a s o t
theorem vx_ret {g : JFrame} {mc ms : Nat} (k : W p l e R s m args below meth c H locs cells slots (MQ below Qc args s mc ms free) g) : W p l e R s m args below meth c H locs cells slots (vx_MQ below Qc XC args s mc ms free) g := by
  intro T hT X
  obtain ⟨t, a1, o, b1, b2, b3, b4⟩ := k T hT X
  exact ⟨t, a1, o, b1, b2, Or.inl ⟨b3, b4⟩⟩
/-- not caught here: it goes on to the caller -/
theorem vx_widen {g : JFrame} {q : Addr} {k n : Nat} (h1 : cells ≤ k) (h2 : slots ≤ n) (kk : vx_W p l e R s m args below meth c H locs k n Q g q) : vx_W p l e R s m args below meth c H locs cells slots Q g q := fun T hT X => kk T hT (stand_widen X h1 h2)
theorem vx_out {pc : Nat} {E : String} {ce : Cell} {q : Addr} {mc ms : Nat} (hout : ∀ x ∈ c.exceptionTable.toList, covers x pc = false) (hlocks : meth.locks = false) (hcell : H[q]? = some ce) (hv : ce.vm = .none) (hcl : s.vm.findClass E = some ce.cls)
    (hx : ∀ t : State, t.heap = H → s.vm.Alike t.vm → XC E s t) (hf : ∀ z ∈ locs, free z.base) (hc : cells ≤ mc) (hs : slots ≤ ms) :
    vx_W p l e R s m args below meth c H locs cells slots (vx_MQ below Qc XC args s mc ms free) (F0 m pc ls rest) q := by
  intro T hT X
  obtain ⟨st1, hrun, hend, hW, hsm⟩ := X.leaveThrown q (g := F0 m pc ls rest) rfl rfl rfl hout hlocks
  have hcell9 : (T.setFrames (.throwing q :: below)).heap[q]? = some ce := by
    show T.heap[q]? = some ce
    rw [hT]; exact hcell
  exact ⟨_, st1, .threw q, hrun, hend, Or.inr ⟨q, rfl, E, ce, locs, hx _ hT hW.alike, hcell9, hv, hcl, hW, hsm.mono hc hs, hf⟩⟩
theorem vx_frame {U : State} {k n : Nat} (h : s.sameButNew ({ U with vm := s.vm } : State) locs k n) : s.heap.size ≤ U.heap.size ∧ ∀ q : Nat, q < s.heap.size → (∀ z ∈ locs, z.base ≠ q) → U.heap[q]? = s.heap[q]? := by
  obtain ⟨-, h2, -, -, -, h6⟩ := h
  refine ⟨h2, fun q hq hz => ?_⟩
  obtain ⟨c9, e1, e2, e3, e4⟩ := h6 q _ (Array.getElem?_eq_getElem hq)
  have hs : c9.slots = (s.heap[q]).slots := Array.ext_getElem? fun i => e4 i fun hm => hz _ hm rfl
  have h9 : c9 = s.heap[q] := by
    rw [hs] at e2
    exact e2
  have e5 : U.heap[q]? = some c9 := e1
  rw [e5, h9, Array.getElem?_eq_getElem hq]
/-- the words of a throw but the four that speak of the heap -/
def vx_no (w : Cond) : Bool := decide (w ≠ .isRef (.static Bundle.tN "UNASSIGNED_STACK" Bundle.steD)) && decide (w ≠ .isRef (.static Bundle.tN "SUPPRESSED_SENTINEL" Bundle.listD)) && decide (w ≠ .laysStatic Bundle.tN "UNASSIGNED_STACK" Bundle.steD) && decide (w ≠ .laysStatic Bundle.tN "SUPPRESSED_SENTINEL" Bundle.listD)
def vx_at0 (own : String) (ic : Nat) (X : String) (names : List String) : List Cond := (Bundle.ownAtoms0 own ic X names).filter vx_no
def vx_atS (own : String) (ic : Nat) (X : String) (names : List String) : List Cond := (Bundle.ownAtoms own ic X names).filter vx_no
/-- a word that the tables alone decide, or a good one -/
def vx_ot (w : Cond) : Bool := w.onTables || goodWord w
theorem vx_ot_at {args a' : Array Value} {s U : State} {w : Cond} (hW : s.WarmedH U.vm) (hvm : s.vm = U.vm) (hg : vx_ot w = true) (h : w.before args s = true) : w.before a' U = true := by
  simp only [vx_ot, Bool.or_eq_true] at hg
  rcases hg with hg | hg
  · exact va_tabs hg hvm h
  · exact word_at hW (good_of_word hg) h
/-- a list's words: the good ones out of the method's own list, the others by premises of their own -/
theorem vx_hat {args : Array Value} {s : State} {L B : List Cond} (h1 : ∀ w ∈ L.filter goodWord, w.before args s = true) (h2 : ∀ w ∈ L.filter (fun w => !goodWord w), w ∈ B) (h3 : ∀ w ∈ B, w.before args s = true) : ∀ w ∈ L, w.before args s = true := by
  intro w hw
  by_cases g : goodWord w = true
  · exact h1 w (List.mem_filter.mpr ⟨hw, g⟩)
  · refine h3 w (h2 w (List.mem_filter.mpr ⟨hw, ?_⟩))
    show (!goodWord w) = true
    cases hgw : goodWord w
    · rfl
    · exact absurd hgw g
theorem vx_c {args : Array Value} {s : State} {w : Cond} {B : List Cond} (h : w.before args s = true) (t : ∀ w ∈ B, w.before args s = true) : ∀ w' ∈ w :: B, w'.before args s = true := fun w' h' => (List.mem_cons.mp h').elim (fun e => by rw [e]; exact h) (t w')
theorem vx_n {args : Array Value} {s : State} : ∀ w ∈ ([] : List Cond), w.before args s = true := fun _ h => nomatch h
theorem vx_own {args : Array Value} {s : State} {L : List Cond} (h1 : ∀ w ∈ L.filter vx_no, w.before args s = true)
    (hU : (Cond.isRef (.static Bundle.tN "UNASSIGNED_STACK" Bundle.steD)).before args s = true) (hN : (Cond.isRef (.static Bundle.tN "SUPPRESSED_SENTINEL" Bundle.listD)).before args s = true)
    (lU : (Cond.laysStatic Bundle.tN "UNASSIGNED_STACK" Bundle.steD).before args s = true) (lN : (Cond.laysStatic Bundle.tN "SUPPRESSED_SENTINEL" Bundle.listD).before args s = true) : ∀ w ∈ L, w.before args s = true := by
  intro w hw
  by_cases e1 : w = .isRef (.static Bundle.tN "UNASSIGNED_STACK" Bundle.steD)
  · rw [e1]; exact hU
  · by_cases e2 : w = .isRef (.static Bundle.tN "SUPPRESSED_SENTINEL" Bundle.listD)
    · rw [e2]; exact hN
    · by_cases e3 : w = .laysStatic Bundle.tN "UNASSIGNED_STACK" Bundle.steD
      · rw [e3]; exact lU
      · by_cases e4 : w = .laysStatic Bundle.tN "SUPPRESSED_SENTINEL" Bundle.listD
        · rw [e4]; exact lN
        · exact h1 w (List.mem_filter.mpr ⟨hw, by unfold vx_no; rw [decide_eq_true e1, decide_eq_true e2, decide_eq_true e3, decide_eq_true e4]; rfl⟩)
/-- where a static field lies, its class's statics cell in H -/
def vx_L (C n d : String) (A : Nat → Prop) (U : State) (H : Heap) : Prop := ∃ (c : ClassId) (k : Class) (i : Nat) (f : Field) (a : Nat) (cell : Cell), U.vm.findClass C = some c ∧ U.fieldFound? C n d = some (c, k, i, f) ∧ f.isStatic = true ∧ k.statics = some a ∧ H[a]? = some cell ∧ cell.vm.isStatics = true ∧ cell.cls = c ∧ f.slot < cell.slots.size ∧ k.staticTypes[f.slot]? = some f.type ∧ ¬ A a
theorem vx_L.moved {C n d : String} {A : Nat → Prop} {u U : State} {H : Heap} (hvm : u.vm.Alike U.vm) (h : vx_L C n d A u H) : vx_L C n d A U H := by
  obtain ⟨c, k, i, f, a, cell, h1, h2, h3, h4, h5, h6, h7, h8, h9, h10⟩ := h
  obtain ⟨k', hi', he⟩ := State.fieldFound?_setVm hvm h2
  exact ⟨c, k', i, f, a, cell, by rw [hvm.findClass]; exact h1, hi', h3, by rw [he]; exact h4, h5, h6, h7, h8, by rw [he]; exact h9, h10⟩
theorem vx_L.kept {C n d : String} {A : Nat → Prop} {U : State} {H H1 : Heap} (h : vx_L C n d A U H) (hq : ∀ a : Nat, a < H.size → ¬ A a → H1[a]? = H[a]?) : vx_L C n d A U H1 := by
  obtain ⟨c, k, i, f, a, cell, h1, h2, h3, h4, h5, h6, h7, h8, h9, h10⟩ := h
  exact ⟨c, k, i, f, a, cell, h1, h2, h3, h4, by rw [hq a (Array.getElem?_eq_some_iff.mp h5).1 h10]; exact h5, h6, h7, h8, h9, h10⟩
theorem vx_L.narrow {C n d : String} {A B : Nat → Prop} {U : State} {H : Heap} (h : vx_L C n d A U H) (hAB : ∀ q, B q → A q) : vx_L C n d B U H := by
  obtain ⟨c, k, i, f, a, cell, h1, h2, h3, h4, h5, h6, h7, h8, h9, h10⟩ := h
  exact ⟨c, k, i, f, a, cell, h1, h2, h3, h4, h5, h6, h7, h8, h9, fun z => h10 (hAB _ z)⟩
theorem vx_L.word {C n d : String} {A : Nat → Prop} {s : State} {args : Array Value} (h : vx_L C n d A s s.heap) : (Cond.laysStatic C n d).before args s = true := by
  obtain ⟨c, k, i, f, a, cell, h1, h2, h3, h4, h5, h6, h7, h8, h9, -⟩ := h
  show (Cond.laysStatic C n d).holds args s none s [] = true
  exact Cond.laysStatic_of h1 h2 h3 h4 h5 h6 h7 h8 h9
/-- .. and what it holds: null or some reference -/
def vx_Zq (C n d : String) (A : Nat → Prop) (U : State) (H : Heap) : Prop := va_Zq C n d A U H ∧ vx_L C n d A U H
theorem vx_Zq.moved {C n d : String} {A : Nat → Prop} {u U : State} {H : Heap} (hvm : u.vm.Alike U.vm) (h : vx_Zq C n d A u H) : vx_Zq C n d A U H := ⟨va_Zq.moved hvm h.1, vx_L.moved hvm h.2⟩
theorem vx_Zq.kept {C n d : String} {A : Nat → Prop} {U : State} {H H1 : Heap} (h : vx_Zq C n d A U H) (hq : ∀ a : Nat, a < H.size → ¬ A a → H1[a]? = H[a]?) : vx_Zq C n d A U H1 := ⟨va_Zq.kept h.1 hq, vx_L.kept h.2 hq⟩
theorem vx_Zq.narrow {C n d : String} {A B : Nat → Prop} {U : State} {H : Heap} (h : vx_Zq C n d A U H) (hAB : ∀ q, B q → A q) : vx_Zq C n d B U H := ⟨va_Zq.narrow h.1 hAB, vx_L.narrow h.2 hAB⟩
theorem vx_Zqof {args : Array Value} {s : State} {C n d : String} {A : Nat → Prop} (hl : (Cond.laysStatic C n d).before args s = true) (hini : (Cond.initialized C).before args s = true) (h : (Cond.isRef (.static C n d)).before args s = true) (hA : ∀ a : Nat, a < s.heap.size → ¬ A a) : vx_Zq C n d A s s.heap := by
  refine ⟨va_Zqof hl hini h hA, ?_⟩
  obtain ⟨c, k, i, f, a, cell, h1, h2, h3, h4, h5, h6, h7, h8, h9⟩ := Cond.laysStatic_spec hl
  exact ⟨c, k, i, f, a, cell, h1, h2, h3, h4, h5, h6, h7, h8, h9, hA a (Array.getElem?_eq_some_iff.mp h5).1⟩
theorem vx_isRef {C n d : String} {v : Value} {A : Nat → Prop} {s : State} {args : Array Value} (h : va_Z C n d v A s s.heap) (hv : v.isRef = true) : (Cond.isRef (.static C n d)).before args s = true := by
  obtain ⟨cf, kf, fi, f, a, cell, h1, h2, h3, h4, h5, h6, h7, -⟩ := h
  have he : (Term.static C n d).eval args s none [] s = some v := by
    simp [Term.eval, State.fieldNamed?, h1, h2, h4, h5, h6, h7]
  simp only [Cond.before, Cond.holds, Cond.value, he]
  cases v <;> simp_all [Value.isRef]
theorem vx_isRefq {C n d : String} {A : Nat → Prop} {s : State} {args : Array Value} (h : va_Zq C n d A s s.heap) : (Cond.isRef (.static C n d)).before args s = true := by
  rcases h with h | ⟨t, h⟩
  · exact vx_isRef h rfl
  · exact vx_isRef h rfl
/-- the same frame, seen from here: as if the method were called anew in this heap -/
theorem vx_rebase {T : State} (X : Stand p l e R s m args below meth c T locs cells slots) {R' : Room} (hf : R'.frames ≤ R.frames) (hl : R'.locals ≤ R.locals) (hc : cells + R'.cells ≤ R.cells) (hs : slots + R'.slots ≤ R.slots) :
    Stand p l e R' ((T.setVm s.vm).setFrames (.invoking m args :: below)) m args below meth c T [] 0 0 := by
  have htop : (T.setVm s.vm).topJava?.isSome := X.here.top
  have hF : ((T.setVm s.vm).setFrames (.invoking m args :: below)).frames = .invoking m args :: below := State.frames_setFrames _ (State.cur_lt_of_top htop)
  obtain ⟨g₀, hg0⟩ := Option.isSome_iff_exists.mp htop
  obtain ⟨r, hr⟩ := State.topJava?_eq_some.mp hg0
  have hl9 : e.platform.stackLimits (T.setVm s.vm).me = e.platform.stackLimits s.me := X.limits
  have hb9 : (T.setVm s.vm).me.stackBytes = s.me.stackBytes := X.bytes
  refine ⟨X.admits, X.cas, X.clock, hF, ?_, X.hears, X.method, X.code, X.here, X.tail, X.warmed, ?_, ?_, ?_⟩
  · have h := X.room
    have hU : ((T.setVm s.vm).setFrames (.invoking m args :: below)).localsInUse = s.localsInUse := by
      rw [State.localsInUse_invoking hF (meth := meth) (c := c) X.method X.code, State.localsInUse_invoking X.frames X.method X.code]
    simp only [State.hasRoom, Bool.and_eq_true, decide_eq_true_eq] at h ⊢
    obtain ⟨⟨⟨⟨h1, h2, h3, h4, h5, h6⟩, h7⟩, h8⟩, h9⟩ := h
    rw [X.frames, List.length_cons] at h2 h3
    have q1 := X.heapSize
    have q2 := X.used
    simp only [hF, hU, List.length_cons, State.stackLimits_setFrames, State.stackBytes_setFrames, hl9, hb9]
    refine ⟨⟨⟨⟨by omega, by omega, by omega, by omega, by omega, h6⟩, ?_⟩, ?_⟩, X.book⟩
    · show T.heap.size + R'.cells ≤ e.platform.maxCells
      omega
    · show T.slotsUsed + R'.slots ≤ e.platform.maxSlots
      omega
  · rw [State.stackLimits_setFrames]; rfl
  · rw [State.stackBytes_setFrames]; rfl
  · refine ⟨?_, Nat.le_refl _, Nat.le_refl _, ?_, ?_, fun a c9 h9 => ⟨c9, h9, rfl, rfl, fun _ _ => rfl⟩⟩
    · obtain ⟨t, ht, -⟩ := State.frames_cons hr
      show T.setVm s.vm = { ((T.setVm s.vm).setFrames (.invoking m args :: below)).setFrames (T.setVm s.vm).frames with heap := T.heap, slotsUsed := T.slotsUsed }
      rw [State.setFrames_setFrames, State.setFrames_self ht]
      rfl
    · show T.slotsUsed = T.slotsUsed + ((T.heap.toList.drop T.heap.size).map (·.slots.size)).sum
      rw [List.drop_eq_nil_of_le (Nat.le_of_eq Array.length_toList)]
      rfl
    · show ((T.heap.toList.drop T.heap.size).map (·.slots.size)).sum ≤ 0
      rw [List.drop_eq_nil_of_le (Nat.le_of_eq Array.length_toList)]
      exact Nat.le_refl _
/-- 'throw new E()': new; dup; invokespecial; athrow -/
theorem vx_throw0 {cc : ByteArray} {pc : Nat} (hexec : p.tables.exec = Jvm.exec) (hb : c.code = cc) (hl : l.stackTraces = false) {own cls : String} {names : List String} {ik ic mc ms : Nat} {A : Nat → Prop}
    (hown : s.vm.findClass own = some m.cls) (hcls : Bundle.fit cls = true) (hnames : ∀ n ∈ names, Bundle.fit n = true)
    (hk : (Cond.classLink own ik cls).before args s = true) (hini : (Cond.initialized cls).before args s = true) (hat : ∀ w ∈ vx_at0 own ic cls names, w.before args s = true)
    (hgood : ∀ w ∈ Cond.classLink own ik cls :: Cond.initialized cls :: vx_at0 own ic cls names, vx_ot w = true)
    (hU : vx_Zq Bundle.tN "UNASSIGNED_STACK" Bundle.steD A s s.heap) (hN : vx_Zq Bundle.tN "SUPPRESSED_SENTINEL" Bundle.listD A s s.heap) (hS : va_S A s.heap H locs) (hsize : ls.size = c.maxLocals)
    (d0 : decode cc pc = .ok (.new ik, 3)) (d3 : decode cc (pc + 3) = .ok (.dup, 1)) (d4 : decode cc (pc + 4) = .ok (.invokespecial ic, 3)) (d7 : decode cc (pc + 7) = .ok (.athrow, 1))
    (hout : ∀ x ∈ c.exceptionTable.toList, covers x (pc + 7) = false)
    (hRframes : names.length + 3 < R.frames) (hRlocals : (rest.map fun v => v.category).sum + (13 * (names.length + 1) + 42) ≤ R.locals) (hRcells : cells + 1 ≤ R.cells) (hRslots : slots + 6 ≤ R.slots) (hlocks : meth.locks = false)
    (hx : ∀ t : State, s.vm.Alike t.vm → H.size ≤ t.heap.size → (∀ q : Nat, q < H.size → t.heap[q]? = H[q]?) → XC cls s t)
    (hf : ∀ z ∈ locs, free z.base) (hc : cells + 1 ≤ mc) (hs : slots + 6 ≤ ms) :
    W p l e R s m args below meth c H locs cells slots (vx_MQ below Qc XC args s mc ms free) (F0 m pc ls rest) := by
  intro T hT X
  have htr : e.platform.stackTraces = false := (show e.platform.stackTraces = l.stackTraces by rw [X.admits.platform]).trans hl
  have Y := vx_rebase X (R' := { frames := R.frames, locals := R.locals, cells := 1, slots := 6 }) (Nat.le_refl _) (Nat.le_refl _) hRcells hRslots
  obtain ⟨s', hA⟩ : ∃ z, z = (T.setVm s.vm).setFrames (.invoking m args :: below) := ⟨_, rfl⟩
  rw [← hA] at Y
  have hvm : s'.vm = s.vm := by rw [hA]; rfl
  have hhp : s'.heap = H := by rw [hA]; exact hT
  have hW0 : s.WarmedH s'.vm := by rw [hvm]; exact State.WarmedH.refl s
  have hat' : ∀ w ∈ vx_at0 own ic cls names, w.before args s' = true := fun w hw => vx_ot_at hW0 hvm.symm (hgood w (List.mem_cons_of_mem _ (List.mem_cons_of_mem _ hw))) (hat w hw)
  have hk' : (Cond.classLink own ik cls).before args s' = true := vx_ot_at hW0 hvm.symm (hgood _ List.mem_cons_self) hk
  have hini' : (Cond.initialized cls).before args s' = true := vx_ot_at hW0 hvm.symm (hgood _ (List.mem_cons_of_mem _ List.mem_cons_self)) hini
  have hU' : vx_Zq Bundle.tN "UNASSIGNED_STACK" Bundle.steD A s' s'.heap := by rw [hhp]; exact vx_Zq.moved hW0.alike (hU.kept hS.2.1)
  have hN' : vx_Zq Bundle.tN "SUPPRESSED_SENTINEL" Bundle.listD A s' s'.heap := by rw [hhp]; exact vx_Zq.moved hW0.alike (hN.kept hS.2.1)
  have h : ∀ w ∈ Bundle.ownAtoms0 own ic cls names, w.before args s' = true := vx_own hat' (vx_isRefq hU'.1) (vx_isRefq hN'.1) hU'.2.word hN'.2.word
  have hown' : s'.vm.findClass own = some m.cls := by rw [hvm]; exact hown
  have hins : (Cond.instantiable cls 6).before args s' = true := h _ (by simp [Bundle.ownAtoms0])
  obtain ⟨vm₁, cX, kX, hfX, hkX, -, -, X₁, st1⟩ := Y.newCold hexec (own := own) (C := cls) (index := ik) (n := 6) hown' hk' hins hini'
    (g := F0 m pc ls rest) rfl (by rw [hb]; exact d0) (Nat.le_refl _) (Nat.le_refl _)
  generalize hT1 : (T.setVm vm₁).pushCell { cls := cX, slots := kX.instanceTypes.map defaultValue, vm := .none } = T1 at X₁ st1
  have hcat : (Value.ref T.heap.size).category = 1 := rfl
  have hcellA : T1.heap[T.heap.size]? = some (freshCell cX kX) := by rw [← hT1]; exact State.heap_pushCell_size _ _
  have d3' : decode c.code (pc + 3) = .ok (.dup, 1) := by rw [hb]; exact d3
  obtain ⟨U, hsteps, hrun, hend, hW, hsame, ce, hce, hO⟩ := X₁.ctorThrow0 hexec htr (own := own) (cls := cls) (names := names) (ic := ic) hown' hcls hnames h (fun x hx => nomatch hx) hfX hkX hcellA (by rw [hhp, hT]; exact Nat.le_refl _)
    (g := { method := m, pc := pc + 4, locals := ls, stack := .ref T.heap.size :: .ref T.heap.size :: rest, locked := none }) rfl hsize rfl rfl (rest := rest) rfl
    (by rw [hb]; exact d4) (by rw [hb]; exact d7) hout hRframes (by simp only [List.map_cons, List.sum_cons, hcat]; omega) hlocks
  obtain ⟨f1, f2⟩ := vx_frame hsame
  rw [hhp] at f1 f2
  have hWs : s.WarmedH U.vm := State.WarmedH.trans hW0 hW
  have hcl : s.vm.findClass cls = some ce.cls := by
    have h9 := hO.cls
    rw [hvm] at h9
    exact h9
  have hall : s.sameButNew ({ U with vm := s.vm } : State) locs mc ms := by
    subst hA
    obtain ⟨e1, e2⟩ := hsame
    rw [State.setFrames_setFrames] at e1
    have h2 : (T.setVm s.vm).sameButNew ({ U with vm := s.vm } : State) [] (0 + 1) (0 + 6) := ⟨e1, e2⟩
    have h3 := X.same.trans h2
    rw [List.append_nil] at h3
    exact h3.mono hc hs
  refine ⟨U, ?_, .threw T.heap.size, hrun, hend, Or.inr ⟨T.heap.size, rfl, cls, ce, locs, hx U hWs.alike f1 (fun q hq => f2 q hq (fun z hz => nomatch hz)), hce, hO.vm, hcl, hWs, hall, hf⟩⟩
  refine st1 _ ?_
  show Steps p.tables e below (T1.setTop { method := m, pc := pc + 3, locals := ls, stack := .ref T.heap.size :: rest, locked := none }) _
  jvm_step X₁.here [X₁.here.top, hexec, d3', Value.category]
  exact hsteps
/-- 'throw new E("text")': new; dup; ldc; invokespecial; athrow -/
theorem vx_throwS {cc : ByteArray} {pc : Nat} (hexec : p.tables.exec = Jvm.exec) (hb : c.code = cc) (hl : l.stackTraces = false) {own cls text : String} {names : List String} {ik is ic mc ms sa : Nat} {A : Nat → Prop}
    (hown : s.vm.findClass own = some m.cls) (hcls : Bundle.fit cls = true) (hnames : ∀ n ∈ names, Bundle.fit n = true)
    (hk : (Cond.classLink own ik cls).before args s = true) (hini : (Cond.initialized cls).before args s = true) (hstr : vk_R own is text sa s) (hat : ∀ w ∈ vx_atS own ic cls names, w.before args s = true)
    (hgood : ∀ w ∈ Cond.classLink own ik cls :: Cond.initialized cls :: vx_atS own ic cls names, vx_ot w = true)
    (hU : vx_Zq Bundle.tN "UNASSIGNED_STACK" Bundle.steD A s s.heap) (hN : vx_Zq Bundle.tN "SUPPRESSED_SENTINEL" Bundle.listD A s s.heap) (hS : va_S A s.heap H locs) (hsize : ls.size = c.maxLocals)
    (d0 : decode cc pc = .ok (.new ik, 3)) (d3 : decode cc (pc + 3) = .ok (.dup, 1)) (d4 : decode cc (pc + 4) = .ok (.ldc is, 2)) (d6 : decode cc (pc + 6) = .ok (.invokespecial ic, 3)) (d9 : decode cc (pc + 9) = .ok (.athrow, 1))
    (hout : ∀ x ∈ c.exceptionTable.toList, covers x (pc + 9) = false)
    (hRframes : names.length + 3 < R.frames) (hRlocals : (rest.map fun v => v.category).sum + (13 * (names.length + 1) + 43) ≤ R.locals) (hRcells : cells + 1 ≤ R.cells) (hRslots : slots + 6 ≤ R.slots) (hlocks : meth.locks = false)
    (hx : ∀ t : State, s.vm.Alike t.vm → H.size ≤ t.heap.size → (∀ q : Nat, q < H.size → t.heap[q]? = H[q]?) → XC cls s t)
    (hf : ∀ z ∈ locs, free z.base) (hc : cells + 1 ≤ mc) (hs : slots + 6 ≤ ms) :
    W p l e R s m args below meth c H locs cells slots (vx_MQ below Qc XC args s mc ms free) (F0 m pc ls rest) := by
  intro T hT X
  have htr : e.platform.stackTraces = false := (show e.platform.stackTraces = l.stackTraces by rw [X.admits.platform]).trans hl
  have Y := vx_rebase X (R' := { frames := R.frames, locals := R.locals, cells := 1, slots := 6 }) (Nat.le_refl _) (Nat.le_refl _) hRcells hRslots
  obtain ⟨s', hA⟩ : ∃ z, z = (T.setVm s.vm).setFrames (.invoking m args :: below) := ⟨_, rfl⟩
  rw [← hA] at Y
  have hvm : s'.vm = s.vm := by rw [hA]; rfl
  have hhp : s'.heap = H := by rw [hA]; exact hT
  have hW0 : s.WarmedH s'.vm := by rw [hvm]; exact State.WarmedH.refl s
  have hat' : ∀ w ∈ vx_atS own ic cls names, w.before args s' = true := fun w hw => vx_ot_at hW0 hvm.symm (hgood w (List.mem_cons_of_mem _ (List.mem_cons_of_mem _ hw))) (hat w hw)
  have hk' : (Cond.classLink own ik cls).before args s' = true := vx_ot_at hW0 hvm.symm (hgood _ List.mem_cons_self) hk
  have hini' : (Cond.initialized cls).before args s' = true := vx_ot_at hW0 hvm.symm (hgood _ (List.mem_cons_of_mem _ List.mem_cons_self)) hini
  have hU' : vx_Zq Bundle.tN "UNASSIGNED_STACK" Bundle.steD A s' s'.heap := by rw [hhp]; exact vx_Zq.moved hW0.alike (hU.kept hS.2.1)
  have hN' : vx_Zq Bundle.tN "SUPPRESSED_SENTINEL" Bundle.listD A s' s'.heap := by rw [hhp]; exact vx_Zq.moved hW0.alike (hN.kept hS.2.1)
  have h : ∀ w ∈ Bundle.ownAtoms own ic cls names, w.before args s' = true := vx_own hat' (vx_isRefq hU'.1) (vx_isRefq hN'.1) hU'.2.word hN'.2.word
  have hown' : s'.vm.findClass own = some m.cls := by rw [hvm]; exact hown
  have hins : (Cond.instantiable cls 6).before args s' = true := h _ (by simp [Bundle.ownAtoms])
  obtain ⟨vm₁, cX, kX, hfX, hkX, -, -, X₁, st1⟩ := Y.newCold hexec (own := own) (C := cls) (index := ik) (n := 6) hown' hk' hins hini'
    (g := F0 m pc ls rest) rfl (by rw [hb]; exact d0) (Nat.le_refl _) (Nat.le_refl _)
  generalize hT1 : (T.setVm vm₁).pushCell { cls := cX, slots := kX.instanceTypes.map defaultValue, vm := .none } = T1 at X₁ st1
  have hcat : (Value.ref T.heap.size).category = 1 := rfl
  have hcellA : T1.heap[T.heap.size]? = some (freshCell cX kX) := by rw [← hT1]; exact State.heap_pushCell_size _ _
  have d3' : decode c.code (pc + 3) = .ok (.dup, 1) := by rw [hb]; exact d3
  have d4' : decode c.code (pc + 4) = .ok (.ldc is, 2) := by rw [hb]; exact d4
  have hstr' : vk_R own is text sa s' := vk_R.warm hW0 hstr
  obtain ⟨U, hsteps, hrun, hend, hW, hsame, ce, hce, hO⟩ := X₁.ctorThrowS hexec htr (own := own) (cls := cls) (names := names) (ic := ic) hown' hcls hnames h (fun x hx => nomatch hx) hfX hkX hcellA (by rw [hhp, hT]; exact Nat.le_refl _) (msg := .ref sa) rfl
    (g := { method := m, pc := pc + 6, locals := ls, stack := .ref sa :: .ref T.heap.size :: .ref T.heap.size :: rest, locked := none }) rfl hsize rfl rfl (rest := rest) rfl
    (by rw [hb]; exact d6) (by rw [hb]; exact d9) hout hRframes (by simp only [List.map_cons, List.sum_cons, hcat]; omega) hlocks
  obtain ⟨f1, f2⟩ := vx_frame hsame
  rw [hhp] at f1 f2
  have hWs : s.WarmedH U.vm := State.WarmedH.trans hW0 hW
  have hcl : s.vm.findClass cls = some ce.cls := by
    have h9 := hO.cls
    rw [hvm] at h9
    exact h9
  have hall : s.sameButNew ({ U with vm := s.vm } : State) locs mc ms := by
    subst hA
    obtain ⟨e1, e2⟩ := hsame
    rw [State.setFrames_setFrames] at e1
    have h2 : (T.setVm s.vm).sameButNew ({ U with vm := s.vm } : State) [] (0 + 1) (0 + 6) := ⟨e1, e2⟩
    have h3 := X.same.trans h2
    rw [List.append_nil] at h3
    exact h3.mono hc hs
  refine ⟨U, ?_, .threw T.heap.size, hrun, hend, Or.inr ⟨T.heap.size, rfl, cls, ce, locs, hx U hWs.alike f1 (fun q hq => f2 q hq (fun z hz => nomatch hz)), hce, hO.vm, hcl, hWs, hall, hf⟩⟩
  refine st1 _ ?_
  show Steps p.tables e below (T1.setTop { method := m, pc := pc + 3, locals := ls, stack := .ref T.heap.size :: rest, locked := none }) _
  jvm_step X₁.here [X₁.here.top, hexec, d3', Value.category]
  exact X₁.ldcString hexec (own := own) (text := text) (index := is) (a := sa) hown' hstr'.1 hstr'.2
    (g := { method := m, pc := pc + 4, locals := ls, stack := .ref T.heap.size :: .ref T.heap.size :: rest, locked := none }) rfl d4' _ hsteps
/-- 'throw new E("text")', the text by a wide index -/
theorem vx_throwSW {cc : ByteArray} {pc : Nat} (hexec : p.tables.exec = Jvm.exec) (hb : c.code = cc) (hl : l.stackTraces = false) {own cls text : String} {names : List String} {ik is ic mc ms sa : Nat} {A : Nat → Prop}
    (hown : s.vm.findClass own = some m.cls) (hcls : Bundle.fit cls = true) (hnames : ∀ n ∈ names, Bundle.fit n = true)
    (hk : (Cond.classLink own ik cls).before args s = true) (hini : (Cond.initialized cls).before args s = true) (hstr : vk_R own is text sa s) (hat : ∀ w ∈ vx_atS own ic cls names, w.before args s = true)
    (hgood : ∀ w ∈ Cond.classLink own ik cls :: Cond.initialized cls :: vx_atS own ic cls names, vx_ot w = true)
    (hU : vx_Zq Bundle.tN "UNASSIGNED_STACK" Bundle.steD A s s.heap) (hN : vx_Zq Bundle.tN "SUPPRESSED_SENTINEL" Bundle.listD A s s.heap) (hS : va_S A s.heap H locs) (hsize : ls.size = c.maxLocals)
    (d0 : decode cc pc = .ok (.new ik, 3)) (d3 : decode cc (pc + 3) = .ok (.dup, 1)) (d4 : decode cc (pc + 4) = .ok (.ldc_w is, 3)) (d7 : decode cc (pc + 7) = .ok (.invokespecial ic, 3)) (d10 : decode cc (pc + 10) = .ok (.athrow, 1))
    (hout : ∀ x ∈ c.exceptionTable.toList, covers x (pc + 10) = false)
    (hRframes : names.length + 3 < R.frames) (hRlocals : (rest.map fun v => v.category).sum + (13 * (names.length + 1) + 43) ≤ R.locals) (hRcells : cells + 1 ≤ R.cells) (hRslots : slots + 6 ≤ R.slots) (hlocks : meth.locks = false)
    (hx : ∀ t : State, s.vm.Alike t.vm → H.size ≤ t.heap.size → (∀ q : Nat, q < H.size → t.heap[q]? = H[q]?) → XC cls s t)
    (hf : ∀ z ∈ locs, free z.base) (hc : cells + 1 ≤ mc) (hs : slots + 6 ≤ ms) :
    W p l e R s m args below meth c H locs cells slots (vx_MQ below Qc XC args s mc ms free) (F0 m pc ls rest) := by
  intro T hT X
  have htr : e.platform.stackTraces = false := (show e.platform.stackTraces = l.stackTraces by rw [X.admits.platform]).trans hl
  have Y := vx_rebase X (R' := { frames := R.frames, locals := R.locals, cells := 1, slots := 6 }) (Nat.le_refl _) (Nat.le_refl _) hRcells hRslots
  obtain ⟨s', hA⟩ : ∃ z, z = (T.setVm s.vm).setFrames (.invoking m args :: below) := ⟨_, rfl⟩
  rw [← hA] at Y
  have hvm : s'.vm = s.vm := by rw [hA]; rfl
  have hhp : s'.heap = H := by rw [hA]; exact hT
  have hW0 : s.WarmedH s'.vm := by rw [hvm]; exact State.WarmedH.refl s
  have hat' : ∀ w ∈ vx_atS own ic cls names, w.before args s' = true := fun w hw => vx_ot_at hW0 hvm.symm (hgood w (List.mem_cons_of_mem _ (List.mem_cons_of_mem _ hw))) (hat w hw)
  have hk' : (Cond.classLink own ik cls).before args s' = true := vx_ot_at hW0 hvm.symm (hgood _ List.mem_cons_self) hk
  have hini' : (Cond.initialized cls).before args s' = true := vx_ot_at hW0 hvm.symm (hgood _ (List.mem_cons_of_mem _ List.mem_cons_self)) hini
  have hU' : vx_Zq Bundle.tN "UNASSIGNED_STACK" Bundle.steD A s' s'.heap := by rw [hhp]; exact vx_Zq.moved hW0.alike (hU.kept hS.2.1)
  have hN' : vx_Zq Bundle.tN "SUPPRESSED_SENTINEL" Bundle.listD A s' s'.heap := by rw [hhp]; exact vx_Zq.moved hW0.alike (hN.kept hS.2.1)
  have h : ∀ w ∈ Bundle.ownAtoms own ic cls names, w.before args s' = true := vx_own hat' (vx_isRefq hU'.1) (vx_isRefq hN'.1) hU'.2.word hN'.2.word
  have hown' : s'.vm.findClass own = some m.cls := by rw [hvm]; exact hown
  have hins : (Cond.instantiable cls 6).before args s' = true := h _ (by simp [Bundle.ownAtoms])
  obtain ⟨vm₁, cX, kX, hfX, hkX, -, -, X₁, st1⟩ := Y.newCold hexec (own := own) (C := cls) (index := ik) (n := 6) hown' hk' hins hini'
    (g := F0 m pc ls rest) rfl (by rw [hb]; exact d0) (Nat.le_refl _) (Nat.le_refl _)
  generalize hT1 : (T.setVm vm₁).pushCell { cls := cX, slots := kX.instanceTypes.map defaultValue, vm := .none } = T1 at X₁ st1
  have hcat : (Value.ref T.heap.size).category = 1 := rfl
  have hcellA : T1.heap[T.heap.size]? = some (freshCell cX kX) := by rw [← hT1]; exact State.heap_pushCell_size _ _
  have d3' : decode c.code (pc + 3) = .ok (.dup, 1) := by rw [hb]; exact d3
  have d4' : decode c.code (pc + 4) = .ok (.ldc_w is, 3) := by rw [hb]; exact d4
  have hstr' : vk_R own is text sa s' := vk_R.warm hW0 hstr
  obtain ⟨U, hsteps, hrun, hend, hW, hsame, ce, hce, hO⟩ := X₁.ctorThrowS hexec htr (own := own) (cls := cls) (names := names) (ic := ic) hown' hcls hnames h (fun x hx => nomatch hx) hfX hkX hcellA (by rw [hhp, hT]; exact Nat.le_refl _) (msg := .ref sa) rfl
    (g := { method := m, pc := pc + 7, locals := ls, stack := .ref sa :: .ref T.heap.size :: .ref T.heap.size :: rest, locked := none }) rfl hsize rfl rfl (rest := rest) rfl
    (by rw [hb]; exact d7) (by rw [hb]; exact d10) hout hRframes (by simp only [List.map_cons, List.sum_cons, hcat]; omega) hlocks
  obtain ⟨f1, f2⟩ := vx_frame hsame
  rw [hhp] at f1 f2
  have hWs : s.WarmedH U.vm := State.WarmedH.trans hW0 hW
  have hcl : s.vm.findClass cls = some ce.cls := by
    have h9 := hO.cls
    rw [hvm] at h9
    exact h9
  have hall : s.sameButNew ({ U with vm := s.vm } : State) locs mc ms := by
    subst hA
    obtain ⟨e1, e2⟩ := hsame
    rw [State.setFrames_setFrames] at e1
    have h2 : (T.setVm s.vm).sameButNew ({ U with vm := s.vm } : State) [] (0 + 1) (0 + 6) := ⟨e1, e2⟩
    have h3 := X.same.trans h2
    rw [List.append_nil] at h3
    exact h3.mono hc hs
  refine ⟨U, ?_, .threw T.heap.size, hrun, hend, Or.inr ⟨T.heap.size, rfl, cls, ce, locs, hx U hWs.alike f1 (fun q hq => f2 q hq (fun z hz => nomatch hz)), hce, hO.vm, hcl, hWs, hall, hf⟩⟩
  refine st1 _ ?_
  show Steps p.tables e below (T1.setTop { method := m, pc := pc + 3, locals := ls, stack := .ref T.heap.size :: rest, locked := none }) _
  jvm_step X₁.here [X₁.here.top, hexec, d3', Value.category]
  exact X₁.ldcStringW hexec (own := own) (text := text) (index := is) (a := sa) hown' hstr'.1 hstr'.2
    (g := { method := m, pc := pc + 4, locals := ls, stack := .ref T.heap.size :: .ref T.heap.size :: rest, locked := none }) rfl d4' _ hsteps
end Ends
section Bodies
variable {l : Launch}
theorem vx_ofW {y : MethodName} {ws ws' : List Cond} {rm : Room} {Pc : Array Value → State → Prop} {Qc : Array Value → State → Outcome → State → Prop} {XC : String → State → State → Prop} {mc ms : Nat} {free : Addr → Prop} {cc : ByteArray} {maxL : Nat} {ret : Option FieldType}
    (hy : plainName y.cls = true) (hw : ws = Cond.code y cc maxL ret :: ws')
    (body : ∀ p e s m args below meth c s₁, BodyLoose p l y (headSpec ws rm) cc maxL ret e s m args below meth c s₁ → c.maxLocals = maxL → (∀ x ∈ c.exceptionTable.toList, False) → Pc args s →
      W p l e (headSpec ws rm).room s m args below meth c s.heap [] 0 0 (vx_MQ below Qc XC args s mc ms free) (entryFrame m args maxL)) : vx_Met l y ws rm Pc Qc XC mc ms free := by
  refine MetFree.of_bodyS (code := cc) (maxLocals := maxL) (ret := ret) hy ?_ ?_
  · intro args s m h hn
    obtain ⟨meth, c, h1, h2, h3, h4, h5, h6, -, -⟩ := Cond.code_spec hn (atoms_spec (ws := ws) h _ (by rw [hw]; exact List.mem_cons_self))
    exact ⟨meth, c, h1, h2, h3, h4, h5, h6⟩
  · intro p e s m args below meth c s₁ B hml hP _
    have hh0 : s₁.heap = s.heap := by rw [B.state]; rfl
    have ht : ∀ x ∈ c.exceptionTable.toList, False := by
      obtain ⟨meth9, c9, h1, h2, -, -, -, -, h7, -⟩ := Cond.code_spec B.named (atoms_spec (ws := ws) B.pre _ (by rw [hw]; exact List.mem_cons_self))
      cases Option.some.inj (h1.symm.trans B.method)
      cases Option.some.inj (h2.symm.trans (Stand.of_body B).code)
      intro x hx
      rw [Array.isEmpty_iff.mp h7] at hx
      cases hx
    obtain ⟨t, a1, o, b1, b2, b3⟩ := body p e s m args below meth c s₁ B hml ht hP s₁ hh0 (Stand.of_body B)
    exact ⟨t, o, a1, b1, b2, b3⟩
/-- the table of a body with handlers -/
theorem vx_table {p : Program} {x y : MethodName} {S : Spec} {cc bytes : ByteArray} {maxL maxL' : Nat} {ret ret' : Option FieldType} {e : Env} {s s₁ : State} {m : MethodId} {args : Array Value} {below : List Frame} {meth : Method} {c : Code} {hh : List (Nat × Nat × Nat × Nat)}
    (B : BodyLoose p l y S cc maxL ret e s m args below meth c s₁) (h : (Cond.codeWith y bytes maxL' ret' hh).before args s = true) : c.exceptionTable.toList = tableOf hh := by
  obtain ⟨m9, meth9, c9, hn9, h1, h2, -, -, h6, -⟩ := Cond.codeWith_spec h
  cases Option.some.inj (hn9.symm.trans B.named)
  cases Option.some.inj (h1.symm.trans B.method)
  cases Option.some.inj (h2.symm.trans (Stand.of_body B).code)
  rw [← h6, table_eq]
end Bodies
end VXA
/-! ===== END ===== -/
/-! ===== BEGIN a static call of a method with an exception table ===== -/
section VXS
variable {p : Program} {l : Launch} {e : Env} {R : Room} {s : State} {m : MethodId} {args : Array Value} {below : List Frame} {meth : Method} {c : Code} {T : State} {H : Heap} {locs : List Loc} {cells slots : Nat}
abbrev vx_CSW (R : Room) (s : State) (args : Array Value) (own : String) (index : Nat) (y : MethodName) (bytes : ByteArray) (maxL : Nat) (ret : Option FieldType) (hh : List (Nat × Nat × Nat × Nat)) (ws : List Cond) (rm : Room) (mc ms n : Nat) : Prop :=
  (rm.cells = mc ∧ rm.slots = ms ∧ rm.frames + 1 ≤ R.frames ∧ 8 + (maxL + 11) + rm.locals ≤ R.locals ∧ (∀ w ∈ ws, ∀ (a' : Array Value) (U : State), s.WarmedH U.vm → w.before a' U = true) ∧ Cond.codeWith y bytes maxL ret hh ∈ ws) ∧
  (Cond.codeWith y bytes maxL ret hh).before args s = true ∧ (Cond.initialized y.cls).before args s = true ∧ (y.cls ≠ "java/lang/invoke/MethodHandle" ∧ y.cls ≠ "java/lang/invoke/VarHandle") ∧
  (∀ sig, parseMethodDescriptor y.desc = some sig → n = sig.parameters.length) ∧ (Cond.methodLink own index y).before args s = true ∧ (Cond.static y).before args s = true
theorem vx_cwSW {own : String} {index maxL mc ms : Nat} {y : MethodName} {bytes : ByteArray} {ret : Option FieldType} {hh : List (Nat × Nat × Nat × Nat)} {Ts ws ws' : List Cond} {rm : Room} (n : Nat) (ht : ∀ w ∈ Ts, w.before args s = true) (hT : GoodIn Ts (va_wsS own index y ws)) (hw : ws = Cond.codeWith y bytes maxL ret hh :: ws') (hrc : rm.cells = mc) (hrs : rm.slots = ms)
    (hd : y.cls ≠ "java/lang/invoke/MethodHandle" ∧ y.cls ≠ "java/lang/invoke/VarHandle" ∧ (parseMethodDescriptor y.desc).map (fun d => d.parameters.length) = some n) (hR : rm.frames + 1 ≤ R.frames ∧ 8 + (maxL + 11) + rm.locals ≤ R.locals) :
    vx_CSW R s args own index y bytes maxL ret hh ws rm mc ms n := by
  have ok : ∀ w ∈ va_wsS own index y ws, w.before args s = true := fun w h => ht w (hT w h).1
  have hG : GoodIn Ts ws := fun w h => hT w (by unfold va_wsS; exact List.mem_append_right _ h)
  have hc : Cond.codeWith y bytes maxL ret hh ∈ ws := by rw [hw]; exact List.mem_cons_self
  refine ⟨⟨hrc, hrs, hR.1, hR.2, pay_in ht hG, hc⟩, ht _ (hG _ hc).1, ok _ (by simp [va_wsS]), ⟨hd.1, hd.2.1⟩, fun sig h => ?_, ok _ (by simp [va_wsS]), ok _ (by simp [va_wsS])⟩
  have h2 := hd.2.2
  rw [h] at h2
  exact (Option.some.inj h2).symm
theorem vx_callSW (X : Stand p l e R s m args below meth c T locs cells slots) (hexec : p.tables.exec = Jvm.exec) {own : String} {index : Nat} {y : MethodName} {bytes : ByteArray} {maxL : Nat} {ret : Option FieldType} {hh : List (Nat × Nat × Nat × Nat)}
    (hown : s.vm.findClass own = some m.cls) (hlink : (Cond.methodLink own index y).before args s = true) (hstat : (Cond.static y).before args s = true) (hinit : (Cond.initialized y.cls).before args s = true)
    (hcode : (Cond.codeWith y bytes maxL ret hh).before args s = true) (hy : y.cls ≠ "java/lang/invoke/MethodHandle" ∧ y.cls ≠ "java/lang/invoke/VarHandle")
    {W9 : Nat} {Pre : Pt → Array Value → Prop} {Post : Pt → Array Value → Option Value → Pt → Prop} (hK : Back l R p e below s args y 3 W9 Pre Post)
    {g : JFrame} (hg : g.method = m) (hsize : g.locals.size = c.maxLocals) {argsL rest : List Value} (hlen : ∀ sig, parseMethodDescriptor y.desc = some sig → argsL.length = sig.parameters.length)
    (hstack : g.stack = argsL.reverse ++ rest) (hW : 2 * g.monitorRoom + (rest.map fun v => v.category).sum ≤ W9) (hdg : decode c.code g.pc = .ok (.invokestatic index, 3))
    (hpre : ∀ vm₁, s.WarmedH vm₁ → Pre ⟨T.setVm vm₁, locs, cells, slots⟩ argsL.toArray) :
    ∃ (v : Option Value) (vm₁ : Vm) (B : Pt), s.WarmedH vm₁ ∧ Stand p l e R s m args below meth c B.U B.locs B.cells B.slots ∧ Post ⟨T.setVm vm₁, locs, cells, slots⟩ argsL.toArray v B ∧
      ∀ target, Steps p.tables e below (B.U.setTop { g with pc := g.pc + 3, stack := v.toList ++ rest }) target → Steps p.tables e below (T.setTop g) target := by
  obtain ⟨mk, methM, cM, hnamed, hmethM, -, -, -, -, -, -, hsigM⟩ := Cond.codeWith_spec hcode
  have hstatic : methM.isStatic = true := Cond.static_spec hnamed hmethM hstat
  obtain ⟨kP, hkP, -⟩ := className_of_methodNamed hnamed
  have hinitP : kP.init = .initialized := Cond.initialized_spec (findClass_of_methodNamed hnamed) hkP hinit
  obtain ⟨vm₁, X₁, hstep₁⟩ := X.invokestatic hexec hown hlink hnamed hmethM hstatic hkP hinitP hy (g := g) hg (argsL := argsL) (rest := rest) (hlen _ hsigM) hstack hdg
  obtain ⟨v, B, X', hpost, hsteps⟩ := hK m meth c ⟨T.setVm vm₁, locs, cells, slots⟩ { g with stack := rest } (.invokestatic index) mk argsL.toArray X₁ hg hsize hdg hW (X₁.named hnamed) (hpre vm₁ X₁.warmed)
  exact ⟨v, vm₁, B, X₁.warmed, X', hpost, fun target h => hstep₁ _ fun acts => by rw [doInvoke_state]; exact hsteps.trans h⟩
theorem vx_runSW {y : MethodName} {bytes cc : ByteArray} {maxL nL mc ms n index : Nat} {ret : Option FieldType} {hh : List (Nat × Nat × Nat × Nat)} {ws : List Cond} {rm : Room} {Pc : Array Value → State → Prop} {Qc : Array Value → State → Outcome → State → Prop} {free : Addr → Prop} {Ts : List Cond} {own : String} {As rest : List Value} {g : JFrame}
    (S : CallFix p m c cc nL s args Ts own) (hM : Met l y ws rm Pc Qc mc ms free) (cw : vx_CSW R s args own index y bytes maxL ret hh ws rm mc ms n) (hp : PreS s H Pc As)
    (hg : g.method = m) (hn : As.length = n) (hsize : g.locals.size = nL) (hstack : g.stack = As.reverse ++ rest) (hW : 2 * g.monitorRoom + (rest.map fun v => v.category).sum ≤ 8) (hdg : decode cc g.pc = .ok (.invokestatic index, 3)) (hf : cells + mc ≤ R.cells ∧ slots + ms ≤ R.slots) :
    va_Run p l e R s m args below meth c H locs cells slots mc ms g rest (Qc As.toArray) (free) := by
  obtain ⟨⟨hrc, hrs, hfr, hlo, hws, hcw⟩, hcode, hini, hy, hlen, hl, hstt⟩ := cw
  have hK : Back l R p e below s args y 3 8 (PreOf R mc ms Pc) (PostOf Qc mc ms free) := va_backW (hh := hh) (bytes := bytes) (maxL := maxL) (ret := ret) hM hp.1 hrc hrs hfr hlo hws hcw (fun a' U hW => word_at hW (Or.inl (by first | rfl | simp [Cond.onTables, Cond.keeps, Cond.steady])) hini)
  obtain ⟨hx, hb, hml, ho, -⟩ := S
  intro T hT X
  obtain ⟨v, vm₁, ⟨U', l2, c2, s2⟩, hW₁, X', ⟨g', mk, t, L, e1, e2, hq, h1, hL, h2, h3⟩, st⟩ := vx_callSW X hx (hh := hh) (bytes := bytes) (maxL := maxL) (ret := ret) ho hl hstt hini hcode hy hK hg (hsize.trans hml.symm) (argsL := As) (rest := rest) (fun sig h => hn.trans (hlen sig h)) hstack hW (by rw [hb]; exact hdg)
    (fun vm₁ hW₁ => ⟨hf.1, hf.2, hp.2 (T.setVm vm₁) hT hW₁⟩)
  dsimp only [Pt.U, Pt.locs, Pt.cells, Pt.slots] at X' e1 e2 h1 h2 h3 st
  subst h1; subst h2; subst h3
  exact ⟨v, (T.setVm vm₁).calling g' mk As.toArray, t, U', L, hT, X', hL, e1, e2, hq, st⟩
/-- not caught here, past rows that name other classes: it goes on to the caller -/
theorem vx_outP {p : Program} {l : Launch} {e : Env} {R : Room} {s : State} {m : MethodId} {args : Array Value} {below : List Frame} {meth : Method} {c : Code} {H : Heap} {locs : List Loc} {cells slots : Nat} {free : Addr → Prop} {ls : Array Slot} {rest : List Value} {Qc : Array Value → State → Outcome → State → Prop} {XC : String → State → State → Prop}
    {pc : Nat} {own E : String} {ce : Cell} {q : Addr} {mc ms : Nat} (hown : s.vm.findClass own = some m.cls) (hlocks : meth.locks = false)
    (hpass : ∀ z ∈ c.exceptionTable.toList, covers z pc = false ∨ (z.catchType ≠ 0 ∧ ∃ nm : String, (Cond.classLink own z.catchType nm).before args s = true ∧ va_Nc E nm s)) (hcell : H[q]? = some ce) (hv : ce.vm = .none) (hcl : s.vm.findClass E = some ce.cls)
    (hx : ∀ t : State, t.heap = H → s.vm.Alike t.vm → XC E s t) (hf : ∀ z ∈ locs, free z.base) (hc : cells ≤ mc) (hs : slots ≤ ms) :
    vx_W p l e R s m args below meth c H locs cells slots (vx_MQ below Qc XC args s mc ms free) (F0 m pc ls rest) q := by
  intro T hT X
  have hpl : e.platform.magicAccessors = ({} : Platform).magicAccessors := by rw [X.admits.platform]
  obtain ⟨vm', hW', X', st⟩ := X.outThrough hlocks q (g := F0 m pc ls rest) rfl rfl rfl (cell := ce) (by rw [hT]; exact hcell) (by rw [hv]; rfl)
    (by obtain ⟨k9, h9, -⟩ := Vm.findClass_spec hcl; exact ⟨k9, h9⟩) (fun z hz => by
      rcases hpass z hz with h | ⟨hz0, nm, hl1, hn1⟩
      · exact Or.inl h
      · obtain ⟨c6, hc6, hcl6⟩ := Cond.classLink_spec hown hl1 e.platform hpl
        obtain ⟨a8, b8, h1, h2, h3⟩ := hn1
        cases Option.some.inj (h1.symm.trans hcl)
        cases Option.some.inj (h2.symm.trans hc6)
        exact Or.inr ⟨hz0, _, hcl6, h3⟩)
  obtain ⟨g₀, hfr⟩ := X'.frames_eq
  have hcell9 : ((T.setVm vm').setFrames (.throwing q :: below)).heap[q]? = some ce := by
    show T.heap[q]? = some ce
    rw [hT]; exact hcell
  have hend : Ended ((T.setVm vm').setFrames (.throwing q :: below)) below (.threw q) := State.frames_setFrames _ (State.cur_lt_of_frames hfr)
  refine ⟨(T.setVm vm').setFrames (.throwing q :: below), ?_, .threw q, X'.here.running, hend, Or.inr ⟨q, rfl, E, ce, locs, hx _ hT (X'.ends _).1.alike, hcell9, hv, hcl, (X'.ends _).1, (X'.ends _).2.mono hc hs, hf⟩⟩
  rw [X.pushThrowing_eq]
  exact st
/-- a thing of a world lies in the heap -/
theorem vx_lt {D : va_G} {cl : List vw_C} {ws : va_W} {H1 : Heap} (h : va_P D cl ws H1) {k : Nat} {q : Nat × va_E} (hk : ws[k]? = some q) : q.1 < H1.size := (h k q hk).lt
end VXS
/-! ===== END ===== -/
/-! ===== BEGIN methods with a table of their own: called by a name, returning or throwing ===== -/
section VXH
/-! vx_backW, vx_callVX, vx_callSX, vx_callVW, vx_runVW, vx_runVX, vx_runSX, vx_ofWH follow the same proofs as their sisters above (Free/Laws.lean, Shelf42/LK1.lean); vx_outP calls Shelf42/NT130.lean (outThrough). -/
section
variable {l : Launch} {R : Room} {p : Program} {e : Env} {below : List Frame} {s : State} {sargs : Array Value} {y : MethodName} {len W9 : Nat}
theorem vx_backW {ws : List Cond} {rm : Room} {Pc : Array Value → State → Prop} {Qc : Array Value → State → Outcome → State → Prop} {XC : String → State → State → Prop} {mc ms : Nat} {free : Addr → Prop} {bytes : ByteArray} {maxL : Nat} {ret : Option FieldType} {hh : List (Nat × Nat × Nat × Nat)}
    (hM : vx_Met l y ws rm Pc Qc XC mc ms free) (hblind : FrameBlind Pc) (hrc : rm.cells = mc) (hrs : rm.slots = ms)
    (hframes : rm.frames + 1 ≤ R.frames) (hlocals : W9 + (maxL + 11) + rm.locals ≤ R.locals)
    (hws : ∀ w ∈ ws, ∀ a' U, s.WarmedH U.vm → w.before a' U = true) (hcode : Cond.codeWith y bytes maxL ret hh ∈ ws) (hinit : ∀ a' U, s.WarmedH U.vm → (Cond.initialized y.cls).before a' U = true) :
    vx_Back l R p e below s sargs y len W9 (PreOf R mc ms Pc) (PostOf Qc mc ms free) (vx_Post XC mc ms free) := by
  intro m meth c A g ig mk a X hg hsize hdg hW hn hp
  have h1 : (headSpec ws rm).pre.before a A.U = true := atoms_intro fun w hw => hws w hw _ _ X.warmed
  have h2 : (Cond.codeWith y bytes maxL ret hh).before a A.U = true := hws _ hcode _ _ X.warmed
  have h3 : (Cond.initialized y.cls).before a A.U = true := hinit _ _ X.warmed
  have h4 : A.cells + (headSpec ws rm).room.cells ≤ R.cells := by rw [show (headSpec ws rm).room.cells = mc from hrc]; exact hp.1
  have h5 : A.slots + (headSpec ws rm).room.slots ≤ R.slots := by rw [show (headSpec ws rm).room.slots = ms from hrs]; exact hp.2.1
  have hPc : Pc a (A.U.calling g mk a) := hblind _ _ _ _ hp.2.2
  obtain ⟨U, Ls, c0, s0⟩ := A
  dsimp only [Pt.U, Pt.locs, Pt.cells, Pt.slots] at h1 h2 h3 h4 h5 X hn hPc ⊢
  obtain ⟨m9, methY, cY, hn9, hmY, hcY, -, hlY, -⟩ := Cond.codeWith_spec h2
  cases Option.some.inj (hn9.symm.trans hn)
  obtain ⟨kY, hkY, -⟩ := className_of_methodNamed hn
  have hinitY : kY.init = .initialized := Cond.initialized_spec (findClass_of_methodNamed hn) hkY h3
  have h : At U g.method c below := by rw [hg]; exact X.here
  have hlocals9 : W9 + (maxL + 11) + (headSpec ws rm).room.locals ≤ R.locals := hlocals
  have happ : (headSpec ws rm).appliesLoose y e.platform (U.calling g mk a) = true :=
    Spec.appliesLoose_calling (g := g) h hdg hn hkY hinitY
      (X.room_calling (g := g) (R' := (headSpec ws rm).room) hsize hmY hcY hframes (by rw [hlY]; omega) h4 h5) h1
  obtain ⟨mid, hmid⟩ := h.above
  have hfr : (U.setTop g).frames = (.java g :: mid) ++ below := by rw [State.frames_setTop' g h.top, hmid]; rfl
  obtain ⟨o, s₂, hsteps, -, hend, hq⟩ := Steps.callFree hM p X.admits X.cas X.clock (acts := []) hfr happ hPc trivial
  have hq' : vx_Q Qc XC mc ms free a (U.calling g mk a) o s₂ := hq
  rw [State.frames_setTop' g h.top] at hend
  obtain ⟨g₀, hg0⟩ := Option.isSome_iff_exists.mp h.top
  obtain ⟨r, hr⟩ := State.topJava?_eq_some.mp hg0
  have hr' : (({ U with heap := s₂.heap, slotsUsed := s₂.slotsUsed } : State).setVm s₂.vm).frames = .java g₀ :: r := hr
  rcases hq' with ⟨hqc, L, hfe, hL⟩ | ⟨q, rfl, E, ce, L, hx, hce, hcv, hcl, hW₂, hsm, hL⟩
  · obtain ⟨⟨v, rfl⟩, hW₂, e2, q2, q3, q4, q5, q6⟩ := id hfe
    have e3 : s₂ = ({ (U.calling g mk a).setFrames s₂.frames with heap := s₂.heap, slotsUsed := s₂.slotsUsed } : State).setVm s₂.vm := by
      have : s₂ = ({ s₂ with vm := (U.calling g mk a).vm } : State).setVm s₂.vm := rfl
      rw [e2] at this
      exact this
    obtain ⟨c₂, i₂, len₂, hc₂, hd₂, hf₂⟩ := hend
    have hW' : U.WarmedH s₂.vm := hW₂
    have hcc : c₂ = c := by
      have h1 : s₂.code? g.method = U.code? g.method := by
        rw [State.code?_eq, State.code?_eq, hW'.alike.method?]
      exact Option.some.inj (hc₂.symm.trans (h1.trans h.code))
    subst hcc
    have hlen : len₂ = len := by rw [hdg] at hd₂; cases hd₂; rfl
    subst hlen
    have hs₂ : s₂ = (({ U with heap := s₂.heap, slotsUsed := s₂.slotsUsed } : State).setVm s₂.vm).setTop { g with pc := g.pc + len₂, stack := v.toList ++ g.stack } := by
      refine e3.trans ?_
      rw [hf₂, State.calling_eq h.top, State.setFrames_setFrames, State.setTop_of_frames _ hr', hr]
      rfl
    have hsame : U.sameButNew ({ U with heap := s₂.heap, slotsUsed := s₂.slotsUsed } : State) L mc ms := by
      refine ⟨?_, q2, q3, q4, q5, q6⟩
      obtain ⟨t, ht, -⟩ := State.frames_cons hr
      show ({ U with heap := s₂.heap, slotsUsed := s₂.slotsUsed } : State) = { U.setFrames U.frames with heap := s₂.heap, slotsUsed := s₂.slotsUsed }
      rw [State.setFrames_self ht]
    subst hg
    refine Or.inl ⟨v, ⟨(({ U with heap := s₂.heap, slotsUsed := s₂.slotsUsed } : State).setVm s₂.vm), Ls ++ L, c0 + mc, s0 + ms⟩,
      ⟨X.admits, X.cas, X.clock, X.frames, X.room, X.hears, X.method, X.code, (X.here.setHeapUsed s₂.heap s₂.slotsUsed).setVm hW'.alike, X.tail, State.WarmedH.trans X.warmed hW', X.limits, X.bytes, X.same.trans (hsame.setVm s.vm)⟩,
      ⟨g, mk, s₂, L, rfl, rfl, hqc, rfl, hL, rfl, rfl⟩, ?_⟩
    show Steps p.tables e below _ ((({ U with heap := s₂.heap, slotsUsed := s₂.slotsUsed } : State).setVm s₂.vm).setTop { g with pc := g.pc + len₂, stack := v.toList ++ g.stack })
    rw [← hs₂]
    exact hsteps
  · obtain ⟨e2, q2, q3, q4, q5, q6⟩ := id hsm
    have e3 : s₂ = ({ (U.calling g mk a).setFrames s₂.frames with heap := s₂.heap, slotsUsed := s₂.slotsUsed } : State).setVm s₂.vm := by
      have : s₂ = ({ s₂ with vm := (U.calling g mk a).vm } : State).setVm s₂.vm := rfl
      rw [e2] at this
      exact this
    have hf₂ : s₂.frames = .throwing q :: .java g :: U.frames.tail := hend
    have hW' : U.WarmedH s₂.vm := hW₂
    have hs₂ : s₂ = ((({ U with heap := s₂.heap, slotsUsed := s₂.slotsUsed } : State).setVm s₂.vm).setTop g).pushFrame (.throwing q) := by
      refine e3.trans ?_
      rw [hf₂, State.calling_eq h.top, State.setFrames_setFrames, State.pushFrame, State.frames_setTop _ hr', State.setTop_of_frames _ hr', State.setFrames_setFrames, hr]
      rfl
    have hsame : U.sameButNew ({ U with heap := s₂.heap, slotsUsed := s₂.slotsUsed } : State) L mc ms := by
      refine ⟨?_, q2, q3, q4, q5, q6⟩
      obtain ⟨t, ht, -⟩ := State.frames_cons hr
      show ({ U with heap := s₂.heap, slotsUsed := s₂.slotsUsed } : State) = { U.setFrames U.frames with heap := s₂.heap, slotsUsed := s₂.slotsUsed }
      rw [State.setFrames_self ht]
    subst hg
    refine Or.inr ⟨q, ⟨(({ U with heap := s₂.heap, slotsUsed := s₂.slotsUsed } : State).setVm s₂.vm), Ls ++ L, c0 + mc, s0 + ms⟩,
      ⟨X.admits, X.cas, X.clock, X.frames, X.room, X.hears, X.method, X.code, (X.here.setHeapUsed s₂.heap s₂.slotsUsed).setVm hW'.alike, X.tail, State.WarmedH.trans X.warmed hW', X.limits, X.bytes, X.same.trans (hsame.setVm s.vm)⟩,
      ⟨g, mk, s₂, L, E, ce, rfl, rfl, hx, hce, hcv, hcl, rfl, hL, rfl, rfl⟩, ?_⟩
    show Steps p.tables e below _ (((({ U with heap := s₂.heap, slotsUsed := s₂.slotsUsed } : State).setVm s₂.vm).setTop g).pushFrame (.throwing q))
    rw [← hs₂]
    exact hsteps
end
variable {p : Program} {l : Launch} {e : Env} {R : Room} {s : State} {m : MethodId} {args : Array Value} {below : List Frame} {meth : Method} {c : Code} {T : State} {H : Heap} {locs : List Loc} {cells slots : Nat}
theorem vx_callVX (X : Stand p l e R s m args below meth c T locs cells slots) (hexec : p.tables.exec = Jvm.exec) {own C : String} {index : Nat} {y : MethodName} {bytes : ByteArray} {maxL : Nat} {ret : Option FieldType} {hh : List (Nat × Nat × Nat × Nat)}
    (hown : s.vm.findClass own = some m.cls) (hlink : (Cond.methodLink own index y).before args s = true) (hinst : (Cond.instanceMethod y).before args s = true) (hsel : (Cond.selects C y y).before args s = true)
    (hcode : (Cond.codeWith y bytes maxL ret hh).before args s = true) (hy : y.cls ≠ "java/lang/invoke/MethodHandle" ∧ y.cls ≠ "java/lang/invoke/VarHandle")
    {W9 : Nat} {Pre : Pt → Array Value → Prop} {Post : Pt → Array Value → Option Value → Pt → Prop} {PostX : Pt → Array Value → Addr → Pt → Prop} (hK : vx_Back l R p e below s args y 3 W9 Pre Post PostX)
    {b : Addr} {cellB : Cell} (hcell : T.heap[b]? = some cellB) (hobj : cellB.vm.isStatics = false) (hcls : s.vm.findClass C = some cellB.cls)
    {g : JFrame} (hg : g.method = m) (hsize : g.locals.size = c.maxLocals) {argsL rest : List Value} (hlen : ∀ sig, parseMethodDescriptor y.desc = some sig → argsL.length = sig.parameters.length)
    (hstack : g.stack = argsL.reverse ++ .ref b :: rest) (hW : 2 * g.monitorRoom + (rest.map fun v => v.category).sum ≤ W9) (hdg : decode c.code g.pc = .ok (.invokevirtual index, 3))
    (hpre : ∀ vm₁, s.WarmedH vm₁ → Pre ⟨T.setVm vm₁, locs, cells, slots⟩ (Value.ref b :: argsL).toArray) :
    (∃ (v : Option Value) (vm₁ : Vm) (B : Pt), s.WarmedH vm₁ ∧ Stand p l e R s m args below meth c B.U B.locs B.cells B.slots ∧ Post ⟨T.setVm vm₁, locs, cells, slots⟩ (Value.ref b :: argsL).toArray v B ∧
      ∀ target, Steps p.tables e below (B.U.setTop { g with pc := g.pc + 3, stack := v.toList ++ rest }) target → Steps p.tables e below (T.setTop g) target) ∨
    (∃ (q : Addr) (vm₁ : Vm) (B : Pt), s.WarmedH vm₁ ∧ Stand p l e R s m args below meth c B.U B.locs B.cells B.slots ∧ PostX ⟨T.setVm vm₁, locs, cells, slots⟩ (Value.ref b :: argsL).toArray q B ∧
      Steps p.tables e below (T.setTop g) ((B.U.setTop { g with stack := rest }).pushFrame (.throwing q))) := by
  obtain ⟨mk, methM, hnamed, hmethM, hstM, habM⟩ := Cond.instanceMethod_spec hinst
  obtain ⟨m8, methM', cM, hn8, hmethM', -, -, -, -, -, -, hsigM⟩ := Cond.codeWith_spec hcode
  cases Option.some.inj (hn8.symm.trans hnamed)
  cases hmethM.symm.trans hmethM'
  obtain ⟨c2, r2, m2, q1, q2, q3, q4, kP, hkP, hkPi⟩ := Cond.selects_spec hsel
  cases hcls.symm.trans q1
  cases (State.methodFound?_of_named hnamed hy).symm.trans q2
  cases hnamed.symm.trans q3
  have hselP : selectMethod e.platform s.vm cellB.cls mk = .method mk := by rw [Launch.admits_selectMethod X.admits]; exact q4
  obtain ⟨vm₁, X₁, hstep₁⟩ := X.invokevirtual hexec hown hlink hnamed hmethM hstM hkP hkPi hy (a := b) (cell := cellB) hcell
    (fun z h => by rw [h] at hobj; cases hobj) hselP hmethM habM hkP hkPi (g := g) hg (argsL := argsL) (rest := rest) (hlen _ hsigM) hstack hdg
  rcases hK m meth c ⟨T.setVm vm₁, locs, cells, slots⟩ { g with stack := rest } (.invokevirtual index) mk (Value.ref b :: argsL).toArray X₁ hg hsize hdg hW (X₁.named hnamed) (hpre vm₁ X₁.warmed) with ⟨v, B, X', hpost, hsteps⟩ | ⟨q, B, X', hpost, hsteps⟩
  · exact Or.inl ⟨v, vm₁, B, X₁.warmed, X', hpost, fun target h => hstep₁ _ fun acts => by rw [doInvoke_state]; exact hsteps.trans h⟩
  · exact Or.inr ⟨q, vm₁, B, X₁.warmed, X', hpost, hstep₁ _ fun acts => by rw [doInvoke_state]; exact hsteps⟩
theorem vx_callSX (X : Stand p l e R s m args below meth c T locs cells slots) (hexec : p.tables.exec = Jvm.exec) {own : String} {index : Nat} {y : MethodName} {bytes : ByteArray} {maxL : Nat} {ret : Option FieldType} {hh : List (Nat × Nat × Nat × Nat)}
    (hown : s.vm.findClass own = some m.cls) (hlink : (Cond.methodLink own index y).before args s = true) (hstat : (Cond.static y).before args s = true) (hinit : (Cond.initialized y.cls).before args s = true)
    (hcode : (Cond.codeWith y bytes maxL ret hh).before args s = true) (hy : y.cls ≠ "java/lang/invoke/MethodHandle" ∧ y.cls ≠ "java/lang/invoke/VarHandle")
    {W9 : Nat} {Pre : Pt → Array Value → Prop} {Post : Pt → Array Value → Option Value → Pt → Prop} {PostX : Pt → Array Value → Addr → Pt → Prop} (hK : vx_Back l R p e below s args y 3 W9 Pre Post PostX)
    {g : JFrame} (hg : g.method = m) (hsize : g.locals.size = c.maxLocals) {argsL rest : List Value} (hlen : ∀ sig, parseMethodDescriptor y.desc = some sig → argsL.length = sig.parameters.length)
    (hstack : g.stack = argsL.reverse ++ rest) (hW : 2 * g.monitorRoom + (rest.map fun v => v.category).sum ≤ W9) (hdg : decode c.code g.pc = .ok (.invokestatic index, 3))
    (hpre : ∀ vm₁, s.WarmedH vm₁ → Pre ⟨T.setVm vm₁, locs, cells, slots⟩ argsL.toArray) :
    (∃ (v : Option Value) (vm₁ : Vm) (B : Pt), s.WarmedH vm₁ ∧ Stand p l e R s m args below meth c B.U B.locs B.cells B.slots ∧ Post ⟨T.setVm vm₁, locs, cells, slots⟩ argsL.toArray v B ∧
      ∀ target, Steps p.tables e below (B.U.setTop { g with pc := g.pc + 3, stack := v.toList ++ rest }) target → Steps p.tables e below (T.setTop g) target) ∨
    (∃ (q : Addr) (vm₁ : Vm) (B : Pt), s.WarmedH vm₁ ∧ Stand p l e R s m args below meth c B.U B.locs B.cells B.slots ∧ PostX ⟨T.setVm vm₁, locs, cells, slots⟩ argsL.toArray q B ∧
      Steps p.tables e below (T.setTop g) ((B.U.setTop { g with stack := rest }).pushFrame (.throwing q))) := by
  obtain ⟨mk, methM, cM, hnamed, hmethM, -, -, -, -, -, -, hsigM⟩ := Cond.codeWith_spec hcode
  have hstatic : methM.isStatic = true := Cond.static_spec hnamed hmethM hstat
  obtain ⟨kP, hkP, -⟩ := className_of_methodNamed hnamed
  have hinitP : kP.init = .initialized := Cond.initialized_spec (findClass_of_methodNamed hnamed) hkP hinit
  obtain ⟨vm₁, X₁, hstep₁⟩ := X.invokestatic hexec hown hlink hnamed hmethM hstatic hkP hinitP hy (g := g) hg (argsL := argsL) (rest := rest) (hlen _ hsigM) hstack hdg
  rcases hK m meth c ⟨T.setVm vm₁, locs, cells, slots⟩ { g with stack := rest } (.invokestatic index) mk argsL.toArray X₁ hg hsize hdg hW (X₁.named hnamed) (hpre vm₁ X₁.warmed) with ⟨v, B, X', hpost, hsteps⟩ | ⟨q, B, X', hpost, hsteps⟩
  · exact Or.inl ⟨v, vm₁, B, X₁.warmed, X', hpost, fun target h => hstep₁ _ fun acts => by rw [doInvoke_state]; exact hsteps.trans h⟩
  · exact Or.inr ⟨q, vm₁, B, X₁.warmed, X', hpost, hstep₁ _ fun acts => by rw [doInvoke_state]; exact hsteps⟩
theorem vx_callVW (X : Stand p l e R s m args below meth c T locs cells slots) (hexec : p.tables.exec = Jvm.exec) {own C : String} {index : Nat} {y : MethodName} {bytes : ByteArray} {maxL : Nat} {ret : Option FieldType} {hh : List (Nat × Nat × Nat × Nat)}
    (hown : s.vm.findClass own = some m.cls) (hlink : (Cond.methodLink own index y).before args s = true) (hinst : (Cond.instanceMethod y).before args s = true) (hsel : (Cond.selects C y y).before args s = true)
    (hcode : (Cond.codeWith y bytes maxL ret hh).before args s = true) (hy : y.cls ≠ "java/lang/invoke/MethodHandle" ∧ y.cls ≠ "java/lang/invoke/VarHandle")
    {W9 : Nat} {Pre : Pt → Array Value → Prop} {Post : Pt → Array Value → Option Value → Pt → Prop} (hK : Back l R p e below s args y 3 W9 Pre Post)
    {b : Addr} {cellB : Cell} (hcell : T.heap[b]? = some cellB) (hobj : cellB.vm.isStatics = false) (hcls : s.vm.findClass C = some cellB.cls)
    {g : JFrame} (hg : g.method = m) (hsize : g.locals.size = c.maxLocals) {argsL rest : List Value} (hlen : ∀ sig, parseMethodDescriptor y.desc = some sig → argsL.length = sig.parameters.length)
    (hstack : g.stack = argsL.reverse ++ .ref b :: rest) (hW : 2 * g.monitorRoom + (rest.map fun v => v.category).sum ≤ W9) (hdg : decode c.code g.pc = .ok (.invokevirtual index, 3))
    (hpre : ∀ vm₁, s.WarmedH vm₁ → Pre ⟨T.setVm vm₁, locs, cells, slots⟩ (Value.ref b :: argsL).toArray) :
    ∃ (v : Option Value) (vm₁ : Vm) (B : Pt), s.WarmedH vm₁ ∧ Stand p l e R s m args below meth c B.U B.locs B.cells B.slots ∧ Post ⟨T.setVm vm₁, locs, cells, slots⟩ (Value.ref b :: argsL).toArray v B ∧
      ∀ target, Steps p.tables e below (B.U.setTop { g with pc := g.pc + 3, stack := v.toList ++ rest }) target → Steps p.tables e below (T.setTop g) target := by
  obtain ⟨mk, methM, hnamed, hmethM, hstM, habM⟩ := Cond.instanceMethod_spec hinst
  obtain ⟨m8, methM', cM, hn8, hmethM', -, -, -, -, -, -, hsigM⟩ := Cond.codeWith_spec hcode
  cases Option.some.inj (hn8.symm.trans hnamed)
  cases hmethM.symm.trans hmethM'
  obtain ⟨c2, r2, m2, q1, q2, q3, q4, kP, hkP, hkPi⟩ := Cond.selects_spec hsel
  cases hcls.symm.trans q1
  cases (State.methodFound?_of_named hnamed hy).symm.trans q2
  cases hnamed.symm.trans q3
  have hselP : selectMethod e.platform s.vm cellB.cls mk = .method mk := by rw [Launch.admits_selectMethod X.admits]; exact q4
  obtain ⟨vm₁, X₁, hstep₁⟩ := X.invokevirtual hexec hown hlink hnamed hmethM hstM hkP hkPi hy (a := b) (cell := cellB) hcell
    (fun z h => by rw [h] at hobj; cases hobj) hselP hmethM habM hkP hkPi (g := g) hg (argsL := argsL) (rest := rest) (hlen _ hsigM) hstack hdg
  obtain ⟨v, B, X', hpost, hsteps⟩ := hK m meth c ⟨T.setVm vm₁, locs, cells, slots⟩ { g with stack := rest } (.invokevirtual index) mk (Value.ref b :: argsL).toArray X₁ hg hsize hdg hW (X₁.named hnamed) (hpre vm₁ X₁.warmed)
  exact ⟨v, vm₁, B, X₁.warmed, X', hpost, fun target h => hstep₁ _ fun acts => by rw [doInvoke_state]; exact hsteps.trans h⟩
abbrev vx_CVW (R : Room) (s : State) (args : Array Value) (own C : String) (index : Nat) (y : MethodName) (bytes : ByteArray) (maxL : Nat) (ret : Option FieldType) (hh : List (Nat × Nat × Nat × Nat)) (ws : List Cond) (rm : Room) (mc ms n : Nat) : Prop :=
  (rm.cells = mc ∧ rm.slots = ms ∧ rm.frames + 1 ≤ R.frames ∧ 8 + (maxL + 11) + rm.locals ≤ R.locals ∧ (∀ w ∈ ws, ∀ (a' : Array Value) (U : State), s.WarmedH U.vm → w.before a' U = true) ∧ Cond.codeWith y bytes maxL ret hh ∈ ws) ∧
  (Cond.codeWith y bytes maxL ret hh).before args s = true ∧ (Cond.initialized y.cls).before args s = true ∧ (y.cls ≠ "java/lang/invoke/MethodHandle" ∧ y.cls ≠ "java/lang/invoke/VarHandle") ∧
  (∀ sig, parseMethodDescriptor y.desc = some sig → n = sig.parameters.length) ∧ (Cond.methodLink own index y).before args s = true ∧ (Cond.instanceMethod y).before args s = true ∧ (Cond.selects C y y).before args s = true
theorem vx_cwVW {own C : String} {index maxL mc ms : Nat} {y : MethodName} {bytes : ByteArray} {ret : Option FieldType} {hh : List (Nat × Nat × Nat × Nat)} {Ts ws ws' : List Cond} {rm : Room} (n : Nat) (ht : ∀ w ∈ Ts, w.before args s = true) (hT : GoodIn Ts (wsV own index C y ws)) (hw : ws = Cond.codeWith y bytes maxL ret hh :: ws') (hrc : rm.cells = mc) (hrs : rm.slots = ms)
    (hd : y.cls = C ∧ y.cls ≠ "java/lang/invoke/MethodHandle" ∧ y.cls ≠ "java/lang/invoke/VarHandle" ∧ (parseMethodDescriptor y.desc).map (fun d => d.parameters.length) = some n) (hR : rm.frames + 1 ≤ R.frames ∧ 8 + (maxL + 11) + rm.locals ≤ R.locals) :
    vx_CVW R s args own C index y bytes maxL ret hh ws rm mc ms n := by
  obtain ⟨hC, hd⟩ := hd
  subst hC
  have ok : ∀ w ∈ wsV own index y.cls y ws, w.before args s = true := fun w h => ht w (hT w h).1
  have hG : GoodIn Ts ws := fun w h => hT w (by unfold wsV; exact List.mem_append_right _ h)
  have hc : Cond.codeWith y bytes maxL ret hh ∈ ws := by rw [hw]; exact List.mem_cons_self
  refine ⟨⟨hrc, hrs, hR.1, hR.2, pay_in ht hG, hc⟩, ht _ (hG _ hc).1, ok _ (by simp [wsV]), ⟨hd.1, hd.2.1⟩, fun sig h => ?_, ok _ (by simp [wsV]), ok _ (by simp [wsV]), ok _ (by simp [wsV])⟩
  have h2 := hd.2.2
  rw [h] at h2
  exact (Option.some.inj h2).symm
theorem vx_runVW {y : MethodName} {bytes cc : ByteArray} {maxL nL mc ms n index : Nat} {ret : Option FieldType} {hh : List (Nat × Nat × Nat × Nat)} {ws : List Cond} {rm : Room} {Pc : Array Value → State → Prop} {Qc : Array Value → State → Outcome → State → Prop} {free : Addr → Prop} {Ts : List Cond} {own C : String} {b : Addr} {As rest : List Value} {g : JFrame}
    (S : CallFix p m c cc nL s args Ts own) (hM : Met l y ws rm Pc Qc mc ms free) (cw : vx_CVW R s args own C index y bytes maxL ret hh ws rm mc ms n) (hp : PreV s H C b Pc As)
    (hg : g.method = m) (hn : As.length = n) (hsize : g.locals.size = nL) (hstack : g.stack = As.reverse ++ .ref b :: rest) (hW : 2 * g.monitorRoom + (rest.map fun v => v.category).sum ≤ 8) (hdg : decode cc g.pc = .ok (.invokevirtual index, 3)) (hf : cells + mc ≤ R.cells ∧ slots + ms ≤ R.slots) :
    va_Run p l e R s m args below meth c H locs cells slots mc ms g rest (Qc (Value.ref b :: As).toArray) free := by
  obtain ⟨⟨hrc, hrs, hfr, hlo, hws, hcw⟩, hcode, hini, hy, hlen, hl, hin, hse⟩ := cw
  have hK : Back l R p e below s args y 3 8 (PreOf R mc ms Pc) (PostOf Qc mc ms free) := va_backW (hh := hh) (bytes := bytes) (maxL := maxL) (ret := ret) hM hp.1 hrc hrs hfr hlo hws hcw (fun a' U hW => word_at hW (Or.inl (by first | rfl | simp [Cond.onTables, Cond.keeps, Cond.steady])) hini)
  obtain ⟨hx, hb, hml, ho, -⟩ := S
  obtain ⟨-, ⟨cellB, hcB, hoB, hclB⟩, hPc⟩ := hp
  intro T hT X
  obtain ⟨v, vm₁, ⟨U', l2, c2, s2⟩, hW₁, X', ⟨g', mk, t, L, e1, e2, hq, h1, hL, h2, h3⟩, st⟩ := vx_callVW X hx (C := C) (hh := hh) (bytes := bytes) (maxL := maxL) (ret := ret) ho hl hin hse hcode hy hK (by rw [hT]; exact hcB) hoB hclB hg (hsize.trans hml.symm) (argsL := As) (rest := rest) (fun sig h => hn.trans (hlen sig h)) hstack hW (by rw [hb]; exact hdg)
    (fun vm₁ hW₁ => ⟨hf.1, hf.2, hPc (T.setVm vm₁) hT hW₁⟩)
  dsimp only [Pt.U, Pt.locs, Pt.cells, Pt.slots] at X' e1 e2 h1 h2 h3 st
  subst h1; subst h2; subst h3
  exact ⟨v, (T.setVm vm₁).calling g' mk (Value.ref b :: As).toArray, t, U', L, hT, X', hL, e1, e2, hq, st⟩
section
variable {y : MethodName} {bytes cc : ByteArray} {maxL nL mc ms n index : Nat} {ret : Option FieldType} {ws : List Cond} {rm : Room} {Pc : Array Value → State → Prop} {Qc : Array Value → State → Outcome → State → Prop} {XC : String → State → State → Prop} {free : Addr → Prop} {Ts : List Cond} {own C : String} {b : Addr} {As rest : List Value} {g : JFrame}
theorem vx_runVX {hh : List (Nat × Nat × Nat × Nat)} (S : CallFix p m c cc nL s args Ts own) (hM : vx_Met l y ws rm Pc Qc XC mc ms free) (cw : vx_CVW R s args own C index y bytes maxL ret hh ws rm mc ms n) (hp : PreV s H C b Pc As)
    (hg : g.method = m) (hn : As.length = n) (hsize : g.locals.size = nL) (hstack : g.stack = As.reverse ++ .ref b :: rest) (hW : 2 * g.monitorRoom + (rest.map fun v => v.category).sum ≤ 8) (hdg : decode cc g.pc = .ok (.invokevirtual index, 3)) (hf : cells + mc ≤ R.cells ∧ slots + ms ≤ R.slots) :
    vx_Run p l e R s m args below meth c H locs cells slots mc ms g rest (Qc (Value.ref b :: As).toArray) XC free := by
  obtain ⟨⟨hrc, hrs, hfr, hlo, hws, hcw⟩, hcode, hini, hy, hlen, hl, hin, hse⟩ := cw
  have hK : vx_Back l R p e below s args y 3 8 (PreOf R mc ms Pc) (PostOf Qc mc ms free) (vx_Post XC mc ms free) := vx_backW (hh := hh) (bytes := bytes) (maxL := maxL) (ret := ret) hM hp.1 hrc hrs hfr hlo hws hcw (fun a' U hW => word_at hW (Or.inl (by first | rfl | simp [Cond.onTables, Cond.keeps, Cond.steady])) hini)
  obtain ⟨hx, hb, hml, ho, -⟩ := S
  obtain ⟨-, ⟨cellB, hcB, hoB, hclB⟩, hPc⟩ := hp
  intro T hT X
  rcases vx_callVX X hx (C := C) (hh := hh) (bytes := bytes) (maxL := maxL) (ret := ret) ho hl hin hse hcode hy hK (by rw [hT]; exact hcB) hoB hclB hg (hsize.trans hml.symm) (argsL := As) (rest := rest) (fun sig h => hn.trans (hlen sig h)) hstack hW (by rw [hb]; exact hdg)
    (fun vm₁ hW₁ => ⟨hf.1, hf.2, hPc (T.setVm vm₁) hT hW₁⟩) with ⟨v, vm₁, ⟨U', l2, c2, s2⟩, hW₁, X', ⟨g', mk, t, L, e1, e2, hq, h1, hL, h2, h3⟩, st⟩ | ⟨q, vm₁, ⟨U', l2, c2, s2⟩, hW₁, X', ⟨g', mk, t, L, E, ce, e1, e2, hq, hce, hcv, hcl, h1, hL, h2, h3⟩, st⟩
  · dsimp only [Pt.U, Pt.locs, Pt.cells, Pt.slots] at X' e1 e2 h1 h2 h3 st
    subst h1; subst h2; subst h3
    exact Or.inl ⟨v, (T.setVm vm₁).calling g' mk (Value.ref b :: As).toArray, t, U', L, hT, X', hL, e1, e2, hq, st⟩
  · dsimp only [Pt.U, Pt.locs, Pt.cells, Pt.slots] at X' e1 e2 h1 h2 h3 st hcl
    subst h1; subst h2; subst h3
    exact Or.inr ⟨q, (T.setVm vm₁).calling g' mk (Value.ref b :: As).toArray, t, U', L, E, ce, hT, X', hL, e1, e2, hq, hce, hcv, vx_cls hW₁ hcl, st⟩
theorem vx_runSX {hh : List (Nat × Nat × Nat × Nat)} (S : CallFix p m c cc nL s args Ts own) (hM : vx_Met l y ws rm Pc Qc XC mc ms free) (cw : vx_CSW R s args own index y bytes maxL ret hh ws rm mc ms n) (hp : PreS s H Pc As)
    (hg : g.method = m) (hn : As.length = n) (hsize : g.locals.size = nL) (hstack : g.stack = As.reverse ++ rest) (hW : 2 * g.monitorRoom + (rest.map fun v => v.category).sum ≤ 8) (hdg : decode cc g.pc = .ok (.invokestatic index, 3)) (hf : cells + mc ≤ R.cells ∧ slots + ms ≤ R.slots) :
    vx_Run p l e R s m args below meth c H locs cells slots mc ms g rest (Qc As.toArray) XC free := by
  obtain ⟨⟨hrc, hrs, hfr, hlo, hws, hcw⟩, hcode, hini, hy, hlen, hl, hstt⟩ := cw
  have hK : vx_Back l R p e below s args y 3 8 (PreOf R mc ms Pc) (PostOf Qc mc ms free) (vx_Post XC mc ms free) := vx_backW (hh := hh) (bytes := bytes) (maxL := maxL) (ret := ret) hM hp.1 hrc hrs hfr hlo hws hcw (fun a' U hW => word_at hW (Or.inl (by first | rfl | simp [Cond.onTables, Cond.keeps, Cond.steady])) hini)
  obtain ⟨hx, hb, hml, ho, -⟩ := S
  intro T hT X
  rcases vx_callSX X hx (hh := hh) (bytes := bytes) (maxL := maxL) (ret := ret) ho hl hstt hini hcode hy hK hg (hsize.trans hml.symm) (argsL := As) (rest := rest) (fun sig h => hn.trans (hlen sig h)) hstack hW (by rw [hb]; exact hdg)
    (fun vm₁ hW₁ => ⟨hf.1, hf.2, hp.2 (T.setVm vm₁) hT hW₁⟩) with ⟨v, vm₁, ⟨U', l2, c2, s2⟩, hW₁, X', ⟨g', mk, t, L, e1, e2, hq, h1, hL, h2, h3⟩, st⟩ | ⟨q, vm₁, ⟨U', l2, c2, s2⟩, hW₁, X', ⟨g', mk, t, L, E, ce, e1, e2, hq, hce, hcv, hcl, h1, hL, h2, h3⟩, st⟩
  · dsimp only [Pt.U, Pt.locs, Pt.cells, Pt.slots] at X' e1 e2 h1 h2 h3 st
    subst h1; subst h2; subst h3
    exact Or.inl ⟨v, (T.setVm vm₁).calling g' mk As.toArray, t, U', L, hT, X', hL, e1, e2, hq, st⟩
  · dsimp only [Pt.U, Pt.locs, Pt.cells, Pt.slots] at X' e1 e2 h1 h2 h3 st hcl
    subst h1; subst h2; subst h3
    exact Or.inr ⟨q, (T.setVm vm₁).calling g' mk As.toArray, t, U', L, E, ce, hT, X', hL, e1, e2, hq, hce, hcv, vx_cls hW₁ hcl, st⟩
end
end VXH
theorem vx_ofWH {l : Launch} {y : MethodName} {ws ws' : List Cond} {rm : Room} {Pc : Array Value → State → Prop} {Qc : Array Value → State → Outcome → State → Prop} {XC : String → State → State → Prop} {mc ms : Nat} {free : Addr → Prop} {cc : ByteArray} {maxL : Nat} {ret : Option FieldType} {hh : List (Nat × Nat × Nat × Nat)}
    (hy : plainName y.cls = true) (hw : ws = Cond.codeWith y cc maxL ret hh :: ws')
    (body : ∀ p e s m args below meth c s₁, BodyLoose p l y (headSpec ws rm) cc maxL ret e s m args below meth c s₁ → c.maxLocals = maxL → Pc args s →
      W p l e (headSpec ws rm).room s m args below meth c s.heap [] 0 0 (vx_MQ below Qc XC args s mc ms free) (entryFrame m args maxL)) : vx_Met l y ws rm Pc Qc XC mc ms free := by
  refine MetFree.of_bodyS (code := cc) (maxLocals := maxL) (ret := ret) hy ?_ ?_
  · intro args s m h hn
    obtain ⟨m9, meth, c, hn9, h1, h2, h3, h4, -, h5, h6, -⟩ := Cond.codeWith_spec (atoms_spec (ws := ws) h _ (by rw [hw]; exact List.mem_cons_self))
    cases hn.symm.trans hn9
    exact ⟨meth, c, h1, h2, h3, h4, h5, h6⟩
  · intro p e s m args below meth c s₁ B hml hP _
    have hh0 : s₁.heap = s.heap := by rw [B.state]; rfl
    obtain ⟨t, a1, o, b1, b2, b3⟩ := body p e s m args below meth c s₁ B hml hP s₁ hh0 (Stand.of_body B)
    exact ⟨t, o, a1, b1, b2, b3⟩
/-! ===== END ===== -/

/-! ===== BEGIN printed: names, fields, word lists, decode rows ===== -/
def RX0 : String := "Slicehouse$Course"
def TX0 : u_T := fun k => match k with
  | 0 => ("Slicehouse$Course", "length", "I", false)
  | 1 => ("Slicehouse$Course", "doings", "LSlicehouse$Row;", true)
  | _ => ("Slicehouse$Course", "jobs", "LSlicehouse$Jobs;", true)
def tyX0 : Nat → FieldType := fun k => match k with
  | 0 => .int
  | 1 => .object "Slicehouse$Row"
  | _ => .object "Slicehouse$Jobs"
abbrev wsX00 : List Cond := u_ws RX0 TX0 3
theorem nmX0 : ∀ a, a < 3 → ∀ b, b < 3 → a ≠ b → (TX0 a).2.1 ≠ (TX0 b).2.1 := by decide +kernel
theorem tyX0_ok : ∀ k, k < 3 → parseFieldDescriptor (TX0 k).2.2.1 = some (tyX0 k) := by decide +kernel
abbrev cX0_init : ByteArray := prog_2_method_1_code
def yX0_init : MethodName := ⟨RX0, "<init>", "(LSlicehouse$Jobs;)V"⟩
abbrev cX0_note : ByteArray := prog_2_method_2_code
def yX0_note : MethodName := ⟨RX0, "note", "(I)V"⟩
abbrev cX0_doingAt : ByteArray := prog_2_method_3_code
def yX0_doingAt : MethodName := ⟨RX0, "doingAt", "(I)I"⟩
abbrev cX0_leftOf : ByteArray := prog_2_method_4_code
def yX0_leftOf : MethodName := ⟨RX0, "leftOf", "(II)I"⟩
abbrev cX0_firstWork : ByteArray := prog_2_method_5_code
def yX0_firstWork : MethodName := ⟨RX0, "firstWork", "(I)I"⟩
abbrev cX0_longestGap : ByteArray := prog_2_method_6_code
def yX0_longestGap : MethodName := ⟨RX0, "longestGap", "(II)I"⟩
abbrev cX0_countWork : ByteArray := prog_2_method_7_code
def yX0_countWork : MethodName := ⟨RX0, "countWork", "()I"⟩
abbrev cX0_countBusy : ByteArray := prog_2_method_8_code
def yX0_countBusy : MethodName := ⟨RX0, "countBusy", "()I"⟩
abbrev cX0_busyBegin : ByteArray := prog_2_method_9_code
def yX0_busyBegin : MethodName := ⟨RX0, "busyBegin", "(I)I"⟩
abbrev cX0_busyEnd : ByteArray := prog_2_method_10_code
def yX0_busyEnd : MethodName := ⟨RX0, "busyEnd", "(I)I"⟩
abbrev cX0_beginsBusy : ByteArray := prog_2_method_11_code
def yX0_beginsBusy : MethodName := ⟨RX0, "beginsBusy", "(I)Z"⟩
abbrev cX0_isSameAs : ByteArray := prog_2_method_12_code
def yX0_isSameAs : MethodName := ⟨RX0, "isSameAs", "(LSlicehouse$Course;)Z"⟩
abbrev cX0_isAsBusyAs : ByteArray := prog_2_method_13_code
def yX0_isAsBusyAs : MethodName := ⟨RX0, "isAsBusyAs", "(LSlicehouse$Course;)Z"⟩
def RX1 : String := "Slicehouse$Jobs"
def TX1 : u_T := fun k => match k with
  | 0 => ("Slicehouse$Jobs", "comes", "LSlicehouse$Row;", true)
  | 1 => ("Slicehouse$Jobs", "lengths", "LSlicehouse$Row;", true)
  | 2 => ("Slicehouse$Jobs", "deadlines", "LSlicehouse$Row;", true)
  | 3 => ("Slicehouse$Jobs", "weights", "LSlicehouse$Row;", true)
  | 4 => ("Slicehouse$Jobs", "waitsFor", "LSlicehouse$Row;", true)
  | 5 => ("Slicehouse$Jobs", "stretchCounts", "LSlicehouse$Row;", true)
  | 6 => ("Slicehouse$Jobs", "stretchLocks", "LSlicehouse$Row;", true)
  | 7 => ("Slicehouse$Jobs", "stretchFroms", "LSlicehouse$Row;", true)
  | 8 => ("Slicehouse$Jobs", "stretchTos", "LSlicehouse$Row;", true)
  | 9 => ("Slicehouse$Jobs", "count", "I", false)
  | _ => ("Slicehouse$Jobs", "deadlineKeys", "LSlicehouse$Row;", true)
def tyX1 : Nat → FieldType := fun k => match k with
  | 0 => .object "Slicehouse$Row"
  | 1 => .object "Slicehouse$Row"
  | 2 => .object "Slicehouse$Row"
  | 3 => .object "Slicehouse$Row"
  | 4 => .object "Slicehouse$Row"
  | 5 => .object "Slicehouse$Row"
  | 6 => .object "Slicehouse$Row"
  | 7 => .object "Slicehouse$Row"
  | 8 => .object "Slicehouse$Row"
  | 9 => .int
  | _ => .object "Slicehouse$Row"
abbrev wsX10 : List Cond := u_ws RX1 TX1 11
theorem nmX1 : ∀ a, a < 11 → ∀ b, b < 11 → a ≠ b → (TX1 a).2.1 ≠ (TX1 b).2.1 := by decide +kernel
theorem tyX1_ok : ∀ k, k < 11 → parseFieldDescriptor (TX1 k).2.2.1 = some (tyX1 k) := by decide +kernel
abbrev cX1_init : ByteArray := prog_3_method_1_code
def yX1_init : MethodName := ⟨RX1, "<init>", "()V"⟩
abbrev cX1_tell : ByteArray := prog_3_method_2_code
def yX1_tell : MethodName := ⟨RX1, "tell", "(IIII)I"⟩
abbrev cX1_letWait : ByteArray := prog_3_method_3_code
def yX1_letWait : MethodName := ⟨RX1, "letWait", "(II)I"⟩
abbrev cX1_someWait : ByteArray := prog_3_method_4_code
def yX1_someWait : MethodName := ⟨RX1, "someWait", "()Z"⟩
abbrev cX1_addStretch : ByteArray := prog_3_method_5_code
def yX1_addStretch : MethodName := ⟨RX1, "addStretch", "(IIII)I"⟩
abbrev cX1_overlaps : ByteArray := prog_3_method_6_code
def yX1_overlaps : MethodName := ⟨RX1, "overlaps", "(III)Z"⟩
abbrev cX1_lockAt : ByteArray := prog_3_method_7_code
def yX1_lockAt : MethodName := ⟨RX1, "lockAt", "(IIZ)I"⟩
abbrev cX1_highest : ByteArray := prog_3_method_8_code
def yX1_highest : MethodName := ⟨RX1, "highest", "()I"⟩
abbrev cX1_mostKept : ByteArray := prog_3_method_9_code
def yX1_mostKept : MethodName := ⟨RX1, "mostKept", "(I)I"⟩
abbrev cX1_longestRest : ByteArray := prog_3_method_10_code
def yX1_longestRest : MethodName := ⟨RX1, "longestRest", "(II)I"⟩
abbrev cX1_fullEnd : ByteArray := prog_3_method_11_code
def yX1_fullEnd : MethodName := ⟨RX1, "fullEnd", "(I)I"⟩
abbrev cX1_workBetween : ByteArray := prog_3_method_12_code
def yX1_workBetween : MethodName := ⟨RX1, "workBetween", "(II)I"⟩
def RX2 : String := "Slicehouse$Levels"
def TX2 : u_T := fun k => match k with
  | 0 => ("Slicehouse$Levels", "low", "LSlicehouse$Line;", true)
  | 1 => ("Slicehouse$Levels", "middle", "LSlicehouse$Line;", true)
  | _ => ("Slicehouse$Levels", "high", "LSlicehouse$Line;", true)
def tyX2 : Nat → FieldType := fun k => match k with
  | 0 => .object "Slicehouse$Line"
  | 1 => .object "Slicehouse$Line"
  | _ => .object "Slicehouse$Line"
abbrev wsX20 : List Cond := u_ws RX2 TX2 3
theorem nmX2 : ∀ a, a < 3 → ∀ b, b < 3 → a ≠ b → (TX2 a).2.1 ≠ (TX2 b).2.1 := by decide +kernel
theorem tyX2_ok : ∀ k, k < 3 → parseFieldDescriptor (TX2 k).2.2.1 = some (tyX2 k) := by decide +kernel
abbrev cX2_init : ByteArray := prog_4_method_1_code
def yX2_init : MethodName := ⟨RX2, "<init>", "()V"⟩
abbrev cX2_empty : ByteArray := prog_4_method_2_code
def yX2_empty : MethodName := ⟨RX2, "empty", "()V"⟩
abbrev cX2_lineOf : ByteArray := prog_4_method_3_code
def yX2_lineOf : MethodName := ⟨RX2, "lineOf", "(I)LSlicehouse$Line;"⟩
abbrev cX2_rise : ByteArray := prog_4_method_4_code
def yX2_rise : MethodName := ⟨RX2, "rise", "()V"⟩
abbrev cX2_lowest : ByteArray := prog_4_method_5_code
def yX2_lowest : MethodName := ⟨RX2, "lowest", "()I"⟩
def RX3 : String := "Slicehouse$Line"
def TX3 : u_T := fun k => match k with
  | 0 => ("Slicehouse$Line", "places", "[I", true)
  | _ => ("Slicehouse$Line", "size", "I", false)
def tyX3 : Nat → FieldType := fun k => match k with
  | 0 => .array .int
  | _ => .int
abbrev wsX30 : List Cond := u_ws RX3 TX3 2
theorem nmX3 : ∀ a, a < 2 → ∀ b, b < 2 → a ≠ b → (TX3 a).2.1 ≠ (TX3 b).2.1 := by decide +kernel
theorem tyX3_ok : ∀ k, k < 2 → parseFieldDescriptor (TX3 k).2.2.1 = some (tyX3 k) := by decide +kernel
abbrev cX3_init : ByteArray := prog_5_method_1_code
def yX3_init : MethodName := ⟨RX3, "<init>", "()V"⟩
abbrev cX3_empty : ByteArray := prog_5_method_2_code
def yX3_empty : MethodName := ⟨RX3, "empty", "()V"⟩
abbrev cX3_isEmpty : ByteArray := prog_5_method_3_code
def yX3_isEmpty : MethodName := ⟨RX3, "isEmpty", "()Z"⟩
abbrev cX3_join : ByteArray := prog_5_method_4_code
def yX3_join : MethodName := ⟨RX3, "join", "(I)V"⟩
abbrev cX3_takeFirst : ByteArray := prog_5_method_5_code
def yX3_takeFirst : MethodName := ⟨RX3, "takeFirst", "()I"⟩
abbrev cX3_moveTo : ByteArray := prog_5_method_6_code
def yX3_moveTo : MethodName := ⟨RX3, "moveTo", "(LSlicehouse$Line;)V"⟩
def RX4 : String := "Slicehouse$Locks"
def TX4 : u_T := fun k => match k with
  | 0 => ("Slicehouse$Locks", "jobs", "LSlicehouse$Jobs;", true)
  | 1 => ("Slicehouse$Locks", "progress", "LSlicehouse$Progress;", true)
  | 2 => ("Slicehouse$Locks", "holders", "LSlicehouse$Row;", true)
  | 3 => ("Slicehouse$Locks", "blockers", "LSlicehouse$Row;", true)
  | _ => ("Slicehouse$Locks", "ranks", "LSlicehouse$Row;", true)
def tyX4 : Nat → FieldType := fun k => match k with
  | 0 => .object "Slicehouse$Jobs"
  | 1 => .object "Slicehouse$Progress"
  | 2 => .object "Slicehouse$Row"
  | 3 => .object "Slicehouse$Row"
  | _ => .object "Slicehouse$Row"
abbrev wsX40 : List Cond := u_ws RX4 TX4 5
theorem nmX4 : ∀ a, a < 5 → ∀ b, b < 5 → a ≠ b → (TX4 a).2.1 ≠ (TX4 b).2.1 := by decide +kernel
theorem tyX4_ok : ∀ k, k < 5 → parseFieldDescriptor (TX4 k).2.2.1 = some (tyX4 k) := by decide +kernel
abbrev cX4_init : ByteArray := prog_6_method_1_code
def yX4_init : MethodName := ⟨RX4, "<init>", "(LSlicehouse$Jobs;LSlicehouse$Progress;)V"⟩
abbrev cX4_look : ByteArray := prog_6_method_2_code
def yX4_look : MethodName := ⟨RX4, "look", "(Z)V"⟩
abbrev cX4_isBlocked : ByteArray := prog_6_method_3_code
def yX4_isBlocked : MethodName := ⟨RX4, "isBlocked", "(I)Z"⟩
abbrev cX4_greatest : ByteArray := prog_6_method_4_code
def yX4_greatest : MethodName := ⟨RX4, "greatest", "()I"⟩
def RX5 : String := "Slicehouse$Pair"
def TX5 : u_T := fun k => match k with
  | 0 => ("Slicehouse$Pair", "progress", "LSlicehouse$Progress;", true)
  | _ => ("Slicehouse$Pair", "jobs", "LSlicehouse$Jobs;", true)
def tyX5 : Nat → FieldType := fun k => match k with
  | 0 => .object "Slicehouse$Progress"
  | _ => .object "Slicehouse$Jobs"
abbrev wsX50 : List Cond := u_ws RX5 TX5 2
theorem nmX5 : ∀ a, a < 2 → ∀ b, b < 2 → a ≠ b → (TX5 a).2.1 ≠ (TX5 b).2.1 := by decide +kernel
theorem tyX5_ok : ∀ k, k < 2 → parseFieldDescriptor (TX5 k).2.2.1 = some (tyX5 k) := by decide +kernel
abbrev cX5_init : ByteArray := prog_7_method_1_code
def yX5_init : MethodName := ⟨RX5, "<init>", "(LSlicehouse$Jobs;)V"⟩
abbrev cX5_workBy : ByteArray := prog_7_method_2_code
def yX5_workBy : MethodName := ⟨RX5, "workBy", "(Z)V"⟩
abbrev cX5_least : ByteArray := prog_7_method_3_code
def yX5_least : MethodName := ⟨RX5, "least", "(ZI)I"⟩
def RX6 : String := "Slicehouse$Progress"
def TX6 : u_T := fun k => match k with
  | 0 => ("Slicehouse$Progress", "lefts", "LSlicehouse$Row;", true)
  | 1 => ("Slicehouse$Progress", "ends", "LSlicehouse$Row;", true)
  | 2 => ("Slicehouse$Progress", "readySince", "LSlicehouse$Row;", true)
  | 3 => ("Slicehouse$Progress", "ready", "I", false)
  | 4 => ("Slicehouse$Progress", "jobs", "LSlicehouse$Jobs;", true)
  | 5 => ("Slicehouse$Progress", "ended", "I", false)
  | _ => ("Slicehouse$Progress", "all", "I", false)
def tyX6 : Nat → FieldType := fun k => match k with
  | 0 => .object "Slicehouse$Row"
  | 1 => .object "Slicehouse$Row"
  | 2 => .object "Slicehouse$Row"
  | 3 => .int
  | 4 => .object "Slicehouse$Jobs"
  | 5 => .int
  | _ => .int
abbrev wsX60 : List Cond := u_ws RX6 TX6 7
theorem nmX6 : ∀ a, a < 7 → ∀ b, b < 7 → a ≠ b → (TX6 a).2.1 ≠ (TX6 b).2.1 := by decide +kernel
theorem tyX6_ok : ∀ k, k < 7 → parseFieldDescriptor (TX6 k).2.2.1 = some (tyX6 k) := by decide +kernel
abbrev cX6_init : ByteArray := prog_8_method_1_code
def yX6_init : MethodName := ⟨RX6, "<init>", "(LSlicehouse$Jobs;)V"⟩
abbrev cX6_begin : ByteArray := prog_8_method_2_code
def yX6_begin : MethodName := ⟨RX6, "begin", "()V"⟩
abbrev cX6_admit : ByteArray := prog_8_method_3_code
def yX6_admit : MethodName := ⟨RX6, "\x61dmit", "(I)I"⟩
abbrev cX6_isReady : ByteArray := prog_8_method_4_code
def yX6_isReady : MethodName := ⟨RX6, "isReady", "(I)Z"⟩
abbrev cX6_isOver : ByteArray := prog_8_method_5_code
def yX6_isOver : MethodName := ⟨RX6, "isOver", "()Z"⟩
abbrev cX6_done : ByteArray := prog_8_method_6_code
def yX6_done : MethodName := ⟨RX6, "done", "(I)I"⟩
abbrev cX6_spendOn : ByteArray := prog_8_method_7_code
def yX6_spendOn : MethodName := ⟨RX6, "spendOn", "(II)V"⟩
abbrev cX6_endsTogether : ByteArray := prog_8_method_8_code
def yX6_endsTogether : MethodName := ⟨RX6, "endsTogether", "()I"⟩
abbrev cX6_lateness : ByteArray := prog_8_method_9_code
def yX6_lateness : MethodName := ⟨RX6, "lateness", "(I)I"⟩
abbrev cX6_countLate : ByteArray := prog_8_method_10_code
def yX6_countLate : MethodName := ⟨RX6, "countLate", "()I"⟩
def RX7 : String := "Slicehouse$Row"
def TX7 : u_T := fun k => match k with
  | _ => ("Slicehouse$Row", "cells", "[I", true)
def tyX7 : Nat → FieldType := fun k => match k with
  | _ => .array .int
abbrev wsX70 : List Cond := u_ws RX7 TX7 1
theorem nmX7 : ∀ a, a < 1 → ∀ b, b < 1 → a ≠ b → (TX7 a).2.1 ≠ (TX7 b).2.1 := by decide +kernel
theorem tyX7_ok : ∀ k, k < 1 → parseFieldDescriptor (TX7 k).2.2.1 = some (tyX7 k) := by decide +kernel
abbrev cX7_init : ByteArray := prog_9_method_1_code
def yX7_init : MethodName := ⟨RX7, "<init>", "(I)V"⟩
abbrev cX7_at : ByteArray := prog_9_method_2_code
def yX7_at : MethodName := ⟨RX7, "at", "(I)I"⟩
abbrev cX7_put : ByteArray := prog_9_method_3_code
def yX7_put : MethodName := ⟨RX7, "put", "(II)V"⟩
abbrev cX7_add : ByteArray := prog_9_method_4_code
def yX7_add : MethodName := ⟨RX7, "add", "(II)V"⟩
abbrev cX7_fill : ByteArray := prog_9_method_5_code
def yX7_fill : MethodName := ⟨RX7, "fill", "(I)V"⟩
def RX8 : String := "Slicehouse$Tasks"
def TX8 : u_T := fun k => match k with
  | 0 => ("Slicehouse$Tasks", "periods", "LSlicehouse$Row;", true)
  | 1 => ("Slicehouse$Tasks", "lengths", "LSlicehouse$Row;", true)
  | 2 => ("Slicehouse$Tasks", "deadlines", "LSlicehouse$Row;", true)
  | _ => ("Slicehouse$Tasks", "count", "I", false)
def tyX8 : Nat → FieldType := fun k => match k with
  | 0 => .object "Slicehouse$Row"
  | 1 => .object "Slicehouse$Row"
  | 2 => .object "Slicehouse$Row"
  | _ => .int
abbrev wsX80 : List Cond := u_ws RX8 TX8 4
theorem nmX8 : ∀ a, a < 4 → ∀ b, b < 4 → a ≠ b → (TX8 a).2.1 ≠ (TX8 b).2.1 := by decide +kernel
theorem tyX8_ok : ∀ k, k < 4 → parseFieldDescriptor (TX8 k).2.2.1 = some (tyX8 k) := by decide +kernel
abbrev cX8_init : ByteArray := prog_10_method_1_code
def yX8_init : MethodName := ⟨RX8, "<init>", "()V"⟩
abbrev cX8_tell : ByteArray := prog_10_method_2_code
def yX8_tell : MethodName := ⟨RX8, "tell", "(III)I"⟩
abbrev cX8_workAhead : ByteArray := prog_10_method_3_code
def yX8_workAhead : MethodName := ⟨RX8, "workAhead", "(II)I"⟩
abbrev cX8_goesAhead : ByteArray := prog_10_method_4_code
def yX8_goesAhead : MethodName := ⟨RX8, "goesAhead", "(II)Z"⟩
def RX9 : String := "Slicehouse$Ways"
def TX9 : u_T := fun k => match k with
  | 0 => ("Slicehouse$Ways", "slice", "I", false)
  | 1 => ("Slicehouse$Ways", "change", "I", false)
  | 2 => ("Slicehouse$Ways", "rise", "I", false)
  | 3 => ("Slicehouse$Ways", "seed", "I", false)
  | _ => ("Slicehouse$Ways", "lending", "Z", false)
def tyX9 : Nat → FieldType := fun k => match k with
  | 0 => .int
  | 1 => .int
  | 2 => .int
  | 3 => .int
  | _ => .boolean
abbrev wsX90 : List Cond := u_ws RX9 TX9 5
theorem nmX9 : ∀ a, a < 5 → ∀ b, b < 5 → a ≠ b → (TX9 a).2.1 ≠ (TX9 b).2.1 := by decide +kernel
theorem tyX9_ok : ∀ k, k < 5 → parseFieldDescriptor (TX9 k).2.2.1 = some (tyX9 k) := by decide +kernel
abbrev cX9_init : ByteArray := prog_11_method_1_code
def yX9_init : MethodName := ⟨RX9, "<init>", "()V"⟩
def RX10 : String := "Slicehouse$Worker"
def TX10 : u_T := fun k => match k with
  | 0 => ("Slicehouse$Worker", "progress", "LSlicehouse$Progress;", true)
  | 1 => ("Slicehouse$Worker", "course", "LSlicehouse$Course;", true)
  | 2 => ("Slicehouse$Worker", "keptWaiting", "LSlicehouse$Row;", true)
  | 3 => ("Slicehouse$Worker", "jobs", "LSlicehouse$Jobs;", true)
  | 4 => ("Slicehouse$Worker", "ways", "LSlicehouse$Ways;", true)
  | 5 => ("Slicehouse$Worker", "levels", "LSlicehouse$Levels;", true)
  | 6 => ("Slicehouse$Worker", "counts", "LSlicehouse$Row;", true)
  | 7 => ("Slicehouse$Worker", "locks", "LSlicehouse$Locks;", true)
  | 8 => ("Slicehouse$Worker", "rule", "I", false)
  | 9 => ("Slicehouse$Worker", "slice", "I", false)
  | 10 => ("Slicehouse$Worker", "change", "I", false)
  | 11 => ("Slicehouse$Worker", "lending", "Z", false)
  | 12 => ("Slicehouse$Worker", "seed", "I", false)
  | 13 => ("Slicehouse$Worker", "chosen", "I", false)
  | 14 => ("Slicehouse$Worker", "level", "I", false)
  | 15 => ("Slicehouse$Worker", "turnLeft", "I", false)
  | 16 => ("Slicehouse$Worker", "changesLeft", "I", false)
  | _ => ("Slicehouse$Worker", "lastWorked", "I", false)
def tyX10 : Nat → FieldType := fun k => match k with
  | 0 => .object "Slicehouse$Progress"
  | 1 => .object "Slicehouse$Course"
  | 2 => .object "Slicehouse$Row"
  | 3 => .object "Slicehouse$Jobs"
  | 4 => .object "Slicehouse$Ways"
  | 5 => .object "Slicehouse$Levels"
  | 6 => .object "Slicehouse$Row"
  | 7 => .object "Slicehouse$Locks"
  | 8 => .int
  | 9 => .int
  | 10 => .int
  | 11 => .boolean
  | 12 => .int
  | 13 => .int
  | 14 => .int
  | 15 => .int
  | 16 => .int
  | _ => .int
abbrev wsX100 : List Cond := u_ws RX10 TX10 18
theorem nmX10 : ∀ a, a < 18 → ∀ b, b < 18 → a ≠ b → (TX10 a).2.1 ≠ (TX10 b).2.1 := by decide +kernel
theorem tyX10_ok : ∀ k, k < 18 → parseFieldDescriptor (TX10 k).2.2.1 = some (tyX10 k) := by decide +kernel
abbrev cX10_init : ByteArray := prog_12_method_1_code
def yX10_init : MethodName := ⟨RX10, "<init>", "(LSlicehouse$Jobs;LSlicehouse$Ways;)V"⟩
abbrev cX10_follow : ByteArray := prog_12_method_2_code
def yX10_follow : MethodName := ⟨RX10, "follow", "(IIIZ)V"⟩
abbrev cX10_begin : ByteArray := prog_12_method_3_code
def yX10_begin : MethodName := ⟨RX10, "begin", "()V"⟩
abbrev cX10_beginMoment : ByteArray := prog_12_method_4_code
def yX10_beginMoment : MethodName := ⟨RX10, "beginMoment", "(I)V"⟩
abbrev cX10_welcome : ByteArray := prog_12_method_5_code
def yX10_welcome : MethodName := ⟨RX10, "welcome", "(II)V"⟩
abbrev cX10_leastCount : ByteArray := prog_12_method_6_code
def yX10_leastCount : MethodName := ⟨RX10, "leastCount", "(I)I"⟩
abbrev cX10_endSlice : ByteArray := prog_12_method_7_code
def yX10_endSlice : MethodName := ⟨RX10, "endSlice", "()V"⟩
abbrev cX10_usesLevels : ByteArray := prog_12_method_8_code
def yX10_usesLevels : MethodName := ⟨RX10, "usesLevels", "()Z"⟩
abbrev cX10_choose : ByteArray := prog_12_method_9_code
def yX10_choose : MethodName := ⟨RX10, "choose", "()V"⟩
abbrev cX10_turnOf : ByteArray := prog_12_method_10_code
def yX10_turnOf : MethodName := ⟨RX10, "turnOf", "(I)I"⟩
abbrev cX10_drawn : ByteArray := prog_12_method_11_code
def yX10_drawn : MethodName := ⟨RX10, "drawn", "()I"⟩
abbrev cX10_leastByKey : ByteArray := prog_12_method_12_code
def yX10_leastByKey : MethodName := ⟨RX10, "leastByKey", "()I"⟩
abbrev cX10_keyOf : ByteArray := prog_12_method_13_code
def yX10_keyOf : MethodName := ⟨RX10, "keyOf", "(I)I"⟩
abbrev cX10_pass : ByteArray := prog_12_method_14_code
def yX10_pass : MethodName := ⟨RX10, "pass", "(I)V"⟩
abbrev cX10_workAtChosen : ByteArray := prog_12_method_15_code
def yX10_workAtChosen : MethodName := ⟨RX10, "workAtChosen", "(I)V"⟩
abbrev cX10_countKept : ByteArray := prog_12_method_16_code
def yX10_countKept : MethodName := ⟨RX10, "countKept", "()V"⟩
def RX11 : String := "Slicehouse"
def TX11 : u_T := fun k => match k with
  | 0 => ("Slicehouse", "jobs", "LSlicehouse$Jobs;", true)
  | 1 => ("Slicehouse", "tasks", "LSlicehouse$Tasks;", true)
  | 2 => ("Slicehouse", "ways", "LSlicehouse$Ways;", true)
  | 3 => ("Slicehouse", "worker", "LSlicehouse$Worker;", true)
  | 4 => ("Slicehouse", "trial", "LSlicehouse$Worker;", true)
  | 5 => ("Slicehouse", "model", "LSlicehouse$Worker;", true)
  | 6 => ("Slicehouse", "pair", "LSlicehouse$Pair;", true)
  | _ => ("Slicehouse", "hasRun", "Z", false)
def tyX11 : Nat → FieldType := fun k => match k with
  | 0 => .object "Slicehouse$Jobs"
  | 1 => .object "Slicehouse$Tasks"
  | 2 => .object "Slicehouse$Ways"
  | 3 => .object "Slicehouse$Worker"
  | 4 => .object "Slicehouse$Worker"
  | 5 => .object "Slicehouse$Worker"
  | 6 => .object "Slicehouse$Pair"
  | _ => .boolean
abbrev wsX110 : List Cond := u_ws RX11 TX11 8
theorem nmX11 : ∀ a, a < 8 → ∀ b, b < 8 → a ≠ b → (TX11 a).2.1 ≠ (TX11 b).2.1 := by decide +kernel
theorem tyX11_ok : ∀ k, k < 8 → parseFieldDescriptor (TX11 k).2.2.1 = some (tyX11 k) := by decide +kernel
abbrev cX11_init : ByteArray := prog_1_method_1_code
def yX11_init : MethodName := ⟨RX11, "<init>", "()V"⟩
abbrev cX11_job : ByteArray := prog_1_method_2_code
def yX11_job : MethodName := ⟨RX11, "job", "(IIII)I"⟩
abbrev cX11_after : ByteArray := prog_1_method_3_code
def yX11_after : MethodName := ⟨RX11, "after", "(II)I"⟩
abbrev cX11_lock : ByteArray := prog_1_method_4_code
def yX11_lock : MethodName := ⟨RX11, "lock", "(IIII)I"⟩
abbrev cX11_turns : ByteArray := prog_1_method_5_code
def yX11_turns : MethodName := ⟨RX11, "turns", "(IIIIZ)I"⟩
abbrev cX11_clear : ByteArray := prog_1_method_6_code
def yX11_clear : MethodName := ⟨RX11, "clear", "()I"⟩
abbrev cX11_run : ByteArray := prog_1_method_7_code
def yX11_run : MethodName := ⟨RX11, "run", "(I)I"⟩
abbrev cX11_running : ByteArray := prog_1_method_8_code
def yX11_running : MethodName := ⟨RX11, "running", "(I)I"⟩
abbrev cX11_left : ByteArray := prog_1_method_9_code
def yX11_left : MethodName := ⟨RX11, "left", "(II)I"⟩
abbrev cX11_work : ByteArray := prog_1_method_10_code
def yX11_work : MethodName := ⟨RX11, "work", "(I)I"⟩
abbrev cX11_end : ByteArray := prog_1_method_11_code
def yX11_end : MethodName := ⟨RX11, "end", "(I)I"⟩
abbrev cX11_sumOfEnds : ByteArray := prog_1_method_12_code
def yX11_sumOfEnds : MethodName := ⟨RX11, "sumOfEnds", "()I"⟩
abbrev cX11_waits : ByteArray := prog_1_method_13_code
def yX11_waits : MethodName := ⟨RX11, "waits", "(I)I"⟩
abbrev cX11_blocked : ByteArray := prog_1_method_14_code
def yX11_blocked : MethodName := ⟨RX11, "blocked", "(I)I"⟩
abbrev cX11_late : ByteArray := prog_1_method_15_code
def yX11_late : MethodName := ⟨RX11, "late", "(I)I"⟩
abbrev cX11_slowest : ByteArray := prog_1_method_16_code
def yX11_slowest : MethodName := ⟨RX11, "slowest", "(Z)I"⟩
abbrev cX11_busy : ByteArray := prog_1_method_17_code
def yX11_busy : MethodName := ⟨RX11, "busy", "(IZ)I"⟩
abbrev cX11_checksum : ByteArray := prog_1_method_18_code
def yX11_checksum : MethodName := ⟨RX11, "checksum", "()I"⟩
abbrev cX11_which : ByteArray := prog_1_method_19_code
def yX11_which : MethodName := ⟨RX11, "which", "()I"⟩
abbrev cX11_best : ByteArray := prog_1_method_20_code
def yX11_best : MethodName := ⟨RX11, "best", "()I"⟩
abbrev cX11_two : ByteArray := prog_1_method_21_code
def yX11_two : MethodName := ⟨RX11, "two", "(ZZ)I"⟩
abbrev cX11_isFeasible : ByteArray := prog_1_method_22_code
def yX11_isFeasible : MethodName := ⟨RX11, "isFeasible", "()Z"⟩
abbrev cX11_full : ByteArray := prog_1_method_23_code
def yX11_full : MethodName := ⟨RX11, "full", "(I)I"⟩
abbrev cX11_task : ByteArray := prog_1_method_24_code
def yX11_task : MethodName := ⟨RX11, "task", "(III)I"⟩
abbrev cX11_load : ByteArray := prog_1_method_25_code
def yX11_load : MethodName := ⟨RX11, "load", "(Z)J"⟩
abbrev cX11_response : ByteArray := prog_1_method_26_code
def yX11_response : MethodName := ⟨RX11, "response", "(I)I"⟩
abbrev cX11_meanEnd : ByteArray := prog_1_method_27_code
def yX11_meanEnd : MethodName := ⟨RX11, "meanEnd", "()D"⟩
abbrev cX11_workShare : ByteArray := prog_1_method_28_code
def yX11_workShare : MethodName := ⟨RX11, "workShare", "()F"⟩
abbrev cX11_errors : ByteArray := prog_1_method_29_code
def yX11_errors : MethodName := ⟨RX11, "errors", "()I"⟩
abbrev cX11_haveRulesSameBusyTime : ByteArray := prog_1_method_30_code
def yX11_haveRulesSameBusyTime : MethodName := ⟨RX11, "haveRulesSameBusyTime", "()Z"⟩
abbrev cX11_hasLeastLeftLeastEnds : ByteArray := prog_1_method_31_code
def yX11_hasLeastLeftLeastEnds : MethodName := ⟨RX11, "hasLeastLeftLeastEnds", "()Z"⟩
abbrev cX11_keepsDeadlines : ByteArray := prog_1_method_32_code
def yX11_keepsDeadlines : MethodName := ⟨RX11, "keepsDeadlines", "(I)Z"⟩
abbrev cX11_doesSomeRuleKeepDeadlines : ByteArray := prog_1_method_33_code
def yX11_doesSomeRuleKeepDeadlines : MethodName := ⟨RX11, "doesSomeRuleKeepDeadlines", "()Z"⟩
abbrev cX11_isRingFair : ByteArray := prog_1_method_34_code
def yX11_isRingFair : MethodName := ⟨RX11, "isRingFair", "()Z"⟩
abbrev cX11_isHighestFreeInTime : ByteArray := prog_1_method_35_code
def yX11_isHighestFreeInTime : MethodName := ⟨RX11, "isHighestFreeInTime", "()Z"⟩
abbrev cX11_needJob : ByteArray := prog_1_method_36_code
def yX11_needJob : MethodName := ⟨RX11, "needJob", "(I)V"⟩
abbrev cX11_needMoment : ByteArray := prog_1_method_37_code
def yX11_needMoment : MethodName := ⟨RX11, "needMoment", "(I)V"⟩
abbrev cX11_needRun : ByteArray := prog_1_method_38_code
def yX11_needRun : MethodName := ⟨RX11, "needRun", "()V"⟩
abbrev cX11_isOutside : ByteArray := prog_1_method_39_code
def yX11_isOutside : MethodName := ⟨RX11, "isOutside", "(III)Z"⟩
abbrev cX11_reduced : ByteArray := prog_1_method_40_code
def yX11_reduced : MethodName := ⟨RX11, "reduced", "(JJ)J"⟩
def RX12 : String := "SlicehouseModel"
def TX12 : u_T := fun k => match k with
  | 0 => ("SlicehouseModel", "comes", "[I", true)
  | 1 => ("SlicehouseModel", "length", "[I", true)
  | 2 => ("SlicehouseModel", "deadline", "[I", true)
  | 3 => ("SlicehouseModel", "weight", "[I", true)
  | 4 => ("SlicehouseModel", "waitsFor", "[I", true)
  | 5 => ("SlicehouseModel", "lockMany", "[I", true)
  | 6 => ("SlicehouseModel", "lockOf", "[I", true)
  | 7 => ("SlicehouseModel", "lockFrom", "[I", true)
  | 8 => ("SlicehouseModel", "lockTo", "[I", true)
  | 9 => ("SlicehouseModel", "jobs", "I", false)
  | 10 => ("SlicehouseModel", "slice", "I", false)
  | 11 => ("SlicehouseModel", "change", "I", false)
  | 12 => ("SlicehouseModel", "rise", "I", false)
  | 13 => ("SlicehouseModel", "seed", "I", false)
  | 14 => ("SlicehouseModel", "thrown", "I", false)
  | 15 => ("SlicehouseModel", "isLending", "Z", false)
  | 16 => ("SlicehouseModel", "period", "[I", true)
  | 17 => ("SlicehouseModel", "taskLength", "[I", true)
  | 18 => ("SlicehouseModel", "taskDeadline", "[I", true)
  | 19 => ("SlicehouseModel", "tasks", "I", false)
  | 20 => ("SlicehouseModel", "log", "[I", true)
  | 21 => ("SlicehouseModel", "endOf", "[I", true)
  | 22 => ("SlicehouseModel", "readyOf", "[I", true)
  | 23 => ("SlicehouseModel", "blockedOf", "[I", true)
  | 24 => ("SlicehouseModel", "moments", "I", false)
  | 25 => ("SlicehouseModel", "latestRule", "I", false)
  | 26 => ("SlicehouseModel", "work", "[I", true)
  | 27 => ("SlicehouseModel", "left", "[I", true)
  | 28 => ("SlicehouseModel", "end", "[I", true)
  | 29 => ("SlicehouseModel", "ready", "[I", true)
  | 30 => ("SlicehouseModel", "kept", "[I", true)
  | 31 => ("SlicehouseModel", "count", "[I", true)
  | 32 => ("SlicehouseModel", "isReady", "[Z", true)
  | 33 => ("SlicehouseModel", "workMoments", "I", false)
  | 34 => ("SlicehouseModel", "ended", "I", false)
  | 35 => ("SlicehouseModel", "drawn", "I", false)
  | 36 => ("SlicehouseModel", "row", "[I", true)
  | 37 => ("SlicehouseModel", "rowMany", "[I", true)
  | 38 => ("SlicehouseModel", "levelOf", "[I", true)
  | 39 => ("SlicehouseModel", "fullFrom", "I", false)
  | 40 => ("SlicehouseModel", "fullTo", "I", false)
  | 41 => ("SlicehouseModel", "isBusy", "[Z", true)
  | _ => ("SlicehouseModel", "busyMoments", "I", false)
def tyX12 : Nat → FieldType := fun k => match k with
  | 0 => .array .int
  | 1 => .array .int
  | 2 => .array .int
  | 3 => .array .int
  | 4 => .array .int
  | 5 => .array .int
  | 6 => .array .int
  | 7 => .array .int
  | 8 => .array .int
  | 9 => .int
  | 10 => .int
  | 11 => .int
  | 12 => .int
  | 13 => .int
  | 14 => .int
  | 15 => .boolean
  | 16 => .array .int
  | 17 => .array .int
  | 18 => .array .int
  | 19 => .int
  | 20 => .array .int
  | 21 => .array .int
  | 22 => .array .int
  | 23 => .array .int
  | 24 => .int
  | 25 => .int
  | 26 => .array .int
  | 27 => .array .int
  | 28 => .array .int
  | 29 => .array .int
  | 30 => .array .int
  | 31 => .array .int
  | 32 => .array .boolean
  | 33 => .int
  | 34 => .int
  | 35 => .int
  | 36 => .array .int
  | 37 => .array .int
  | 38 => .array .int
  | 39 => .int
  | 40 => .int
  | 41 => .array .boolean
  | _ => .int
abbrev wsX120 : List Cond := u_ws RX12 TX12 43
theorem nmX12 : ∀ a, a < 43 → ∀ b, b < 43 → a ≠ b → (TX12 a).2.1 ≠ (TX12 b).2.1 := by decide +kernel
theorem tyX12_ok : ∀ k, k < 43 → parseFieldDescriptor (TX12 k).2.2.1 = some (tyX12 k) := by decide +kernel
abbrev cX12_init : ByteArray := prog_14_method_1_code
def yX12_init : MethodName := ⟨RX12, "<init>", "()V"⟩
abbrev cX12_thrown : ByteArray := prog_14_method_2_code
def yX12_thrown : MethodName := ⟨RX12, "thrown", "()I"⟩
abbrev cX12_in : ByteArray := prog_14_method_3_code
def yX12_in : MethodName := ⟨RX12, "in", "(III)Z"⟩
abbrev cX12_isJob : ByteArray := prog_14_method_4_code
def yX12_isJob : MethodName := ⟨RX12, "isJob", "(I)Z"⟩
abbrev cX12_refuse : ByteArray := prog_14_method_5_code
def yX12_refuse : MethodName := ⟨RX12, "refuse", "(I)I"⟩
abbrev cX12_told : ByteArray := prog_14_method_6_code
def yX12_told : MethodName := ⟨RX12, "told", "(I)I"⟩
abbrev cX12_denies : ByteArray := prog_14_method_7_code
def yX12_denies : MethodName := ⟨RX12, "denies", "(I)Z"⟩
abbrev cX12_changed : ByteArray := prog_14_method_8_code
def yX12_changed : MethodName := ⟨RX12, "changed", "(I)I"⟩
abbrev cX12_job : ByteArray := prog_14_method_9_code
def yX12_job : MethodName := ⟨RX12, "job", "(IIII)I"⟩
abbrev cX12_bits : ByteArray := prog_14_method_10_code
def yX12_bits : MethodName := ⟨RX12, "bits", "(I)I"⟩
abbrev cX12_after : ByteArray := prog_14_method_11_code
def yX12_after : MethodName := ⟨RX12, "after", "(II)I"⟩
abbrev cX12_lock : ByteArray := prog_14_method_12_code
def yX12_lock : MethodName := ⟨RX12, "lock", "(IIII)I"⟩
abbrev cX12_turns : ByteArray := prog_14_method_13_code
def yX12_turns : MethodName := ⟨RX12, "turns", "(IIIIZ)I"⟩
abbrev cX12_clear : ByteArray := prog_14_method_14_code
def yX12_clear : MethodName := ⟨RX12, "clear", "()I"⟩
abbrev cX12_joins : ByteArray := prog_14_method_15_code
def yX12_joins : MethodName := ⟨RX12, "joins", "(II)V"⟩
abbrev cX12_takes : ByteArray := prog_14_method_16_code
def yX12_takes : MethodName := ⟨RX12, "takes", "(I)I"⟩
abbrev cX12_rises : ByteArray := prog_14_method_17_code
def yX12_rises : MethodName := ⟨RX12, "rises", "()V"⟩
abbrev cX12_canBegin : ByteArray := prog_14_method_18_code
def yX12_canBegin : MethodName := ⟨RX12, "canBegin", "(II)Z"⟩
abbrev cX12_leastCount : ByteArray := prog_14_method_19_code
def yX12_leastCount : MethodName := ⟨RX12, "leastCount", "(I)I"⟩
abbrev cX12_becomesReady : ByteArray := prog_14_method_20_code
def yX12_becomesReady : MethodName := ⟨RX12, "becomesReady", "(II)V"⟩
abbrev cX12_isThere : ByteArray := prog_14_method_21_code
def yX12_isThere : MethodName := ⟨RX12, "isThere", "(I)Z"⟩
abbrev cX12_needs : ByteArray := prog_14_method_22_code
def yX12_needs : MethodName := ⟨RX12, "needs", "(I)I"⟩
abbrev cX12_has : ByteArray := prog_14_method_23_code
def yX12_has : MethodName := ⟨RX12, "has", "(II)Z"⟩
abbrev cX12_keeper : ByteArray := prog_14_method_24_code
def yX12_keeper : MethodName := ⟨RX12, "keeper", "(I)I"⟩
abbrev cX12_rankOf : ByteArray := prog_14_method_25_code
def yX12_rankOf : MethodName := ⟨RX12, "rankOf", "(IZ)I"⟩
abbrev cX12_draws : ByteArray := prog_14_method_26_code
def yX12_draws : MethodName := ⟨RX12, "draws", "(I)I"⟩
abbrev cX12_drawnJob : ByteArray := prog_14_method_27_code
def yX12_drawnJob : MethodName := ⟨RX12, "drawnJob", "()I"⟩
abbrev cX12_keyOf : ByteArray := prog_14_method_28_code
def yX12_keyOf : MethodName := ⟨RX12, "keyOf", "(IIZ)I"⟩
abbrev cX12_chooses : ByteArray := prog_14_method_29_code
def yX12_chooses : MethodName := ⟨RX12, "chooses", "(IZ)I"⟩
abbrev cX12_turnOf : ByteArray := prog_14_method_30_code
def yX12_turnOf : MethodName := ⟨RX12, "turnOf", "(III)I"⟩
abbrev cX12_begins : ByteArray := prog_14_method_31_code
def yX12_begins : MethodName := ⟨RX12, "begins", "()V"⟩
abbrev cX12_keepsWaiting : ByteArray := prog_14_method_32_code
def yX12_keepsWaiting : MethodName := ⟨RX12, "keepsWaiting", "(I)V"⟩
abbrev cX12_runs : ByteArray := prog_14_method_33_code
def yX12_runs : MethodName := ⟨RX12, "runs", "(IIIZ)V"⟩
abbrev cX12_sumOfWork : ByteArray := prog_14_method_34_code
def yX12_sumOfWork : MethodName := ⟨RX12, "sumOfWork", "()I"⟩
abbrev cX12_run : ByteArray := prog_14_method_35_code
def yX12_run : MethodName := ⟨RX12, "run", "(I)I"⟩
abbrev cX12_isRun : ByteArray := prog_14_method_36_code
def yX12_isRun : MethodName := ⟨RX12, "isRun", "()Z"⟩
abbrev cX12_atMoment : ByteArray := prog_14_method_37_code
def yX12_atMoment : MethodName := ⟨RX12, "atMoment", "(I)I"⟩
abbrev cX12_running : ByteArray := prog_14_method_38_code
def yX12_running : MethodName := ⟨RX12, "running", "(I)I"⟩
abbrev cX12_leftOf : ByteArray := prog_14_method_39_code
def yX12_leftOf : MethodName := ⟨RX12, "leftOf", "(II)I"⟩
abbrev cX12_left : ByteArray := prog_14_method_40_code
def yX12_left : MethodName := ⟨RX12, "left", "(II)I"⟩
abbrev cX12_work : ByteArray := prog_14_method_41_code
def yX12_work : MethodName := ⟨RX12, "work", "(I)I"⟩
abbrev cX12_end : ByteArray := prog_14_method_42_code
def yX12_end : MethodName := ⟨RX12, "end", "(I)I"⟩
abbrev cX12_sumOf : ByteArray := prog_14_method_43_code
def yX12_sumOf : MethodName := ⟨RX12, "sumOf", "()I"⟩
abbrev cX12_sumOfEnds : ByteArray := prog_14_method_44_code
def yX12_sumOfEnds : MethodName := ⟨RX12, "sumOfEnds", "()I"⟩
abbrev cX12_longest : ByteArray := prog_14_method_45_code
def yX12_longest : MethodName := ⟨RX12, "longest", "([IIII)I"⟩
abbrev cX12_waits : ByteArray := prog_14_method_46_code
def yX12_waits : MethodName := ⟨RX12, "waits", "(I)I"⟩
abbrev cX12_blocked : ByteArray := prog_14_method_47_code
def yX12_blocked : MethodName := ⟨RX12, "blocked", "(I)I"⟩
abbrev cX12_late : ByteArray := prog_14_method_48_code
def yX12_late : MethodName := ⟨RX12, "late", "(I)I"⟩
abbrev cX12_common : ByteArray := prog_14_method_49_code
def yX12_common : MethodName := ⟨RX12, "common", "(JJ)J"⟩
abbrev cX12_slowest : ByteArray := prog_14_method_50_code
def yX12_slowest : MethodName := ⟨RX12, "slowest", "(Z)I"⟩
abbrev cX12_busy : ByteArray := prog_14_method_51_code
def yX12_busy : MethodName := ⟨RX12, "busy", "(IZ)I"⟩
abbrev cX12_checksum : ByteArray := prog_14_method_52_code
def yX12_checksum : MethodName := ⟨RX12, "checksum", "()I"⟩
abbrev cX12_isLikeLatest : ByteArray := prog_14_method_53_code
def yX12_isLikeLatest : MethodName := ⟨RX12, "isLikeLatest", "()Z"⟩
abbrev cX12_which : ByteArray := prog_14_method_54_code
def yX12_which : MethodName := ⟨RX12, "which", "()I"⟩
abbrev cX12_best : ByteArray := prog_14_method_55_code
def yX12_best : MethodName := ⟨RX12, "best", "()I"⟩
abbrev cX12_two : ByteArray := prog_14_method_56_code
def yX12_two : MethodName := ⟨RX12, "two", "(ZZ)I"⟩
abbrev cX12_works : ByteArray := prog_14_method_57_code
def yX12_works : MethodName := ⟨RX12, "works", "(II)V"⟩
abbrev cX12_isAnyWaiting : ByteArray := prog_14_method_58_code
def yX12_isAnyWaiting : MethodName := ⟨RX12, "isAnyWaiting", "()Z"⟩
abbrev cX12_areKept : ByteArray := prog_14_method_59_code
def yX12_areKept : MethodName := ⟨RX12, "areKept", "()Z"⟩
abbrev cX12_isFeasible : ByteArray := prog_14_method_60_code
def yX12_isFeasible : MethodName := ⟨RX12, "isFeasible", "()Z"⟩
abbrev cX12_workWithin : ByteArray := prog_14_method_61_code
def yX12_workWithin : MethodName := ⟨RX12, "workWithin", "(II)I"⟩
abbrev cX12_isAnyFull : ByteArray := prog_14_method_62_code
def yX12_isAnyFull : MethodName := ⟨RX12, "isAnyFull", "()Z"⟩
abbrev cX12_full : ByteArray := prog_14_method_63_code
def yX12_full : MethodName := ⟨RX12, "full", "(I)I"⟩
abbrev cX12_task : ByteArray := prog_14_method_64_code
def yX12_task : MethodName := ⟨RX12, "task", "(III)I"⟩
abbrev cX12_load : ByteArray := prog_14_method_65_code
def yX12_load : MethodName := ⟨RX12, "load", "(Z)J"⟩
abbrev cX12_response : ByteArray := prog_14_method_66_code
def yX12_response : MethodName := ⟨RX12, "response", "(I)I"⟩
abbrev cX12_meanEnd : ByteArray := prog_14_method_67_code
def yX12_meanEnd : MethodName := ⟨RX12, "meanEnd", "()D"⟩
abbrev cX12_workShare : ByteArray := prog_14_method_68_code
def yX12_workShare : MethodName := ⟨RX12, "workShare", "()F"⟩
abbrev cX12_isLikeBusy : ByteArray := prog_14_method_69_code
def yX12_isLikeBusy : MethodName := ⟨RX12, "isLikeBusy", "()Z"⟩
abbrev cX12_longestFor : ByteArray := prog_14_method_70_code
def yX12_longestFor : MethodName := ⟨RX12, "longestFor", "(II)I"⟩
abbrev cX12_lentErrors : ByteArray := prog_14_method_71_code
def yX12_lentErrors : MethodName := ⟨RX12, "lentErrors", "()I"⟩
abbrev cX12_errors : ByteArray := prog_14_method_72_code
def yX12_errors : MethodName := ⟨RX12, "errors", "()I"⟩
def RJx145de : String := "java/io/Serializable"
def TJx145de : u_T := fun k => match k with
  | _ => ("", "", "", false)
def tyJx145de : Nat → FieldType := fun k => match k with
  | _ => .int
theorem nmJx145de : ∀ a, a < 0 → ∀ b, b < 0 → a ≠ b → (TJx145de a).2.1 ≠ (TJx145de b).2.1 := by decide +kernel
theorem tyJx145de_ok : ∀ k, k < 0 → parseFieldDescriptor (TJx145de k).2.2.1 = some (tyJx145de k) := by decide +kernel
def RJ6 : String := "java/lang/Integer"
def TJ6 : u_T := fun k => match k with
  | _ => ("", "", "", false)
def tyJ6 : Nat → FieldType := fun k => match k with
  | _ => .int
abbrev wsJ60 : List Cond := u_ws RJ6 TJ6 0
theorem nmJ6 : ∀ a, a < 0 → ∀ b, b < 0 → a ≠ b → (TJ6 a).2.1 ≠ (TJ6 b).2.1 := by decide +kernel
theorem tyJ6_ok : ∀ k, k < 0 → parseFieldDescriptor (TJ6 k).2.2.1 = some (tyJ6 k) := by decide +kernel
abbrev cJ6_bitCount_0f7a4 : ByteArray := prog_20_method_49_code
def yJ6_bitCount_0f7a4 : MethodName := ⟨RJ6, "bitCount", "(I)I"⟩
def RJ9 : String := "java/lang/Math"
def TJ9 : u_T := fun k => match k with
  | _ => ("", "", "", false)
def tyJ9 : Nat → FieldType := fun k => match k with
  | _ => .int
abbrev wsJ90 : List Cond := u_ws RJ9 TJ9 0
theorem nmJ9 : ∀ a, a < 0 → ∀ b, b < 0 → a ≠ b → (TJ9 a).2.1 ≠ (TJ9 b).2.1 := by decide +kernel
theorem tyJ9_ok : ∀ k, k < 0 → parseFieldDescriptor (TJ9 k).2.2.1 = some (tyJ9 k) := by decide +kernel
abbrev cJ9_max_7cf53 : ByteArray := prog_21_method_65_code
def yJ9_max_7cf53 : MethodName := ⟨RJ9, "max", "(II)I"⟩
abbrev cJ9_min_7cf53 : ByteArray := prog_21_method_69_code
def yJ9_min_7cf53 : MethodName := ⟨RJ9, "min", "(II)I"⟩
def RL : String := "SlicehouseLaw"
abbrev cL_job : ByteArray := method_3_code
def yL_job : MethodName := ⟨RL, "job", "(LSlicehouse;IIII[J)I"⟩
abbrev cL_after : ByteArray := method_4_code
def yL_after : MethodName := ⟨RL, "after", "(LSlicehouse;II[J)I"⟩
abbrev cL_lock : ByteArray := method_5_code
def yL_lock : MethodName := ⟨RL, "lock", "(LSlicehouse;IIII[J)I"⟩
abbrev cL_turns : ByteArray := method_6_code
def yL_turns : MethodName := ⟨RL, "turns", "(LSlicehouse;IIIIZ[J)I"⟩
abbrev cL_run : ByteArray := method_7_code
def yL_run : MethodName := ⟨RL, "run", "(LSlicehouse;I[J)I"⟩
abbrev cL_running : ByteArray := method_8_code
def yL_running : MethodName := ⟨RL, "running", "(LSlicehouse;I[J)I"⟩
abbrev cL_left : ByteArray := method_9_code
def yL_left : MethodName := ⟨RL, "left", "(LSlicehouse;II[J)I"⟩
abbrev cL_work : ByteArray := method_10_code
def yL_work : MethodName := ⟨RL, "work", "(LSlicehouse;I[J)I"⟩
abbrev cL_end : ByteArray := method_11_code
def yL_end : MethodName := ⟨RL, "end", "(LSlicehouse;I[J)I"⟩
abbrev cL_sumOfEnds : ByteArray := method_12_code
def yL_sumOfEnds : MethodName := ⟨RL, "sumOfEnds", "(LSlicehouse;[J)I"⟩
abbrev cL_waits : ByteArray := method_13_code
def yL_waits : MethodName := ⟨RL, "waits", "(LSlicehouse;I[J)I"⟩
abbrev cL_blocked : ByteArray := method_14_code
def yL_blocked : MethodName := ⟨RL, "blocked", "(LSlicehouse;I[J)I"⟩
abbrev cL_late : ByteArray := method_15_code
def yL_late : MethodName := ⟨RL, "late", "(LSlicehouse;I[J)I"⟩
abbrev cL_slowest : ByteArray := method_16_code
def yL_slowest : MethodName := ⟨RL, "slowest", "(LSlicehouse;Z[J)I"⟩
abbrev cL_busy : ByteArray := method_17_code
def yL_busy : MethodName := ⟨RL, "busy", "(LSlicehouse;IZ[J)I"⟩
abbrev cL_checksum : ByteArray := method_18_code
def yL_checksum : MethodName := ⟨RL, "checksum", "(LSlicehouse;[J)I"⟩
abbrev cL_which : ByteArray := method_19_code
def yL_which : MethodName := ⟨RL, "which", "(LSlicehouse;[J)I"⟩
abbrev cL_isFeasible : ByteArray := method_20_code
def yL_isFeasible : MethodName := ⟨RL, "isFeasible", "(LSlicehouse;[J)I"⟩
abbrev cL_full : ByteArray := method_21_code
def yL_full : MethodName := ⟨RL, "full", "(LSlicehouse;I[J)I"⟩
abbrev cL_task : ByteArray := method_22_code
def yL_task : MethodName := ⟨RL, "task", "(LSlicehouse;III[J)I"⟩
abbrev cL_response : ByteArray := method_23_code
def yL_response : MethodName := ⟨RL, "response", "(LSlicehouse;I[J)I"⟩
abbrev cL_meanEnd : ByteArray := method_24_code
def yL_meanEnd : MethodName := ⟨RL, "meanEnd", "(LSlicehouse;[D)I"⟩
abbrev cL_workShare : ByteArray := method_25_code
def yL_workShare : MethodName := ⟨RL, "workShare", "(LSlicehouse;[D)I"⟩
abbrev cL_law : ByteArray := code
def yL_law : MethodName := ⟨RL, "law", "([I)Z"⟩
def wsJ6_bitCount_0f7a4 : List Cond := .code yJ6_bitCount_0f7a4 cJ6_bitCount_0f7a4 1 (some .int) :: ([.constant RJ6 265 (1431655765), .constant RJ6 266 (858993459), .constant RJ6 267 (252645135)])
def wsJ9_max_7cf53 : List Cond := .code yJ9_max_7cf53 cJ9_max_7cf53 2 (some .int) :: ([])
def wsJ9_min_7cf53 : List Cond := .code yJ9_min_7cf53 cJ9_min_7cf53 2 (some .int) :: ([])
theorem inJ6 : ∀ w ∈ wsJ60, w ∈ lw_tbl := by decide +kernel
theorem inJ9 : ∀ w ∈ wsJ90, w ∈ lw_tbl := by decide +kernel
theorem dJ6_bitCount_0f7a4_0 : decode cJ6_bitCount_0f7a4 0 = .ok (.iload_n 0, 1) := by decide +kernel
theorem dJ6_bitCount_0f7a4_1 : decode cJ6_bitCount_0f7a4 1 = .ok (.iload_n 0, 1) := by decide +kernel
theorem dJ6_bitCount_0f7a4_2 : decode cJ6_bitCount_0f7a4 2 = .ok (.iconst 1, 1) := by decide +kernel
theorem dJ6_bitCount_0f7a4_3 : decode cJ6_bitCount_0f7a4 3 = .ok (.iushr, 1) := by decide +kernel
theorem dJ6_bitCount_0f7a4_4 : decode cJ6_bitCount_0f7a4 4 = .ok (.ldc_w 265, 3) := by decide +kernel
theorem dJ6_bitCount_0f7a4_7 : decode cJ6_bitCount_0f7a4 7 = .ok (.iand, 1) := by decide +kernel
theorem dJ6_bitCount_0f7a4_8 : decode cJ6_bitCount_0f7a4 8 = .ok (.isub, 1) := by decide +kernel
theorem dJ6_bitCount_0f7a4_9 : decode cJ6_bitCount_0f7a4 9 = .ok (.istore_n 0, 1) := by decide +kernel
theorem dJ6_bitCount_0f7a4_10 : decode cJ6_bitCount_0f7a4 10 = .ok (.iload_n 0, 1) := by decide +kernel
theorem dJ6_bitCount_0f7a4_11 : decode cJ6_bitCount_0f7a4 11 = .ok (.ldc_w 266, 3) := by decide +kernel
theorem dJ6_bitCount_0f7a4_14 : decode cJ6_bitCount_0f7a4 14 = .ok (.iand, 1) := by decide +kernel
theorem dJ6_bitCount_0f7a4_15 : decode cJ6_bitCount_0f7a4 15 = .ok (.iload_n 0, 1) := by decide +kernel
theorem dJ6_bitCount_0f7a4_16 : decode cJ6_bitCount_0f7a4 16 = .ok (.iconst 2, 1) := by decide +kernel
theorem dJ6_bitCount_0f7a4_17 : decode cJ6_bitCount_0f7a4 17 = .ok (.iushr, 1) := by decide +kernel
theorem dJ6_bitCount_0f7a4_18 : decode cJ6_bitCount_0f7a4 18 = .ok (.ldc_w 266, 3) := by decide +kernel
theorem dJ6_bitCount_0f7a4_21 : decode cJ6_bitCount_0f7a4 21 = .ok (.iand, 1) := by decide +kernel
theorem dJ6_bitCount_0f7a4_22 : decode cJ6_bitCount_0f7a4 22 = .ok (.iadd, 1) := by decide +kernel
theorem dJ6_bitCount_0f7a4_23 : decode cJ6_bitCount_0f7a4 23 = .ok (.istore_n 0, 1) := by decide +kernel
theorem dJ6_bitCount_0f7a4_24 : decode cJ6_bitCount_0f7a4 24 = .ok (.iload_n 0, 1) := by decide +kernel
theorem dJ6_bitCount_0f7a4_25 : decode cJ6_bitCount_0f7a4 25 = .ok (.iload_n 0, 1) := by decide +kernel
theorem dJ6_bitCount_0f7a4_26 : decode cJ6_bitCount_0f7a4 26 = .ok (.iconst 4, 1) := by decide +kernel
theorem dJ6_bitCount_0f7a4_27 : decode cJ6_bitCount_0f7a4 27 = .ok (.iushr, 1) := by decide +kernel
theorem dJ6_bitCount_0f7a4_28 : decode cJ6_bitCount_0f7a4 28 = .ok (.iadd, 1) := by decide +kernel
theorem dJ6_bitCount_0f7a4_29 : decode cJ6_bitCount_0f7a4 29 = .ok (.ldc_w 267, 3) := by decide +kernel
theorem dJ6_bitCount_0f7a4_32 : decode cJ6_bitCount_0f7a4 32 = .ok (.iand, 1) := by decide +kernel
theorem dJ6_bitCount_0f7a4_33 : decode cJ6_bitCount_0f7a4 33 = .ok (.istore_n 0, 1) := by decide +kernel
theorem dJ6_bitCount_0f7a4_34 : decode cJ6_bitCount_0f7a4 34 = .ok (.iload_n 0, 1) := by decide +kernel
theorem dJ6_bitCount_0f7a4_35 : decode cJ6_bitCount_0f7a4 35 = .ok (.iload_n 0, 1) := by decide +kernel
theorem dJ6_bitCount_0f7a4_36 : decode cJ6_bitCount_0f7a4 36 = .ok (.bipush 8, 2) := by decide +kernel
theorem dJ6_bitCount_0f7a4_38 : decode cJ6_bitCount_0f7a4 38 = .ok (.iushr, 1) := by decide +kernel
theorem dJ6_bitCount_0f7a4_39 : decode cJ6_bitCount_0f7a4 39 = .ok (.iadd, 1) := by decide +kernel
theorem dJ6_bitCount_0f7a4_40 : decode cJ6_bitCount_0f7a4 40 = .ok (.istore_n 0, 1) := by decide +kernel
theorem dJ6_bitCount_0f7a4_41 : decode cJ6_bitCount_0f7a4 41 = .ok (.iload_n 0, 1) := by decide +kernel
theorem dJ6_bitCount_0f7a4_42 : decode cJ6_bitCount_0f7a4 42 = .ok (.iload_n 0, 1) := by decide +kernel
theorem dJ6_bitCount_0f7a4_43 : decode cJ6_bitCount_0f7a4 43 = .ok (.bipush 16, 2) := by decide +kernel
theorem dJ6_bitCount_0f7a4_45 : decode cJ6_bitCount_0f7a4 45 = .ok (.iushr, 1) := by decide +kernel
theorem dJ6_bitCount_0f7a4_46 : decode cJ6_bitCount_0f7a4 46 = .ok (.iadd, 1) := by decide +kernel
theorem dJ6_bitCount_0f7a4_47 : decode cJ6_bitCount_0f7a4 47 = .ok (.istore_n 0, 1) := by decide +kernel
theorem dJ6_bitCount_0f7a4_48 : decode cJ6_bitCount_0f7a4 48 = .ok (.iload_n 0, 1) := by decide +kernel
theorem dJ6_bitCount_0f7a4_49 : decode cJ6_bitCount_0f7a4 49 = .ok (.bipush 63, 2) := by decide +kernel
theorem dJ6_bitCount_0f7a4_51 : decode cJ6_bitCount_0f7a4 51 = .ok (.iand, 1) := by decide +kernel
theorem dJ6_bitCount_0f7a4_52 : decode cJ6_bitCount_0f7a4 52 = .ok (.ireturn, 1) := by decide +kernel
theorem dJ9_max_7cf53_0 : decode cJ9_max_7cf53 0 = .ok (.iload_n 0, 1) := by decide +kernel
theorem dJ9_max_7cf53_1 : decode cJ9_max_7cf53 1 = .ok (.iload_n 1, 1) := by decide +kernel
theorem dJ9_max_7cf53_2 : decode cJ9_max_7cf53 2 = .ok (.if_icmp .lt 7, 3) := by decide +kernel
theorem dJ9_max_7cf53_5 : decode cJ9_max_7cf53 5 = .ok (.iload_n 0, 1) := by decide +kernel
theorem dJ9_max_7cf53_6 : decode cJ9_max_7cf53 6 = .ok (.goto 4, 3) := by decide +kernel
theorem dJ9_max_7cf53_9 : decode cJ9_max_7cf53 9 = .ok (.iload_n 1, 1) := by decide +kernel
theorem dJ9_max_7cf53_10 : decode cJ9_max_7cf53 10 = .ok (.ireturn, 1) := by decide +kernel
theorem dJ9_min_7cf53_0 : decode cJ9_min_7cf53 0 = .ok (.iload_n 0, 1) := by decide +kernel
theorem dJ9_min_7cf53_1 : decode cJ9_min_7cf53 1 = .ok (.iload_n 1, 1) := by decide +kernel
theorem dJ9_min_7cf53_2 : decode cJ9_min_7cf53 2 = .ok (.if_icmp .gt 7, 3) := by decide +kernel
theorem dJ9_min_7cf53_5 : decode cJ9_min_7cf53 5 = .ok (.iload_n 0, 1) := by decide +kernel
theorem dJ9_min_7cf53_6 : decode cJ9_min_7cf53 6 = .ok (.goto 4, 3) := by decide +kernel
theorem dJ9_min_7cf53_9 : decode cJ9_min_7cf53 9 = .ok (.iload_n 1, 1) := by decide +kernel
theorem dJ9_min_7cf53_10 : decode cJ9_min_7cf53 10 = .ok (.ireturn, 1) := by decide +kernel
abbrev vwCl : List vw_C := [(RX0, TX0, 3), (RX1, TX1, 11), (RX2, TX2, 3), (RX3, TX3, 2), (RX4, TX4, 5), (RX5, TX5, 2), (RX6, TX6, 7), (RX7, TX7, 1), (RX8, TX8, 4), (RX9, TX9, 5), (RX10, TX10, 18), (RX11, TX11, 8), (RX12, TX12, 43)]
end
section
/-! ===== the pure memory and its picture: objects are numbered from B on in the order in which they are made ===== -/
abbrev Mm : Type := Nat → Nat → Int
/-- object k, place j becomes v -/
def mup (μ : Mm) (k j : Nat) (v : Int) : Mm := fun a b => if a = k ∧ b = j then v else μ a b
theorem mup_eq (μ : Mm) (k j : Nat) (v : Int) : mup μ k j v k j = v := if_pos ⟨rfl, rfl⟩
theorem mup_ne {μ : Mm} {k j a b : Nat} {v : Int} (h : ¬ (a = k ∧ b = j)) : mup μ k j v a b = μ a b := if_neg h
theorem mup_nk {μ : Mm} {k j a b : Nat} {v : Int} (h : a ≠ k) : mup μ k j v a b = μ a b := if_neg (fun z => h z.1)
theorem mup_row (μ : Mm) (k j : Nat) (v : Int) (b : Nat) : mup μ k j v k b = if b = j then v else μ k b := by
  unfold mup
  by_cases h : b = j <;> simp [h]
abbrev iI (z : Int) : Value := .int (Int32.ofInt z)
abbrev iL (z : Int) : Value := .long (Int64.ofInt z)
abbrev InR (z : Int) : Prop := -2147483648 ≤ z ∧ z < 2147483648
abbrev InL (z : Int) : Prop := -9223372036854775808 ≤ z ∧ z < 9223372036854775808
/-- an object: its kind's number, its fields (a reference, or an int at that place); an array: what of, how long -/
abbrev Shp : Type := (Nat × List (Option Nat)) ⊕ (Nat × Nat)
def shRow (k n : Nat) : List Shp := [.inl (7, [some (k + 1)]), .inr (0, n)]
def shLine (k : Nat) : List Shp := [.inl (3, [some (k + 1), none]), .inr (0, 12)]
def shLevels (k : Nat) : List Shp := .inl (2, [some (k + 1), some (k + 3), some (k + 5)]) :: (shLine (k + 1) ++ (shLine (k + 3) ++ shLine (k + 5)))
def shProg (g : Nat) : List Shp := .inl (6, [some (g + 1), some (g + 3), some (g + 5), none, some 1, none, none]) :: (shRow (g + 1) 12 ++ (shRow (g + 3) 12 ++ shRow (g + 5) 12))
def shCourse (g : Nat) : List Shp := .inl (0, [none, some (g + 1), some 1]) :: shRow (g + 1) 2304
def shLocks (g p : Nat) : List Shp := .inl (4, [some 1, some p, some (g + 1), some (g + 3), some (g + 5)]) :: (shRow (g + 1) 3 ++ (shRow (g + 3) 12 ++ shRow (g + 5) 12))
def shWorker (w : Nat) : List Shp :=
  .inl (10, [some (w + 12), some (w + 19), some (w + 1), some 1, some 27, some (w + 3), some (w + 10), some (w + 22), none, none, none, none, none, none, none, none, none, none]) ::
  (shRow (w + 1) 12 ++ (shLevels (w + 3) ++ (shRow (w + 10) 12 ++ (shProg (w + 12) ++ (shCourse (w + 19) ++ shLocks (w + 22) (w + 12))))))
/-- the ints of the row of the deadlines' keys stand at 2 (its Row is 153), those of comes at 3 (its Row is 154) -/
def shJobs : List Shp := .inl (1, [some 154, some 4, some 6, some 8, some 10, some 12, some 14, some 16, some 18, none, some 153]) :: .inr (0, 12) :: .inr (0, 12) ::
  (shRow 4 12 ++ (shRow 6 12 ++ (shRow 8 12 ++ (shRow 10 12 ++ (shRow 12 12 ++ (shRow 14 36 ++ (shRow 16 36 ++ shRow 18 36)))))))
def shTasks : List Shp := .inl (8, [some 21, some 23, some 25, none]) :: (shRow 21 5 ++ (shRow 23 5 ++ shRow 25 5))
def shWays : List Shp := [.inl (9, [none, none, none, none, none])]
def shPair : List Shp := .inl (5, [some 116, some 1]) :: shProg 116
def shHouse : List Shp := .inl (11, [some 1, some 20, some 27, some 28, some 57, some 86, some 115, none]) :: (shJobs ++ (shTasks ++ (shWays ++ (shWorker 28 ++ (shWorker 57 ++ (shWorker 86 ++ shPair))))))
def shModel : List Shp :=
  .inl (12, [some 124, some 125, some 126, some 127, some 128, some 129, some 130, some 131, some 132, none, none, none, none, none, none, none, some 133, some 134, some 135, none, some 136, some 137, some 138, some 139, none, none, some 140, some 141, some 142, some 143, some 144, some 145, some 146, none, none, none, some 147, some 148, some 149, none, none, some 150, none]) ::
  [.inr (0, 12), .inr (0, 12), .inr (0, 12), .inr (0, 12), .inr (0, 12), .inr (0, 12), .inr (0, 36), .inr (0, 36), .inr (0, 36), .inr (0, 5), .inr (0, 5), .inr (0, 5), .inr (0, 3000), .inr (0, 12), .inr (0, 12), .inr (0, 12), .inr (0, 3000), .inr (0, 12), .inr (0, 12), .inr (0, 12), .inr (0, 12), .inr (0, 12), .inr (1, 12), .inr (0, 36), .inr (0, 3), .inr (0, 12), .inr (1, 3000)]
def shOut : List Shp := [.inr (2, 1), .inr (3, 1)]
def shapes : List Shp := shHouse ++ (shModel ++ (shOut ++ [.inl (7, [some 2]), .inl (7, [some 3])]))
/-- the place of the object with the number k behind the first one: objects lie in the order in which they are made -/
def ph (k : Nat) : Nat := if k = 154 then 2 else if k = 2 then 9 else if k = 153 then 8 else if k < 8 then k else if k < 153 then k + 2 else k
def pl (B k : Nat) : Nat := B + ph k
theorem ph_inj {a b : Nat} (h : ph a = ph b) : a = b := by
  unfold ph at h
  repeat' split at h
  all_goals omega
theorem pl_inj {B a b : Nat} (h : pl B a = pl B b) : a = b := ph_inj (Nat.add_left_cancel h)
theorem pl_ge (B k : Nat) : B ≤ pl B k := Nat.le_add_right _ _
/-- fields of an object; A: the addresses -/
def fvs (A : Nat → Nat) (μ : Nat → Int) : Nat → List (Option Nat) → List Value
  | _, [] => []
  | j, some r :: t => .ref (A r) :: fvs A μ (j + 1) t
  | j, none :: t => iI (μ j) :: fvs A μ (j + 1) t
def cel (A : Nat → Nat) (E : Nat → ClassId) (μ : Nat → Int) : Shp → va_E
  | .inl q => .inr (q.1, fvs A μ 0 q.2)
  | .inr (0, n) => .inl (E 0, n, .inl (fun j => Int32.ofInt (μ j)))
  | .inr (1, n) => .inl (E 1, n, .inl (fun j => Int32.ofInt (μ j)))
  | .inr (2, n) => .inl (E 2, n, .inr (.inl (fun j => Int64.ofInt (μ j))))
  | .inr (_ + 3, n) => .inl (E 3, n, .inr (.inr (.inr (.inl (fun j => UInt64.ofNat (μ j).toNat)))))
def wsF (B : Nat) (E : Nat → ClassId) (μ : Mm) : Nat → List Shp → va_W
  | _, [] => []
  | k, s :: t => (pl B k, cel (pl B) E (μ k) s) :: wsF B E μ (k + 1) t
abbrev wsm (B : Nat) (E : Nat → ClassId) (μ : Mm) : va_W := wsF B E μ 0 shapes
theorem wsF_get (B : Nat) (E : Nat → ClassId) (μ : Mm) : ∀ (l : List Shp) (k i : Nat), (wsF B E μ k l)[i]? = (l[i]?).map (fun s => (pl B (k + i), cel (pl B) E (μ (k + i)) s)) := by
  intro l
  induction l with
  | nil => intro k i; simp [wsF]
  | cons s t ih =>
    intro k i
    cases i with
    | zero => simp [wsF]
    | succ i =>
      simp only [wsF, List.getElem?_cons_succ, ih]
      rw [show k + 1 + i = k + (i + 1) by omega]
theorem wsm_get {B : Nat} {E : Nat → ClassId} {μ : Mm} {k : Nat} {s : Shp} (h : shapes[k]? = some s) : (wsm B E μ)[k]? = some (pl B k, cel (pl B) E (μ k) s) := by
  rw [wsF_get, h, Nat.zero_add]; rfl
theorem wsF_len (B : Nat) (E : Nat → ClassId) (μ : Mm) : ∀ (l : List Shp) (k : Nat), (wsF B E μ k l).length = l.length := by
  intro l
  induction l with
  | nil => intro k; rfl
  | cons s t ih => intro k; simp [wsF, ih]
theorem wsm_set {B : Nat} {E : Nat → ClassId} {μ : Mm} {k j : Nat} {v : Int} {s : Shp} {e : va_E} (h : shapes[k]? = some s) (he : e = cel (pl B) E (mup μ k j v k) s) : (wsm B E μ).set k (pl B k, e) = wsm B E (mup μ k j v) := by
  subst he
  apply List.ext_getElem?
  intro i
  have hlt : k < (wsm B E μ).length := by
    rw [wsF_len]; exact (List.getElem?_eq_some_iff.mp h).1
  by_cases hik : i = k
  · subst hik
    rw [List.getElem?_set_self hlt, wsm_get h]
  · rw [List.getElem?_set_ne (Ne.symm hik), wsF_get, wsF_get]
    cases shapes[i]? with
    | none => rfl
    | some z =>
      have e1 : mup μ k j v (0 + i) = μ (0 + i) := by
        funext b
        exact mup_nk (by omega)
      simp only [Option.map_some, e1]
theorem wsm_apart (B : Nat) (E : Nat → ClassId) (μ : Mm) : va_D (fun q : Nat => B ≤ q) (wsm B E μ) := by
  refine ⟨fun i j p q hp hq hpq => ?_, fun k q hq => ?_⟩
  · rw [wsF_get] at hp hq
    obtain ⟨a, -, rfl⟩ := Option.map_eq_some_iff.mp hp
    obtain ⟨b, -, rfl⟩ := Option.map_eq_some_iff.mp hq
    have e := pl_inj hpq
    omega
  · rw [wsF_get] at hq
    obtain ⟨a, -, rfl⟩ := Option.map_eq_some_iff.mp hq
    exact pl_ge _ _
theorem fvs_set {B : Nat → Nat} {μ : Nat → Int} {j : Nat} {v : Int} : ∀ (fs : List (Option Nat)) (a k : Nat), j = a + k → fs[k]? = some none → (fvs B μ a fs).set k (iI v) = fvs B (fun b => if b = j then v else μ b) a fs := by
  have key : ∀ (fs : List (Option Nat)) (a : Nat), j < a → fvs B (fun b => if b = j then v else μ b) a fs = fvs B μ a fs := by
    intro fs
    induction fs with
    | nil => intro a _; rfl
    | cons f t ih =>
      intro a ha
      cases f with
      | none => simp only [fvs]; rw [ih (a + 1) (by omega), if_neg (by omega)]
      | some r => simp only [fvs]; rw [ih (a + 1) (by omega)]
  intro fs
  induction fs with
  | nil => intro a k _ h; simp at h
  | cons f t ih =>
    intro a k hj h
    cases k with
    | zero =>
      simp only [List.getElem?_cons_zero, Option.some.injEq] at h
      subst h
      simp only [fvs, List.set_cons_zero]
      rw [key t (a + 1) (by omega), if_pos (by omega)]
    | succ k =>
      simp only [List.getElem?_cons_succ] at h
      have := ih (a + 1) k (by omega) h
      cases f with
      | none => simp only [fvs, List.set_cons_succ]; rw [this, if_neg (by omega)]
      | some r => simp only [fvs, List.set_cons_succ]; rw [this]
theorem fvs_len (B : Nat → Nat) (μ : Nat → Int) : ∀ (fs : List (Option Nat)) (a : Nat), (fvs B μ a fs).length = fs.length := by
  intro fs
  induction fs with
  | nil => intro a; rfl
  | cons f t ih => intro a; cases f <;> simp [fvs, ih]
/-! ===== classes' words ===== -/
/-- the words of the tables that stay true -/
def TS : List Cond := lw_tbl.filter goodWord
theorem ts_all : TS.all goodWord = true := List.all_eq_true.mpr fun _ h => (List.mem_filter.mp h).2
theorem ts_self : GoodIn TS TS := goodIn_sub (fun _ h => h) ts_all
theorem ts_sub : ∀ w ∈ TS, w ∈ lw_tbl := fun _ h => (List.mem_filter.mp h).1
theorem tsm {w : Cond} (i : Nat) (h : lw_tbl[i]? = some w) (g : goodWord w = true) : w ∈ TS := List.mem_filter.mpr ⟨List.mem_of_getElem? h, g⟩
theorem tsl {ws : List Cond} (ps : List Nat) (h : ws = ps.filterMap (fun i => lw_tbl[i]?)) (g : ws.all goodWord = true) : ∀ w ∈ ws, w ∈ TS := by
  intro w hw
  have hg := List.all_eq_true.mp g w hw
  rw [h] at hw
  obtain ⟨i, -, hi⟩ := List.mem_filterMap.mp hw
  exact tsm i hi hg
theorem lyX0 : ∀ w ∈ u_ws RX0 TX0 3, w ∈ TS := tsl [306, 308, 310] (by decide +kernel) (by decide +kernel)
theorem lyX1 : ∀ w ∈ u_ws RX1 TX1 11, w ∈ TS := tsl [144, 146, 148, 152, 154, 156, 158, 160, 162, 164, 150] (by decide +kernel) (by decide +kernel)
theorem lyX2 : ∀ w ∈ u_ws RX2 TX2 3, w ∈ TS := tsl [251, 253, 255] (by decide +kernel) (by decide +kernel)
theorem lyX3 : ∀ w ∈ u_ws RX3 TX3 2, w ∈ TS := tsl [243, 245] (by decide +kernel) (by decide +kernel)
theorem lyX4 : ∀ w ∈ u_ws RX4 TX4 5, w ∈ TS := tsl [326, 328, 330, 332, 334] (by decide +kernel) (by decide +kernel)
theorem lyX5 : ∀ w ∈ u_ws RX5 TX5 2, w ∈ TS := tsl [406, 408] (by decide +kernel) (by decide +kernel)
theorem lyX6 : ∀ w ∈ u_ws RX6 TX6 7, w ∈ TS := tsl [278, 280, 282, 284, 286, 288, 290] (by decide +kernel) (by decide +kernel)
theorem lyX7 : ∀ w ∈ u_ws RX7 TX7 1, w ∈ TS := tsl [110] (by decide +kernel) (by decide +kernel)
theorem lyX8 : ∀ w ∈ u_ws RX8 TX8 4, w ∈ TS := tsl [183, 185, 187, 189] (by decide +kernel) (by decide +kernel)
theorem lyX9 : ∀ w ∈ u_ws RX9 TX9 5, w ∈ TS := tsl [210, 212, 214, 216, 218] (by decide +kernel) (by decide +kernel)
theorem lyX10 : ∀ w ∈ u_ws RX10 TX10 18, w ∈ TS := tsl [358, 360, 362, 364, 366, 368, 370, 372, 374, 376, 378, 380, 382, 384, 386, 388, 390, 392] (by decide +kernel) (by decide +kernel)
theorem lyX11 : ∀ w ∈ u_ws RX11 TX11 8, w ∈ TS := tsl [419, 421, 423, 425, 427, 429, 431, 433] (by decide +kernel) (by decide +kernel)
theorem lyX12 : ∀ w ∈ u_ws RX12 TX12 43, w ∈ TS := tsl [1135, 1137, 1139, 1141, 1143, 1145, 1147, 1149, 1151, 1153, 1155, 1157, 1159, 1161, 1163, 1165, 1167, 1169, 1171, 1173, 1175, 1177, 1179, 1181, 1183, 1185, 1187, 1189, 1191, 1193, 1195, 1197, 1199, 1201, 1203, 1205, 1207, 1209, 1211, 1213, 1215, 1217, 1219] (by decide +kernel) (by decide +kernel)
def CI (ci : Nat) (C : String) (T : u_T) (N : Nat) (ty : Nat → FieldType) : Prop := vwCl[ci]? = some (C, T, N) ∧ (∀ w ∈ u_ws C T N, w ∈ TS) ∧ (∀ k, k < N → parseFieldDescriptor (T k).2.2.1 = some (ty k)) ∧ ∀ a, a < N → ∀ b, b < N → a ≠ b → (T a).2.1 ≠ (T b).2.1
theorem ci0 : CI 0 RX0 TX0 3 tyX0 := ⟨rfl, lyX0, tyX0_ok, nmX0⟩
theorem ci1 : CI 1 RX1 TX1 11 tyX1 := ⟨rfl, lyX1, tyX1_ok, nmX1⟩
theorem ci2 : CI 2 RX2 TX2 3 tyX2 := ⟨rfl, lyX2, tyX2_ok, nmX2⟩
theorem ci3 : CI 3 RX3 TX3 2 tyX3 := ⟨rfl, lyX3, tyX3_ok, nmX3⟩
theorem ci4 : CI 4 RX4 TX4 5 tyX4 := ⟨rfl, lyX4, tyX4_ok, nmX4⟩
theorem ci5 : CI 5 RX5 TX5 2 tyX5 := ⟨rfl, lyX5, tyX5_ok, nmX5⟩
theorem ci6 : CI 6 RX6 TX6 7 tyX6 := ⟨rfl, lyX6, tyX6_ok, nmX6⟩
theorem ci7 : CI 7 RX7 TX7 1 tyX7 := ⟨rfl, lyX7, tyX7_ok, nmX7⟩
theorem ci8 : CI 8 RX8 TX8 4 tyX8 := ⟨rfl, lyX8, tyX8_ok, nmX8⟩
theorem ci9 : CI 9 RX9 TX9 5 tyX9 := ⟨rfl, lyX9, tyX9_ok, nmX9⟩
theorem ci10 : CI 10 RX10 TX10 18 tyX10 := ⟨rfl, lyX10, tyX10_ok, nmX10⟩
theorem ci11 : CI 11 RX11 TX11 8 tyX11 := ⟨rfl, lyX11, tyX11_ok, nmX11⟩
theorem ci12 : CI 12 RX12 TX12 43 tyX12 := ⟨rfl, lyX12, tyX12_ok, nmX12⟩
abbrev tyE (E : Nat → ClassId) : List (ClassId × FieldType) := [(E 0, .int), (E 1, .boolean), (E 2, .long), (E 3, .double)]
/-! ===== what the words say of methods, of throws ===== -/
def xcl : List (String × String) := [("java/lang/IllegalArgumentException", "java/lang/IllegalArgumentException"), ("java/lang/IllegalStateException", "java/lang/IllegalStateException"), ("java/lang/IndexOutOfBoundsException", "java/lang/IndexOutOfBoundsException"), ("java/util/NoSuchElementException", "java/util/NoSuchElementException")]
def xnl : List (String × String) := [("java/lang/IllegalArgumentException", "java/lang/IllegalStateException"), ("java/lang/IllegalArgumentException", "java/lang/IndexOutOfBoundsException"), ("java/lang/IllegalArgumentException", "java/util/NoSuchElementException"),
  ("java/lang/IllegalStateException", "java/lang/IllegalArgumentException"), ("java/lang/IllegalStateException", "java/lang/IndexOutOfBoundsException"), ("java/lang/IllegalStateException", "java/util/NoSuchElementException"),
  ("java/lang/IndexOutOfBoundsException", "java/lang/IllegalArgumentException"), ("java/lang/IndexOutOfBoundsException", "java/lang/IllegalStateException"), ("java/lang/IndexOutOfBoundsException", "java/util/NoSuchElementException"),
  ("java/util/NoSuchElementException", "java/lang/IllegalArgumentException"), ("java/util/NoSuchElementException", "java/lang/IllegalStateException"), ("java/util/NoSuchElementException", "java/lang/IndexOutOfBoundsException")]
def xdl : List MethodName := [⟨"java/lang/RuntimeException", "<init>", "()V"⟩, ⟨"java/lang/Exception", "<init>", "()V"⟩, ⟨"java/lang/Throwable", "<init>", "()V"⟩]
/-- what the words say of a virtual method: its class's number, how many arguments -/
def KV (ci : Nat) (C : String) (T : u_T) (N : Nat) (y : MethodName) (bytes : ByteArray) (maxL : Nat) (ret : Option FieldType) (m : Nat) : Prop :=
  vwCl[ci]? = some (C, T, N) ∧ (Cond.instanceMethod y ∈ TS ∧ Cond.selects C y y ∈ TS ∧ Cond.initialized C ∈ TS ∧ Cond.code y bytes maxL ret ∈ TS) ∧ (y.cls = C ∧ y.cls ≠ "java/lang/invoke/MethodHandle" ∧ y.cls ≠ "java/lang/invoke/VarHandle" ∧ (parseMethodDescriptor y.desc).map (fun d => d.parameters.length) = some m)
def KS (C : String) (y : MethodName) (bytes : ByteArray) (maxL : Nat) (ret : Option FieldType) (m : Nat) : Prop :=
  (Cond.static y ∈ TS ∧ Cond.initialized C ∈ TS ∧ Cond.code y bytes maxL ret ∈ TS) ∧ (y.cls = C ∧ y.cls ≠ "java/lang/invoke/MethodHandle" ∧ y.cls ≠ "java/lang/invoke/VarHandle" ∧ (parseMethodDescriptor y.desc).map (fun d => d.parameters.length) = some m)
/-- Math.max, Math.min -/
def KM (y : MethodName) (bytes : ByteArray) : Prop := Cond.static y ∈ TS ∧ Cond.initialized "java/lang/Math" ∈ TS ∧ Cond.code y bytes 2 (some .int) ∈ TS
/-- what 'throw new e()' wants of the words, but those that speak of castables -/
def KT (own : String) (ik ic : Nat) (e : String) (names : List String) : Prop :=
  (Bundle.fit e = true ∧ ∀ z ∈ names, Bundle.fit z = true) ∧ (Cond.classLink own ik e ∈ TS ∧ Cond.initialized e ∈ TS) ∧ (∀ w ∈ (vx_at0 own ic e names).filter goodWord, w ∈ TS) ∧ (∀ w ∈ (vx_at0 own ic e names).filter (fun w => !goodWord w), w = .castable e e ∨ w ∈ xdl.map Cond.declares) ∧ (e, e) ∈ xcl ∧ (∀ w ∈ Cond.classLink own ik e :: Cond.initialized e :: vx_at0 own ic e names, vx_ot w = true)
def dkA (c : ByteArray) (l : List (Nat × Instr × Nat)) : Bool := l.all (fun q => decide (decode c q.1 = .ok q.2))
theorem dk {c : ByteArray} {l : List (Nat × Instr × Nat)} (h : dkA c l = true) (i : Nat) {pc len : Nat} {ins : Instr} (hi : l[i]? = some (pc, ins, len)) : decode c pc = .ok (ins, len) := by
  unfold dkA at h
  exact of_decide_eq_true (List.all_eq_true.mp h (pc, ins, len) (List.mem_of_getElem? hi))
end
section
/-! ===== decode tables, words, rooms: by program ===== -/
abbrev tb_X0_init : List (Nat × Instr × Nat) := [(0, .aload_n 0, 1), (1, .invokespecial 3, 3), (4, .aload_n 0, 1), (5, .iconst 0, 1), (6, .putfield 9, 3), (9, .aload_n 0, 1), (10, .new 15, 3), (13, .dup, 1), (14, .sipush 2304, 3), (17, .invokespecial 17, 3), (20, .putfield 20, 3), (23, .aload_n 0, 1), (24, .aload_n 1, 1), (25, .putfield 24, 3), (28, .return_, 1)]
theorem dt_X0_init : dkA cX0_init tb_X0_init = true := by decide +kernel
abbrev tb_X0_note : List (Nat × Instr × Nat) := [(0, .aload_n 0, 1), (1, .getfield 20, 3), (4, .aload_n 0, 1), (5, .getfield 9, 3), (8, .iload_n 1, 1), (9, .invokevirtual 28, 3), (12, .aload_n 0, 1), (13, .dup, 1), (14, .getfield 9, 3), (17, .iconst 1, 1), (18, .iadd, 1), (19, .putfield 9, 3), (22, .return_, 1)]
theorem dt_X0_note : dkA cX0_note tb_X0_note = true := by decide +kernel
abbrev tb_X0_doingAt : List (Nat × Instr × Nat) := [(0, .iload_n 1, 1), (1, .ifCond .lt 22, 3), (4, .iload_n 1, 1), (5, .aload_n 0, 1), (6, .getfield 9, 3), (9, .if_icmp .ge 14, 3), (12, .aload_n 0, 1), (13, .getfield 20, 3), (16, .iload_n 1, 1), (17, .invokevirtual 32, 3), (20, .goto 4, 3), (23, .iconst (-1), 1), (24, .ireturn, 1)]
theorem dt_X0_doingAt : dkA cX0_doingAt tb_X0_doingAt = true := by decide +kernel
abbrev tb_X0_leftOf : List (Nat × Instr × Nat) := [(0, .aload_n 0, 1), (1, .getfield 24, 3), (4, .getfield 36, 3), (7, .iload_n 1, 1), (8, .invokevirtual 32, 3), (11, .istore_n 3, 1), (12, .iconst 0, 1), (13, .istore 4, 2), (15, .iload 4, 2), (17, .aload_n 0, 1), (18, .getfield 9, 3), (21, .if_icmp .ge 31, 3), (24, .iload 4, 2), (26, .iload_n 2, 1), (27, .if_icmp .ge 25, 3), (30, .aload_n 0, 1), (31, .getfield 20, 3), (34, .iload 4, 2), (36, .invokevirtual 32, 3), (39, .iload_n 1, 1), (40, .if_icmp .ne 6, 3), (43, .iinc 3 (-1), 3), (46, .iinc 4 1, 3), (49, .goto (-34), 3), (52, .iload_n 3, 1), (53, .ireturn, 1)]
theorem dt_X0_leftOf : dkA cX0_leftOf tb_X0_leftOf = true := by decide +kernel
abbrev tb_X0_firstWork : List (Nat × Instr × Nat) := [(0, .iconst 0, 1), (1, .istore_n 2, 1), (2, .iload_n 2, 1), (3, .aload_n 0, 1), (4, .getfield 9, 3), (7, .if_icmp .ge 23, 3), (10, .aload_n 0, 1), (11, .getfield 20, 3), (14, .iload_n 2, 1), (15, .invokevirtual 32, 3), (18, .iload_n 1, 1), (19, .if_icmp .ne 5, 3), (22, .iload_n 2, 1), (23, .ireturn, 1), (24, .iinc 2 1, 3), (27, .goto (-25), 3), (30, .aload_n 0, 1), (31, .getfield 9, 3), (34, .ireturn, 1)]
theorem dt_X0_firstWork : dkA cX0_firstWork tb_X0_firstWork = true := by decide +kernel
abbrev tb_X0_longestGap : List (Nat × Instr × Nat) := [(0, .iconst 0, 1), (1, .istore_n 3, 1), (2, .iload_n 2, 1), (3, .istore 4, 2), (5, .iload_n 2, 1), (6, .istore 5, 2), (8, .iload 5, 2), (10, .aload_n 0, 1), (11, .getfield 9, 3), (14, .if_icmp .ge 38, 3), (17, .aload_n 0, 1), (18, .getfield 20, 3), (21, .iload 5, 2), (23, .invokevirtual 32, 3), (26, .iload_n 1, 1), (27, .if_icmp .ne 19, 3), (30, .iload_n 3, 1), (31, .iload 5, 2), (33, .iload 4, 2), (35, .isub, 1), (36, .invokestatic 41, 3), (39, .istore_n 3, 1), (40, .iload 5, 2), (42, .iconst 1, 1), (43, .iadd, 1), (44, .istore 4, 2), (46, .iinc 5 1, 3), (49, .goto (-41), 3), (52, .iload_n 3, 1), (53, .ireturn, 1)]
theorem dt_X0_longestGap : dkA cX0_longestGap tb_X0_longestGap = true := by decide +kernel
abbrev tb_X0_countWork : List (Nat × Instr × Nat) := [(0, .iconst 0, 1), (1, .istore_n 1, 1), (2, .iconst 0, 1), (3, .istore_n 2, 1), (4, .iload_n 2, 1), (5, .aload_n 0, 1), (6, .getfield 9, 3), (9, .if_icmp .ge 23, 3), (12, .aload_n 0, 1), (13, .getfield 20, 3), (16, .iload_n 2, 1), (17, .invokevirtual 32, 3), (20, .ifCond .lt 6, 3), (23, .iinc 1 1, 3), (26, .iinc 2 1, 3), (29, .goto (-25), 3), (32, .iload_n 1, 1), (33, .ireturn, 1)]
theorem dt_X0_countWork : dkA cX0_countWork tb_X0_countWork = true := by decide +kernel
abbrev tb_X0_countBusy : List (Nat × Instr × Nat) := [(0, .iconst 0, 1), (1, .istore_n 1, 1), (2, .iconst 0, 1), (3, .istore_n 2, 1), (4, .iload_n 2, 1), (5, .aload_n 0, 1), (6, .getfield 9, 3), (9, .if_icmp .ge 20, 3), (12, .aload_n 0, 1), (13, .iload_n 2, 1), (14, .invokevirtual 47, 3), (17, .ifCond .eq 6, 3), (20, .iinc 1 1, 3), (23, .iinc 2 1, 3), (26, .goto (-22), 3), (29, .iload_n 1, 1), (30, .ireturn, 1)]
theorem dt_X0_countBusy : dkA cX0_countBusy tb_X0_countBusy = true := by decide +kernel
abbrev tb_X0_busyBegin : List (Nat × Instr × Nat) := [(0, .iconst 0, 1), (1, .istore_n 2, 1), (2, .iconst 0, 1), (3, .istore_n 3, 1), (4, .iload_n 3, 1), (5, .aload_n 0, 1), (6, .getfield 9, 3), (9, .if_icmp .ge 32, 3), (12, .iload_n 2, 1), (13, .iload_n 1, 1), (14, .if_icmp .gt 27, 3), (17, .aload_n 0, 1), (18, .iload_n 3, 1), (19, .invokevirtual 47, 3), (22, .ifCond .eq 13, 3), (25, .iload_n 2, 1), (26, .iload_n 1, 1), (27, .if_icmp .ne 5, 3), (30, .iload_n 3, 1), (31, .ireturn, 1), (32, .iinc 2 1, 3), (35, .iinc 3 1, 3), (38, .goto (-34), 3), (41, .iconst (-1), 1), (42, .ireturn, 1)]
theorem dt_X0_busyBegin : dkA cX0_busyBegin tb_X0_busyBegin = true := by decide +kernel
abbrev tb_X0_busyEnd : List (Nat × Instr × Nat) := [(0, .iload_n 1, 1), (1, .istore_n 2, 1), (2, .iload_n 2, 1), (3, .aload_n 0, 1), (4, .getfield 9, 3), (7, .if_icmp .ge 21, 3), (10, .aload_n 0, 1), (11, .getfield 20, 3), (14, .iload_n 2, 1), (15, .invokevirtual 32, 3), (18, .iconst (-1), 1), (19, .if_icmp .eq 9, 3), (22, .iinc 2 1, 3), (25, .goto (-23), 3), (28, .iload_n 2, 1), (29, .ireturn, 1)]
theorem dt_X0_busyEnd : dkA cX0_busyEnd tb_X0_busyEnd = true := by decide +kernel
abbrev tb_X0_beginsBusy : List (Nat × Instr × Nat) := [(0, .aload_n 0, 1), (1, .getfield 20, 3), (4, .iload_n 1, 1), (5, .invokevirtual 32, 3), (8, .iconst (-1), 1), (9, .if_icmp .eq 25, 3), (12, .iload_n 1, 1), (13, .ifCond .eq 17, 3), (16, .aload_n 0, 1), (17, .getfield 20, 3), (20, .iload_n 1, 1), (21, .iconst 1, 1), (22, .isub, 1), (23, .invokevirtual 32, 3), (26, .iconst (-1), 1), (27, .if_icmp .ne 7, 3), (30, .iconst 1, 1), (31, .goto 4, 3), (34, .iconst 0, 1), (35, .ireturn, 1)]
theorem dt_X0_beginsBusy : dkA cX0_beginsBusy tb_X0_beginsBusy = true := by decide +kernel
abbrev tb_X0_isSameAs : List (Nat × Instr × Nat) := [(0, .aload_n 0, 1), (1, .getfield 9, 3), (4, .aload_n 1, 1), (5, .getfield 9, 3), (8, .if_icmp .eq 5, 3), (11, .iconst 0, 1), (12, .ireturn, 1), (13, .iconst 0, 1), (14, .istore_n 2, 1), (15, .iload_n 2, 1), (16, .aload_n 0, 1), (17, .getfield 9, 3), (20, .if_icmp .ge 30, 3), (23, .aload_n 0, 1), (24, .getfield 20, 3), (27, .iload_n 2, 1), (28, .invokevirtual 32, 3), (31, .aload_n 1, 1), (32, .getfield 20, 3), (35, .iload_n 2, 1), (36, .invokevirtual 32, 3), (39, .if_icmp .eq 5, 3), (42, .iconst 0, 1), (43, .ireturn, 1), (44, .iinc 2 1, 3), (47, .goto (-32), 3), (50, .iconst 1, 1), (51, .ireturn, 1)]
theorem dt_X0_isSameAs : dkA cX0_isSameAs tb_X0_isSameAs = true := by decide +kernel
abbrev tb_X0_isAsBusyAs : List (Nat × Instr × Nat) := [(0, .iconst 0, 1), (1, .istore_n 2, 1), (2, .iconst 0, 1), (3, .istore_n 3, 1), (4, .iload_n 3, 1), (5, .aload_n 0, 1), (6, .getfield 9, 3), (9, .aload_n 1, 1), (10, .getfield 9, 3), (13, .invokestatic 41, 3), (16, .if_icmp .ge 78, 3), (19, .aload_n 0, 1), (20, .iload_n 3, 1), (21, .invokevirtual 51, 3), (24, .istore 4, 2), (26, .aload_n 1, 1), (27, .iload_n 3, 1), (28, .invokevirtual 51, 3), (31, .istore 5, 2), (33, .iload_n 2, 1), (34, .ifCond .ne 28, 3), (37, .iload 4, 2), (39, .iconst (-1), 1), (40, .if_icmp .ne 7, 3), (43, .iconst 1, 1), (44, .goto 4, 3), (47, .iconst 0, 1), (48, .iload 5, 2), (50, .iconst (-1), 1), (51, .if_icmp .ne 7, 3), (54, .iconst 1, 1), (55, .goto 4, 3), (58, .iconst 0, 1), (59, .if_icmp .eq 5, 3), (62, .iconst 0, 1), (63, .ireturn, 1), (64, .iload_n 2, 1), (65, .iload 4, 2), (67, .ifCond .lt 7, 3), (70, .iconst 1, 1), (71, .goto 4, 3), (74, .iconst 0, 1), (75, .iload 5, 2), (77, .ifCond .lt 7, 3), (80, .iconst 1, 1), (81, .goto 4, 3), (84, .iconst 0, 1), (85, .isub, 1), (86, .iadd, 1), (87, .istore_n 2, 1), (88, .iinc 3 1, 3), (91, .goto (-87), 3), (94, .iload_n 2, 1), (95, .ifCond .ne 7, 3), (98, .iconst 1, 1), (99, .goto 4, 3), (102, .iconst 0, 1), (103, .ireturn, 1)]
theorem dt_X0_isAsBusyAs : dkA cX0_isAsBusyAs tb_X0_isAsBusyAs = true := by decide +kernel
abbrev tb_X1_init : List (Nat × Instr × Nat) := [(0, .aload_n 0, 1), (1, .invokespecial 3, 3), (4, .aload_n 0, 1), (5, .new 9, 3), (8, .dup, 1), (9, .bipush 12, 2), (11, .invokespecial 11, 3), (14, .putfield 14, 3), (17, .aload_n 0, 1), (18, .new 9, 3), (21, .dup, 1), (22, .bipush 12, 2), (24, .invokespecial 11, 3), (27, .putfield 20, 3), (30, .aload_n 0, 1), (31, .new 9, 3), (34, .dup, 1), (35, .bipush 12, 2), (37, .invokespecial 11, 3), (40, .putfield 23, 3), (43, .aload_n 0, 1), (44, .new 9, 3), (47, .dup, 1), (48, .bipush 12, 2), (50, .invokespecial 11, 3), (53, .putfield 26, 3), (56, .aload_n 0, 1), (57, .new 9, 3), (60, .dup, 1), (61, .bipush 12, 2), (63, .invokespecial 11, 3), (66, .putfield 29, 3), (69, .aload_n 0, 1), (70, .new 9, 3), (73, .dup, 1), (74, .bipush 12, 2), (76, .invokespecial 11, 3), (79, .putfield 32, 3), (82, .aload_n 0, 1), (83, .new 9, 3), (86, .dup, 1), (87, .bipush 12, 2), (89, .invokespecial 11, 3), (92, .putfield 35, 3), (95, .aload_n 0, 1), (96, .new 9, 3), (99, .dup, 1), (100, .bipush 36, 2), (102, .invokespecial 11, 3), (105, .putfield 38, 3), (108, .aload_n 0, 1), (109, .new 9, 3), (112, .dup, 1), (113, .bipush 36, 2), (115, .invokespecial 11, 3), (118, .putfield 41, 3), (121, .aload_n 0, 1), (122, .new 9, 3), (125, .dup, 1), (126, .bipush 36, 2), (128, .invokespecial 11, 3), (131, .putfield 44, 3), (134, .aload_n 0, 1), (135, .iconst 0, 1), (136, .putfield 47, 3), (139, .return_, 1)]
theorem dt_X1_init : dkA cX1_init tb_X1_init = true := by decide +kernel
abbrev tb_X1_tell : List (Nat × Instr × Nat) := [(0, .aload_n 0, 1), (1, .getfield 47, 3), (4, .istore 5, 2), (6, .aload_n 0, 1), (7, .getfield 14, 3), (10, .iload 5, 2), (12, .iload_n 1, 1), (13, .invokevirtual 51, 3), (16, .aload_n 0, 1), (17, .getfield 20, 3), (20, .iload 5, 2), (22, .iload_n 2, 1), (23, .invokevirtual 51, 3), (26, .aload_n 0, 1), (27, .getfield 23, 3), (30, .iload 5, 2), (32, .iload_n 3, 1), (33, .invokevirtual 51, 3), (36, .aload_n 0, 1), (37, .getfield 26, 3), (40, .iload 5, 2), (42, .iload_n 3, 1), (43, .ifCond .ne 9, 3), (46, .sipush 401, 3), (49, .goto 4, 3), (52, .iload_n 3, 1), (53, .invokevirtual 51, 3), (56, .aload_n 0, 1), (57, .getfield 29, 3), (60, .iload 5, 2), (62, .iload 4, 2), (64, .invokevirtual 51, 3), (67, .aload_n 0, 1), (68, .getfield 32, 3), (71, .iload 5, 2), (73, .iconst 0, 1), (74, .invokevirtual 51, 3), (77, .aload_n 0, 1), (78, .getfield 35, 3), (81, .iload 5, 2), (83, .iconst 0, 1), (84, .invokevirtual 51, 3), (87, .aload_n 0, 1), (88, .dup, 1), (89, .getfield 47, 3), (92, .iconst 1, 1), (93, .iadd, 1), (94, .putfield 47, 3), (97, .iload 5, 2), (99, .ireturn, 1)]
theorem dt_X1_tell : dkA cX1_tell tb_X1_tell = true := by decide +kernel
abbrev tb_X1_letWait : List (Nat × Instr × Nat) := [(0, .aload_n 0, 1), (1, .getfield 32, 3), (4, .iload_n 1, 1), (5, .invokevirtual 55, 3), (8, .iconst 1, 1), (9, .iload_n 2, 1), (10, .ishl, 1), (11, .ior, 1), (12, .istore_n 3, 1), (13, .aload_n 0, 1), (14, .getfield 32, 3), (17, .iload_n 1, 1), (18, .iload_n 3, 1), (19, .invokevirtual 51, 3), (22, .iload_n 3, 1), (23, .invokestatic 59, 3), (26, .ireturn, 1)]
theorem dt_X1_letWait : dkA cX1_letWait tb_X1_letWait = true := by decide +kernel
abbrev tb_X1_someWait : List (Nat × Instr × Nat) := [(0, .iconst 0, 1), (1, .istore_n 1, 1), (2, .iload_n 1, 1), (3, .aload_n 0, 1), (4, .getfield 47, 3), (7, .if_icmp .ge 22, 3), (10, .aload_n 0, 1), (11, .getfield 32, 3), (14, .iload_n 1, 1), (15, .invokevirtual 55, 3), (18, .ifCond .eq 5, 3), (21, .iconst 1, 1), (22, .ireturn, 1), (23, .iinc 1 1, 3), (26, .goto (-24), 3), (29, .iconst 0, 1), (30, .ireturn, 1)]
theorem dt_X1_someWait : dkA cX1_someWait tb_X1_someWait = true := by decide +kernel
abbrev tb_X1_addStretch : List (Nat × Instr × Nat) := [(0, .aload_n 0, 1), (1, .getfield 35, 3), (4, .iload_n 1, 1), (5, .invokevirtual 55, 3), (8, .istore 5, 2), (10, .iload_n 1, 1), (11, .iconst 3, 1), (12, .imul, 1), (13, .iload 5, 2), (15, .iadd, 1), (16, .istore 6, 2), (18, .aload_n 0, 1), (19, .getfield 38, 3), (22, .iload 6, 2), (24, .iload_n 2, 1), (25, .invokevirtual 51, 3), (28, .aload_n 0, 1), (29, .getfield 41, 3), (32, .iload 6, 2), (34, .iload_n 3, 1), (35, .invokevirtual 51, 3), (38, .aload_n 0, 1), (39, .getfield 44, 3), (42, .iload 6, 2), (44, .iload 4, 2), (46, .invokevirtual 51, 3), (49, .aload_n 0, 1), (50, .getfield 35, 3), (53, .iload_n 1, 1), (54, .iload 5, 2), (56, .iconst 1, 1), (57, .iadd, 1), (58, .invokevirtual 51, 3), (61, .iload 5, 2), (63, .iconst 1, 1), (64, .iadd, 1), (65, .ireturn, 1)]
theorem dt_X1_addStretch : dkA cX1_addStretch tb_X1_addStretch = true := by decide +kernel
abbrev tb_X1_overlaps : List (Nat × Instr × Nat) := [(0, .iload_n 1, 1), (1, .iconst 3, 1), (2, .imul, 1), (3, .istore 4, 2), (5, .iconst 0, 1), (6, .istore 5, 2), (8, .iload 5, 2), (10, .aload_n 0, 1), (11, .getfield 35, 3), (14, .iload_n 1, 1), (15, .invokevirtual 55, 3), (18, .if_icmp .ge 43, 3), (21, .iload_n 2, 1), (22, .aload_n 0, 1), (23, .getfield 44, 3), (26, .iload 4, 2), (28, .iload 5, 2), (30, .iadd, 1), (31, .invokevirtual 55, 3), (34, .if_icmp .ge 21, 3), (37, .aload_n 0, 1), (38, .getfield 41, 3), (41, .iload 4, 2), (43, .iload 5, 2), (45, .iadd, 1), (46, .invokevirtual 55, 3), (49, .iload_n 3, 1), (50, .if_icmp .ge 5, 3), (53, .iconst 1, 1), (54, .ireturn, 1), (55, .iinc 5 1, 3), (58, .goto (-50), 3), (61, .iconst 0, 1), (62, .ireturn, 1)]
theorem dt_X1_overlaps : dkA cX1_overlaps tb_X1_overlaps = true := by decide +kernel
abbrev tb_X1_lockAt : List (Nat × Instr × Nat) := [(0, .iload_n 1, 1), (1, .iconst 3, 1), (2, .imul, 1), (3, .istore 4, 2), (5, .iload_n 3, 1), (6, .ifCond .eq 9, 3), (9, .iload_n 2, 1), (10, .iconst 1, 1), (11, .isub, 1), (12, .goto 4, 3), (15, .iload_n 2, 1), (16, .istore 5, 2), (18, .iconst 0, 1), (19, .istore 6, 2), (21, .iload 6, 2), (23, .aload_n 0, 1), (24, .getfield 35, 3), (27, .iload_n 1, 1), (28, .invokevirtual 55, 3), (31, .if_icmp .ge 55, 3), (34, .aload_n 0, 1), (35, .getfield 41, 3), (38, .iload 4, 2), (40, .iload 6, 2), (42, .iadd, 1), (43, .invokevirtual 55, 3), (46, .iload 5, 2), (48, .if_icmp .gt 32, 3), (51, .iload_n 2, 1), (52, .aload_n 0, 1), (53, .getfield 44, 3), (56, .iload 4, 2), (58, .iload 6, 2), (60, .iadd, 1), (61, .invokevirtual 55, 3), (64, .if_icmp .ge 16, 3), (67, .aload_n 0, 1), (68, .getfield 38, 3), (71, .iload 4, 2), (73, .iload 6, 2), (75, .iadd, 1), (76, .invokevirtual 55, 3), (79, .ireturn, 1), (80, .iinc 6 1, 3), (83, .goto (-62), 3), (86, .iconst (-1), 1), (87, .ireturn, 1)]
theorem dt_X1_lockAt : dkA cX1_lockAt tb_X1_lockAt = true := by decide +kernel
abbrev tb_X1_highest : List (Nat × Instr × Nat) := [(0, .iconst 0, 1), (1, .istore_n 1, 1), (2, .iconst (-1), 1), (3, .istore_n 2, 1), (4, .iconst 0, 1), (5, .istore_n 3, 1), (6, .iload_n 3, 1), (7, .aload_n 0, 1), (8, .getfield 47, 3), (11, .if_icmp .ge 41, 3), (14, .aload_n 0, 1), (15, .getfield 29, 3), (18, .iload_n 3, 1), (19, .invokevirtual 55, 3), (22, .istore 4, 2), (24, .iload 4, 2), (26, .iload_n 1, 1), (27, .if_icmp .le 11, 3), (30, .iload 4, 2), (32, .istore_n 1, 1), (33, .iload_n 3, 1), (34, .istore_n 2, 1), (35, .goto 11, 3), (38, .iload 4, 2), (40, .iload_n 1, 1), (41, .if_icmp .ne 5, 3), (44, .iconst (-1), 1), (45, .istore_n 2, 1), (46, .iinc 3 1, 3), (49, .goto (-43), 3), (52, .iload_n 2, 1), (53, .ireturn, 1)]
theorem dt_X1_highest : dkA cX1_highest tb_X1_highest = true := by decide +kernel
abbrev tb_X1_mostKept : List (Nat × Instr × Nat) := [(0, .iconst 0, 1), (1, .istore_n 2, 1), (2, .iload_n 1, 1), (3, .iconst 3, 1), (4, .imul, 1), (5, .istore_n 3, 1), (6, .iconst 0, 1), (7, .istore 4, 2), (9, .iload 4, 2), (11, .aload_n 0, 1), (12, .getfield 35, 3), (15, .iload_n 1, 1), (16, .invokevirtual 55, 3), (19, .if_icmp .ge 28, 3), (22, .iload_n 2, 1), (23, .aload_n 0, 1), (24, .iload_n 1, 1), (25, .aload_n 0, 1), (26, .getfield 38, 3), (29, .iload_n 3, 1), (30, .iload 4, 2), (32, .iadd, 1), (33, .invokevirtual 55, 3), (36, .invokevirtual 64, 3), (39, .iadd, 1), (40, .istore_n 2, 1), (41, .iinc 4 1, 3), (44, .goto (-35), 3), (47, .iload_n 2, 1), (48, .ireturn, 1)]
theorem dt_X1_mostKept : dkA cX1_mostKept tb_X1_mostKept = true := by decide +kernel
abbrev tb_X1_longestRest : List (Nat × Instr × Nat) := [(0, .iconst 0, 1), (1, .istore_n 3, 1), (2, .iconst 0, 1), (3, .istore 4, 2), (5, .iload 4, 2), (7, .aload_n 0, 1), (8, .getfield 47, 3), (11, .iconst 3, 1), (12, .imul, 1), (13, .if_icmp .ge 88, 3), (16, .iload 4, 2), (18, .iconst 3, 1), (19, .idiv, 1), (20, .istore 5, 2), (22, .iload 4, 2), (24, .iconst 3, 1), (25, .irem, 1), (26, .aload_n 0, 1), (27, .getfield 35, 3), (30, .iload 5, 2), (32, .invokevirtual 55, 3), (35, .if_icmp .ge 7, 3), (38, .iconst 1, 1), (39, .goto 4, 3), (42, .iconst 0, 1), (43, .istore 6, 2), (45, .iload 6, 2), (47, .ifCond .eq 48, 3), (50, .iload 5, 2), (52, .iload_n 1, 1), (53, .if_icmp .eq 42, 3), (56, .aload_n 0, 1), (57, .getfield 38, 3), (60, .iload 4, 2), (62, .invokevirtual 55, 3), (65, .iload_n 2, 1), (66, .if_icmp .ne 29, 3), (69, .iload_n 3, 1), (70, .aload_n 0, 1), (71, .getfield 44, 3), (74, .iload 4, 2), (76, .invokevirtual 55, 3), (79, .aload_n 0, 1), (80, .getfield 41, 3), (83, .iload 4, 2), (85, .invokevirtual 55, 3), (88, .isub, 1), (89, .iconst 1, 1), (90, .isub, 1), (91, .invokestatic 68, 3), (94, .istore_n 3, 1), (95, .iinc 4 1, 3), (98, .goto (-93), 3), (101, .iload_n 3, 1), (102, .ireturn, 1)]
theorem dt_X1_longestRest : dkA cX1_longestRest tb_X1_longestRest = true := by decide +kernel
abbrev tb_X1_fullEnd : List (Nat × Instr × Nat) := [(0, .iconst (-1), 1), (1, .istore_n 2, 1), (2, .iconst 0, 1), (3, .istore_n 3, 1), (4, .iload_n 3, 1), (5, .aload_n 0, 1), (6, .getfield 47, 3), (9, .if_icmp .ge 86, 3), (12, .iload_n 1, 1), (13, .aload_n 0, 1), (14, .getfield 23, 3), (17, .iload_n 3, 1), (18, .invokevirtual 55, 3), (21, .invokestatic 68, 3), (24, .istore 4, 2), (26, .aload_n 0, 1), (27, .getfield 23, 3), (30, .iload_n 3, 1), (31, .invokevirtual 55, 3), (34, .ifCond .le 19, 3), (37, .aload_n 0, 1), (38, .getfield 14, 3), (41, .iload_n 3, 1), (42, .invokevirtual 55, 3), (45, .iload_n 1, 1), (46, .if_icmp .lt 7, 3), (49, .iconst 1, 1), (50, .goto 4, 3), (53, .iconst 0, 1), (54, .istore 5, 2), (56, .iload 5, 2), (58, .ifCond .eq 31, 3), (61, .iload_n 2, 1), (62, .iconst (-1), 1), (63, .if_icmp .eq 9, 3), (66, .iload 4, 2), (68, .iload_n 2, 1), (69, .if_icmp .ge 20, 3), (72, .aload_n 0, 1), (73, .iload_n 1, 1), (74, .iload 4, 2), (76, .invokevirtual 73, 3), (79, .iload 4, 2), (81, .iload_n 1, 1), (82, .isub, 1), (83, .if_icmp .le 6, 3), (86, .iload 4, 2), (88, .istore_n 2, 1), (89, .iinc 3 1, 3), (92, .goto (-88), 3), (95, .iload_n 2, 1), (96, .ireturn, 1)]
theorem dt_X1_fullEnd : dkA cX1_fullEnd tb_X1_fullEnd = true := by decide +kernel
abbrev tb_X1_workBetween : List (Nat × Instr × Nat) := [(0, .iconst 0, 1), (1, .istore_n 3, 1), (2, .iconst 0, 1), (3, .istore 4, 2), (5, .iload 4, 2), (7, .aload_n 0, 1), (8, .getfield 47, 3), (11, .if_icmp .ge 56, 3), (14, .aload_n 0, 1), (15, .getfield 23, 3), (18, .iload 4, 2), (20, .invokevirtual 55, 3), (23, .istore 5, 2), (25, .aload_n 0, 1), (26, .getfield 14, 3), (29, .iload 4, 2), (31, .invokevirtual 55, 3), (34, .iload_n 1, 1), (35, .if_icmp .lt 26, 3), (38, .iload 5, 2), (40, .ifCond .le 21, 3), (43, .iload 5, 2), (45, .iload_n 2, 1), (46, .if_icmp .gt 15, 3), (49, .iload_n 3, 1), (50, .aload_n 0, 1), (51, .getfield 20, 3), (54, .iload 4, 2), (56, .invokevirtual 55, 3), (59, .iadd, 1), (60, .istore_n 3, 1), (61, .iinc 4 1, 3), (64, .goto (-59), 3), (67, .iload_n 3, 1), (68, .ireturn, 1)]
theorem dt_X1_workBetween : dkA cX1_workBetween tb_X1_workBetween = true := by decide +kernel
abbrev tb_X2_init : List (Nat × Instr × Nat) := [(0, .aload_n 0, 1), (1, .invokespecial 1, 3), (4, .aload_n 0, 1), (5, .new 7, 3), (8, .dup, 1), (9, .invokespecial 9, 3), (12, .putfield 10, 3), (15, .aload_n 0, 1), (16, .new 7, 3), (19, .dup, 1), (20, .invokespecial 9, 3), (23, .putfield 16, 3), (26, .aload_n 0, 1), (27, .new 7, 3), (30, .dup, 1), (31, .invokespecial 9, 3), (34, .putfield 19, 3), (37, .return_, 1)]
theorem dt_X2_init : dkA cX2_init tb_X2_init = true := by decide +kernel
abbrev tb_X2_empty : List (Nat × Instr × Nat) := [(0, .aload_n 0, 1), (1, .getfield 10, 3), (4, .invokevirtual 22, 3), (7, .aload_n 0, 1), (8, .getfield 16, 3), (11, .invokevirtual 22, 3), (14, .aload_n 0, 1), (15, .getfield 19, 3), (18, .invokevirtual 22, 3), (21, .return_, 1)]
theorem dt_X2_empty : dkA cX2_empty tb_X2_empty = true := by decide +kernel
abbrev tb_X2_lineOf : List (Nat × Instr × Nat) := [(0, .iload_n 1, 1), (1, .ifCond .gt 10, 3), (4, .aload_n 0, 1), (5, .getfield 10, 3), (8, .goto 19, 3), (11, .iload_n 1, 1), (12, .iconst 1, 1), (13, .if_icmp .ne 10, 3), (16, .aload_n 0, 1), (17, .getfield 16, 3), (20, .goto 7, 3), (23, .aload_n 0, 1), (24, .getfield 19, 3), (27, .areturn, 1)]
theorem dt_X2_lineOf : dkA cX2_lineOf tb_X2_lineOf = true := by decide +kernel
abbrev tb_X2_rise : List (Nat × Instr × Nat) := [(0, .aload_n 0, 1), (1, .getfield 16, 3), (4, .aload_n 0, 1), (5, .getfield 10, 3), (8, .invokevirtual 25, 3), (11, .aload_n 0, 1), (12, .getfield 19, 3), (15, .aload_n 0, 1), (16, .getfield 10, 3), (19, .invokevirtual 25, 3), (22, .return_, 1)]
theorem dt_X2_rise : dkA cX2_rise tb_X2_rise = true := by decide +kernel
abbrev tb_X2_lowest : List (Nat × Instr × Nat) := [(0, .aload_n 0, 1), (1, .getfield 10, 3), (4, .invokevirtual 29, 3), (7, .ifCond .ne 7, 3), (10, .iconst 0, 1), (11, .goto 18, 3), (14, .aload_n 0, 1), (15, .getfield 16, 3), (18, .invokevirtual 29, 3), (21, .ifCond .ne 7, 3), (24, .iconst 1, 1), (25, .goto 4, 3), (28, .iconst 2, 1), (29, .ireturn, 1)]
theorem dt_X2_lowest : dkA cX2_lowest tb_X2_lowest = true := by decide +kernel
abbrev tb_X3_init : List (Nat × Instr × Nat) := [(0, .aload_n 0, 1), (1, .invokespecial 3, 3), (4, .aload_n 0, 1), (5, .bipush 12, 2), (7, .newarray .int, 2), (9, .putfield 9, 3), (12, .aload_n 0, 1), (13, .iconst 0, 1), (14, .putfield 15, 3), (17, .return_, 1)]
theorem dt_X3_init : dkA cX3_init tb_X3_init = true := by decide +kernel
abbrev tb_X3_empty : List (Nat × Instr × Nat) := [(0, .aload_n 0, 1), (1, .iconst 0, 1), (2, .putfield 15, 3), (5, .return_, 1)]
theorem dt_X3_empty : dkA cX3_empty tb_X3_empty = true := by decide +kernel
abbrev tb_X3_isEmpty : List (Nat × Instr × Nat) := [(0, .aload_n 0, 1), (1, .getfield 15, 3), (4, .ifCond .ne 7, 3), (7, .iconst 1, 1), (8, .goto 4, 3), (11, .iconst 0, 1), (12, .ireturn, 1)]
theorem dt_X3_isEmpty : dkA cX3_isEmpty tb_X3_isEmpty = true := by decide +kernel
abbrev tb_X3_join : List (Nat × Instr × Nat) := [(0, .aload_n 0, 1), (1, .getfield 15, 3), (4, .ifCond .lt 35, 3), (7, .aload_n 0, 1), (8, .getfield 15, 3), (11, .aload_n 0, 1), (12, .getfield 9, 3), (15, .arraylength, 1), (16, .if_icmp .ge 23, 3), (19, .aload_n 0, 1), (20, .getfield 9, 3), (23, .aload_n 0, 1), (24, .getfield 15, 3), (27, .iload_n 1, 1), (28, .iastore, 1), (29, .aload_n 0, 1), (30, .dup, 1), (31, .getfield 15, 3), (34, .iconst 1, 1), (35, .iadd, 1), (36, .putfield 15, 3), (39, .return_, 1)]
theorem dt_X3_join : dkA cX3_join tb_X3_join = true := by decide +kernel
abbrev tb_X3_takeFirst : List (Nat × Instr × Nat) := [(0, .aload_n 0, 1), (1, .getfield 15, 3), (4, .ifCond .gt 5, 3), (7, .iconst (-1), 1), (8, .ireturn, 1), (9, .aload_n 0, 1), (10, .getfield 9, 3), (13, .iconst 0, 1), (14, .iaload, 1), (15, .istore_n 1, 1), (16, .iconst 1, 1), (17, .istore_n 2, 1), (18, .iload_n 2, 1), (19, .aload_n 0, 1), (20, .getfield 15, 3), (23, .if_icmp .ge 32, 3), (26, .iload_n 2, 1), (27, .aload_n 0, 1), (28, .getfield 9, 3), (31, .arraylength, 1), (32, .if_icmp .ge 23, 3), (35, .aload_n 0, 1), (36, .getfield 9, 3), (39, .iload_n 2, 1), (40, .iconst 1, 1), (41, .isub, 1), (42, .aload_n 0, 1), (43, .getfield 9, 3), (46, .iload_n 2, 1), (47, .iaload, 1), (48, .iastore, 1), (49, .iinc 2 1, 3), (52, .goto (-34), 3), (55, .aload_n 0, 1), (56, .dup, 1), (57, .getfield 15, 3), (60, .iconst 1, 1), (61, .isub, 1), (62, .putfield 15, 3), (65, .iload_n 1, 1), (66, .ireturn, 1)]
theorem dt_X3_takeFirst : dkA cX3_takeFirst tb_X3_takeFirst = true := by decide +kernel
abbrev tb_X3_moveTo : List (Nat × Instr × Nat) := [(0, .iconst 0, 1), (1, .istore_n 2, 1), (2, .iload_n 2, 1), (3, .aload_n 0, 1), (4, .getfield 15, 3), (7, .if_icmp .ge 28, 3), (10, .iload_n 2, 1), (11, .aload_n 0, 1), (12, .getfield 9, 3), (15, .arraylength, 1), (16, .if_icmp .ge 19, 3), (19, .aload_n 1, 1), (20, .aload_n 0, 1), (21, .getfield 9, 3), (24, .iload_n 2, 1), (25, .iaload, 1), (26, .invokevirtual 19, 3), (29, .iinc 2 1, 3), (32, .goto (-30), 3), (35, .aload_n 0, 1), (36, .iconst 0, 1), (37, .putfield 15, 3), (40, .return_, 1)]
theorem dt_X3_moveTo : dkA cX3_moveTo tb_X3_moveTo = true := by decide +kernel
abbrev tb_X4_init : List (Nat × Instr × Nat) := [(0, .aload_n 0, 1), (1, .invokespecial 3, 3), (4, .aload_n 0, 1), (5, .new 9, 3), (8, .dup, 1), (9, .iconst 3, 1), (10, .invokespecial 11, 3), (13, .putfield 14, 3), (16, .aload_n 0, 1), (17, .new 9, 3), (20, .dup, 1), (21, .bipush 12, 2), (23, .invokespecial 11, 3), (26, .putfield 20, 3), (29, .aload_n 0, 1), (30, .new 9, 3), (33, .dup, 1), (34, .bipush 12, 2), (36, .invokespecial 11, 3), (39, .putfield 23, 3), (42, .aload_n 0, 1), (43, .aload_n 1, 1), (44, .putfield 26, 3), (47, .aload_n 0, 1), (48, .aload_n 2, 1), (49, .putfield 30, 3), (52, .return_, 1)]
theorem dt_X4_init : dkA cX4_init tb_X4_init = true := by decide +kernel
abbrev tb_X4_look : List (Nat × Instr × Nat) := [(0, .aload_n 0, 1), (1, .getfield 14, 3), (4, .iconst (-1), 1), (5, .invokevirtual 34, 3), (8, .iconst 0, 1), (9, .istore_n 2, 1), (10, .iload_n 2, 1), (11, .aload_n 0, 1), (12, .getfield 26, 3), (15, .getfield 37, 3), (18, .if_icmp .ge 60, 3), (21, .aload_n 0, 1), (22, .getfield 26, 3), (25, .iload_n 2, 1), (26, .aload_n 0, 1), (27, .getfield 30, 3), (30, .iload_n 2, 1), (31, .invokevirtual 43, 3), (34, .iconst 1, 1), (35, .invokevirtual 49, 3), (38, .istore_n 3, 1), (39, .iload_n 3, 1), (40, .iconst (-1), 1), (41, .if_icmp .eq 12, 3), (44, .aload_n 0, 1), (45, .getfield 14, 3), (48, .iload_n 3, 1), (49, .iload_n 2, 1), (50, .invokevirtual 53, 3), (53, .aload_n 0, 1), (54, .getfield 23, 3), (57, .iload_n 2, 1), (58, .aload_n 0, 1), (59, .getfield 26, 3), (62, .getfield 57, 3), (65, .iload_n 2, 1), (66, .invokevirtual 60, 3), (69, .invokevirtual 53, 3), (72, .iinc 2 1, 3), (75, .goto (-65), 3), (78, .iconst 0, 1), (79, .istore_n 2, 1), (80, .iload_n 2, 1), (81, .aload_n 0, 1), (82, .getfield 26, 3), (85, .getfield 37, 3), (88, .if_icmp .ge 121, 3), (91, .aload_n 0, 1), (92, .getfield 26, 3), (95, .iload_n 2, 1), (96, .aload_n 0, 1), (97, .getfield 30, 3), (100, .iload_n 2, 1), (101, .invokevirtual 43, 3), (104, .iconst 0, 1), (105, .invokevirtual 49, 3), (108, .istore_n 3, 1), (109, .iload_n 3, 1), (110, .iconst (-1), 1), (111, .if_icmp .ne 7, 3), (114, .iconst (-1), 1), (115, .goto 11, 3), (118, .aload_n 0, 1), (119, .getfield 14, 3), (122, .iload_n 3, 1), (123, .invokevirtual 60, 3), (126, .istore 4, 2), (128, .aload_n 0, 1), (129, .getfield 20, 3), (132, .iload_n 2, 1), (133, .iload 4, 2), (135, .iload_n 2, 1), (136, .if_icmp .ne 7, 3), (139, .iconst (-1), 1), (140, .goto 5, 3), (143, .iload 4, 2), (145, .invokevirtual 53, 3), (148, .iload_n 1, 1), (149, .ifCond .eq 54, 3), (152, .aload_n 0, 1), (153, .getfield 30, 3), (156, .iload_n 2, 1), (157, .invokevirtual 63, 3), (160, .ifCond .eq 43, 3), (163, .aload_n 0, 1), (164, .iload_n 2, 1), (165, .invokevirtual 67, 3), (168, .ifCond .eq 35, 3), (171, .aload_n 0, 1), (172, .getfield 23, 3), (175, .iload 4, 2), (177, .aload_n 0, 1), (178, .getfield 23, 3), (181, .iload 4, 2), (183, .invokevirtual 60, 3), (186, .aload_n 0, 1), (187, .getfield 26, 3), (190, .getfield 57, 3), (193, .iload_n 2, 1), (194, .invokevirtual 60, 3), (197, .invokestatic 70, 3), (200, .invokevirtual 53, 3), (203, .iinc 2 1, 3), (206, .goto (-126), 3), (209, .return_, 1)]
theorem dt_X4_look : dkA cX4_look tb_X4_look = true := by decide +kernel
abbrev tb_X4_isBlocked : List (Nat × Instr × Nat) := [(0, .aload_n 0, 1), (1, .getfield 20, 3), (4, .iload_n 1, 1), (5, .invokevirtual 60, 3), (8, .iconst (-1), 1), (9, .if_icmp .eq 7, 3), (12, .iconst 1, 1), (13, .goto 4, 3), (16, .iconst 0, 1), (17, .ireturn, 1)]
theorem dt_X4_isBlocked : dkA cX4_isBlocked tb_X4_isBlocked = true := by decide +kernel
abbrev tb_X4_greatest : List (Nat × Instr × Nat) := [(0, .iconst (-1), 1), (1, .istore_n 1, 1), (2, .iconst 0, 1), (3, .istore_n 2, 1), (4, .iload_n 2, 1), (5, .aload_n 0, 1), (6, .getfield 26, 3), (9, .getfield 37, 3), (12, .if_icmp .ge 64, 3), (15, .aload_n 0, 1), (16, .getfield 30, 3), (19, .iload_n 2, 1), (20, .invokevirtual 63, 3), (23, .ifCond .eq 15, 3), (26, .aload_n 0, 1), (27, .iload_n 2, 1), (28, .invokevirtual 67, 3), (31, .ifCond .ne 7, 3), (34, .iconst 1, 1), (35, .goto 4, 3), (38, .iconst 0, 1), (39, .istore_n 3, 1), (40, .iload_n 3, 1), (41, .ifCond .eq 29, 3), (44, .iload_n 1, 1), (45, .iconst (-1), 1), (46, .if_icmp .eq 22, 3), (49, .aload_n 0, 1), (50, .getfield 23, 3), (53, .iload_n 2, 1), (54, .invokevirtual 60, 3), (57, .aload_n 0, 1), (58, .getfield 23, 3), (61, .iload_n 1, 1), (62, .invokevirtual 60, 3), (65, .if_icmp .le 5, 3), (68, .iload_n 2, 1), (69, .istore_n 1, 1), (70, .iinc 2 1, 3), (73, .goto (-69), 3), (76, .iload_n 1, 1), (77, .ireturn, 1)]
theorem dt_X4_greatest : dkA cX4_greatest tb_X4_greatest = true := by decide +kernel
abbrev tb_X5_init : List (Nat × Instr × Nat) := [(0, .aload_n 0, 1), (1, .invokespecial 3, 3), (4, .aload_n 0, 1), (5, .aload_n 1, 1), (6, .putfield 9, 3), (9, .aload_n 0, 1), (10, .new 15, 3), (13, .dup, 1), (14, .aload_n 1, 1), (15, .invokespecial 17, 3), (18, .putfield 20, 3), (21, .return_, 1)]
theorem dt_X5_init : dkA cX5_init tb_X5_init = true := by decide +kernel
abbrev tb_X5_workBy : List (Nat × Instr × Nat) := [(0, .aload_n 0, 1), (1, .getfield 20, 3), (4, .invokevirtual 24, 3), (7, .iconst 0, 1), (8, .istore_n 2, 1), (9, .iload_n 2, 1), (10, .sipush 2304, 3), (13, .if_icmp .ge 73, 3), (16, .aload_n 0, 1), (17, .getfield 20, 3), (20, .invokevirtual 27, 3), (23, .ifCond .ne 63, 3), (26, .aload_n 0, 1), (27, .getfield 20, 3), (30, .iload_n 2, 1), (31, .invokevirtual 31, 3), (34, .pop, 1), (35, .aload_n 0, 1), (36, .iload_n 1, 1), (37, .iconst (-1), 1), (38, .invokevirtual 35, 3), (41, .istore_n 3, 1), (42, .aload_n 0, 1), (43, .iload_n 1, 1), (44, .iload_n 3, 1), (45, .invokevirtual 35, 3), (48, .istore 4, 2), (50, .iload_n 3, 1), (51, .iconst (-1), 1), (52, .if_icmp .eq 12, 3), (55, .aload_n 0, 1), (56, .getfield 20, 3), (59, .iload_n 3, 1), (60, .iload_n 2, 1), (61, .invokevirtual 39, 3), (64, .iload 4, 2), (66, .iconst (-1), 1), (67, .if_icmp .eq 13, 3), (70, .aload_n 0, 1), (71, .getfield 20, 3), (74, .iload 4, 2), (76, .iload_n 2, 1), (77, .invokevirtual 39, 3), (80, .iinc 2 1, 3), (83, .goto (-74), 3), (86, .return_, 1)]
theorem dt_X5_workBy : dkA cX5_workBy tb_X5_workBy = true := by decide +kernel
abbrev tb_X5_least : List (Nat × Instr × Nat) := [(0, .iconst (-1), 1), (1, .istore_n 3, 1), (2, .iconst 0, 1), (3, .istore 4, 2), (5, .iconst 0, 1), (6, .istore 5, 2), (8, .iload 5, 2), (10, .aload_n 0, 1), (11, .getfield 9, 3), (14, .getfield 43, 3), (17, .if_icmp .ge 79, 3), (20, .aload_n 0, 1), (21, .getfield 20, 3), (24, .iload 5, 2), (26, .invokevirtual 49, 3), (29, .ifCond .eq 61, 3), (32, .iload 5, 2), (34, .iload_n 2, 1), (35, .if_icmp .eq 55, 3), (38, .iload_n 1, 1), (39, .ifCond .eq 18, 3), (42, .aload_n 0, 1), (43, .getfield 20, 3), (46, .getfield 53, 3), (49, .iload 5, 2), (51, .invokevirtual 57, 3), (54, .goto 15, 3), (57, .aload_n 0, 1), (58, .getfield 9, 3), (61, .getfield 62, 3), (64, .iload 5, 2), (66, .invokevirtual 57, 3), (69, .istore 6, 2), (71, .iload_n 3, 1), (72, .iconst (-1), 1), (73, .if_icmp .eq 10, 3), (76, .iload 6, 2), (78, .iload 4, 2), (80, .if_icmp .ge 10, 3), (83, .iload 5, 2), (85, .istore_n 3, 1), (86, .iload 6, 2), (88, .istore 4, 2), (90, .iinc 5 1, 3), (93, .goto (-85), 3), (96, .iload_n 3, 1), (97, .ireturn, 1)]
theorem dt_X5_least : dkA cX5_least tb_X5_least = true := by decide +kernel
abbrev tb_X6_init : List (Nat × Instr × Nat) := [(0, .aload_n 0, 1), (1, .invokespecial 3, 3), (4, .aload_n 0, 1), (5, .new 9, 3), (8, .dup, 1), (9, .bipush 12, 2), (11, .invokespecial 11, 3), (14, .putfield 14, 3), (17, .aload_n 0, 1), (18, .new 9, 3), (21, .dup, 1), (22, .bipush 12, 2), (24, .invokespecial 11, 3), (27, .putfield 20, 3), (30, .aload_n 0, 1), (31, .new 9, 3), (34, .dup, 1), (35, .bipush 12, 2), (37, .invokespecial 11, 3), (40, .putfield 23, 3), (43, .aload_n 0, 1), (44, .iconst 0, 1), (45, .putfield 26, 3), (48, .aload_n 0, 1), (49, .iconst 0, 1), (50, .putfield 30, 3), (53, .aload_n 0, 1), (54, .iconst 0, 1), (55, .putfield 33, 3), (58, .aload_n 0, 1), (59, .aload_n 1, 1), (60, .putfield 36, 3), (63, .return_, 1)]
theorem dt_X6_init : dkA cX6_init tb_X6_init = true := by decide +kernel
abbrev tb_X6_begin : List (Nat × Instr × Nat) := [(0, .aload_n 0, 1), (1, .iconst 0, 1), (2, .putfield 26, 3), (5, .aload_n 0, 1), (6, .iconst 0, 1), (7, .putfield 30, 3), (10, .aload_n 0, 1), (11, .iconst 1, 1), (12, .aload_n 0, 1), (13, .getfield 36, 3), (16, .getfield 40, 3), (19, .ishl, 1), (20, .iconst 1, 1), (21, .isub, 1), (22, .putfield 33, 3), (25, .iconst 0, 1), (26, .istore_n 1, 1), (27, .iload_n 1, 1), (28, .aload_n 0, 1), (29, .getfield 36, 3), (32, .getfield 40, 3), (35, .if_icmp .ge 46, 3), (38, .aload_n 0, 1), (39, .getfield 14, 3), (42, .iload_n 1, 1), (43, .aload_n 0, 1), (44, .getfield 36, 3), (47, .getfield 45, 3), (50, .iload_n 1, 1), (51, .invokevirtual 48, 3), (54, .invokevirtual 52, 3), (57, .aload_n 0, 1), (58, .getfield 20, 3), (61, .iload_n 1, 1), (62, .iconst 0, 1), (63, .invokevirtual 52, 3), (66, .aload_n 0, 1), (67, .getfield 23, 3), (70, .iload_n 1, 1), (71, .iconst 0, 1), (72, .invokevirtual 52, 3), (75, .iinc 1 1, 3), (78, .goto (-51), 3), (81, .return_, 1)]
theorem dt_X6_begin : dkA cX6_begin tb_X6_begin = true := by decide +kernel
abbrev tb_X6_admit : List (Nat × Instr × Nat) := [(0, .iconst 0, 1), (1, .istore_n 2, 1), (2, .aload_n 0, 1), (3, .getfield 33, 3), (6, .aload_n 0, 1), (7, .getfield 26, 3), (10, .aload_n 0, 1), (11, .getfield 30, 3), (14, .ior, 1), (15, .iconst (-1), 1), (16, .ixor, 1), (17, .iand, 1), (18, .istore_n 3, 1), (19, .iconst 0, 1), (20, .istore 4, 2), (22, .iload 4, 2), (24, .aload_n 0, 1), (25, .getfield 36, 3), (28, .getfield 40, 3), (31, .if_icmp .ge 92, 3), (34, .iload_n 3, 1), (35, .iload 4, 2), (37, .ishr, 1), (38, .ifCond .eq 85, 3), (41, .iload_n 3, 1), (42, .iload 4, 2), (44, .ishr, 1), (45, .iconst 1, 1), (46, .iand, 1), (47, .ifCond .eq 7, 3), (50, .iconst 1, 1), (51, .goto 4, 3), (54, .iconst 0, 1), (55, .istore 5, 2), (57, .iload 5, 2), (59, .ifCond .eq 58, 3), (62, .aload_n 0, 1), (63, .getfield 36, 3), (66, .getfield 56, 3), (69, .iload 4, 2), (71, .invokevirtual 48, 3), (74, .iload_n 1, 1), (75, .if_icmp .gt 42, 3), (78, .aload_n 0, 1), (79, .getfield 36, 3), (82, .getfield 59, 3), (85, .iload 4, 2), (87, .invokevirtual 48, 3), (90, .aload_n 0, 1), (91, .getfield 30, 3), (94, .iconst (-1), 1), (95, .ixor, 1), (96, .iand, 1), (97, .ifCond .ne 20, 3), (100, .iload_n 2, 1), (101, .iconst 1, 1), (102, .iload 4, 2), (104, .ishl, 1), (105, .ior, 1), (106, .istore_n 2, 1), (107, .aload_n 0, 1), (108, .getfield 23, 3), (111, .iload 4, 2), (113, .iload_n 1, 1), (114, .invokevirtual 52, 3), (117, .iinc 4 1, 3), (120, .goto (-98), 3), (123, .aload_n 0, 1), (124, .dup, 1), (125, .getfield 26, 3), (128, .iload_n 2, 1), (129, .ior, 1), (130, .putfield 26, 3), (133, .iload_n 2, 1), (134, .ireturn, 1)]
theorem dt_X6_admit : dkA cX6_admit tb_X6_admit = true := by decide +kernel
abbrev tb_X6_isReady : List (Nat × Instr × Nat) := [(0, .iload_n 1, 1), (1, .ifCond .lt 18, 3), (4, .aload_n 0, 1), (5, .getfield 26, 3), (8, .iload_n 1, 1), (9, .ishr, 1), (10, .iconst 1, 1), (11, .iand, 1), (12, .ifCond .eq 7, 3), (15, .iconst 1, 1), (16, .goto 4, 3), (19, .iconst 0, 1), (20, .ireturn, 1)]
theorem dt_X6_isReady : dkA cX6_isReady tb_X6_isReady = true := by decide +kernel
abbrev tb_X6_isOver : List (Nat × Instr × Nat) := [(0, .aload_n 0, 1), (1, .getfield 30, 3), (4, .aload_n 0, 1), (5, .getfield 33, 3), (8, .if_icmp .ne 7, 3), (11, .iconst 1, 1), (12, .goto 4, 3), (15, .iconst 0, 1), (16, .ireturn, 1)]
theorem dt_X6_isOver : dkA cX6_isOver tb_X6_isOver = true := by decide +kernel
abbrev tb_X6_done : List (Nat × Instr × Nat) := [(0, .aload_n 0, 1), (1, .getfield 36, 3), (4, .getfield 45, 3), (7, .iload_n 1, 1), (8, .invokevirtual 48, 3), (11, .aload_n 0, 1), (12, .getfield 14, 3), (15, .iload_n 1, 1), (16, .invokevirtual 48, 3), (19, .isub, 1), (20, .ireturn, 1)]
theorem dt_X6_done : dkA cX6_done tb_X6_done = true := by decide +kernel
abbrev tb_X6_spendOn : List (Nat × Instr × Nat) := [(0, .aload_n 0, 1), (1, .getfield 14, 3), (4, .iload_n 1, 1), (5, .iconst (-1), 1), (6, .invokevirtual 62, 3), (9, .aload_n 0, 1), (10, .getfield 14, 3), (13, .iload_n 1, 1), (14, .invokevirtual 48, 3), (17, .ifCond .gt 40, 3), (20, .aload_n 0, 1), (21, .dup, 1), (22, .getfield 26, 3), (25, .iconst 1, 1), (26, .iload_n 1, 1), (27, .ishl, 1), (28, .iconst (-1), 1), (29, .ixor, 1), (30, .iand, 1), (31, .putfield 26, 3), (34, .aload_n 0, 1), (35, .dup, 1), (36, .getfield 30, 3), (39, .iconst 1, 1), (40, .iload_n 1, 1), (41, .ishl, 1), (42, .ior, 1), (43, .putfield 30, 3), (46, .aload_n 0, 1), (47, .getfield 20, 3), (50, .iload_n 1, 1), (51, .iload_n 2, 1), (52, .iconst 1, 1), (53, .iadd, 1), (54, .invokevirtual 52, 3), (57, .return_, 1)]
theorem dt_X6_spendOn : dkA cX6_spendOn tb_X6_spendOn = true := by decide +kernel
abbrev tb_X6_endsTogether : List (Nat × Instr × Nat) := [(0, .iconst 0, 1), (1, .istore_n 1, 1), (2, .iconst 0, 1), (3, .istore_n 2, 1), (4, .iload_n 2, 1), (5, .aload_n 0, 1), (6, .getfield 36, 3), (9, .getfield 40, 3), (12, .if_icmp .ge 20, 3), (15, .iload_n 1, 1), (16, .aload_n 0, 1), (17, .getfield 20, 3), (20, .iload_n 2, 1), (21, .invokevirtual 48, 3), (24, .iadd, 1), (25, .istore_n 1, 1), (26, .iinc 2 1, 3), (29, .goto (-25), 3), (32, .iload_n 1, 1), (33, .ireturn, 1)]
theorem dt_X6_endsTogether : dkA cX6_endsTogether tb_X6_endsTogether = true := by decide +kernel
abbrev tb_X6_lateness : List (Nat × Instr × Nat) := [(0, .aload_n 0, 1), (1, .getfield 36, 3), (4, .getfield 65, 3), (7, .iload_n 1, 1), (8, .invokevirtual 48, 3), (11, .istore_n 2, 1), (12, .iload_n 2, 1), (13, .ifCond .ne 7, 3), (16, .iconst 0, 1), (17, .goto 17, 3), (20, .iconst 0, 1), (21, .aload_n 0, 1), (22, .getfield 20, 3), (25, .iload_n 1, 1), (26, .invokevirtual 48, 3), (29, .iload_n 2, 1), (30, .isub, 1), (31, .invokestatic 68, 3), (34, .ireturn, 1)]
theorem dt_X6_lateness : dkA cX6_lateness tb_X6_lateness = true := by decide +kernel
abbrev tb_X6_countLate : List (Nat × Instr × Nat) := [(0, .iconst 0, 1), (1, .istore_n 1, 1), (2, .iconst 0, 1), (3, .istore_n 2, 1), (4, .iload_n 2, 1), (5, .aload_n 0, 1), (6, .getfield 36, 3), (9, .getfield 40, 3), (12, .if_icmp .ge 20, 3), (15, .aload_n 0, 1), (16, .iload_n 2, 1), (17, .invokevirtual 74, 3), (20, .ifCond .le 6, 3), (23, .iinc 1 1, 3), (26, .iinc 2 1, 3), (29, .goto (-25), 3), (32, .iload_n 1, 1), (33, .ireturn, 1)]
theorem dt_X6_countLate : dkA cX6_countLate tb_X6_countLate = true := by decide +kernel
abbrev tb_X7_init : List (Nat × Instr × Nat) := [(0, .aload_n 0, 1), (1, .invokespecial 1, 3), (4, .aload_n 0, 1), (5, .iload_n 1, 1), (6, .ifCond .ge 7, 3), (9, .iconst 0, 1), (10, .goto 4, 3), (13, .iload_n 1, 1), (14, .newarray .int, 2), (16, .putfield 7, 3), (19, .return_, 1)]
theorem dt_X7_init : dkA cX7_init tb_X7_init = true := by decide +kernel
abbrev tb_X7_at : List (Nat × Instr × Nat) := [(0, .iload_n 1, 1), (1, .ifCond .lt 21, 3), (4, .iload_n 1, 1), (5, .aload_n 0, 1), (6, .getfield 7, 3), (9, .arraylength, 1), (10, .if_icmp .ge 12, 3), (13, .aload_n 0, 1), (14, .getfield 7, 3), (17, .iload_n 1, 1), (18, .iaload, 1), (19, .goto 4, 3), (22, .iconst 0, 1), (23, .ireturn, 1)]
theorem dt_X7_at : dkA cX7_at tb_X7_at = true := by decide +kernel
abbrev tb_X7_put : List (Nat × Instr × Nat) := [(0, .iload_n 1, 1), (1, .ifCond .lt 19, 3), (4, .iload_n 1, 1), (5, .aload_n 0, 1), (6, .getfield 7, 3), (9, .arraylength, 1), (10, .if_icmp .ge 10, 3), (13, .aload_n 0, 1), (14, .getfield 7, 3), (17, .iload_n 1, 1), (18, .iload_n 2, 1), (19, .iastore, 1), (20, .return_, 1)]
theorem dt_X7_put : dkA cX7_put tb_X7_put = true := by decide +kernel
abbrev tb_X7_add : List (Nat × Instr × Nat) := [(0, .iload_n 1, 1), (1, .ifCond .lt 22, 3), (4, .iload_n 1, 1), (5, .aload_n 0, 1), (6, .getfield 7, 3), (9, .arraylength, 1), (10, .if_icmp .ge 13, 3), (13, .aload_n 0, 1), (14, .getfield 7, 3), (17, .iload_n 1, 1), (18, .dup2, 1), (19, .iaload, 1), (20, .iload_n 2, 1), (21, .iadd, 1), (22, .iastore, 1), (23, .return_, 1)]
theorem dt_X7_add : dkA cX7_add tb_X7_add = true := by decide +kernel
abbrev tb_X7_fill : List (Nat × Instr × Nat) := [(0, .iconst 0, 1), (1, .istore_n 2, 1), (2, .iload_n 2, 1), (3, .aload_n 0, 1), (4, .getfield 7, 3), (7, .arraylength, 1), (8, .if_icmp .ge 16, 3), (11, .aload_n 0, 1), (12, .getfield 7, 3), (15, .iload_n 2, 1), (16, .iload_n 1, 1), (17, .iastore, 1), (18, .iinc 2 1, 3), (21, .goto (-19), 3), (24, .return_, 1)]
theorem dt_X7_fill : dkA cX7_fill tb_X7_fill = true := by decide +kernel
abbrev tb_X8_init : List (Nat × Instr × Nat) := [(0, .aload_n 0, 1), (1, .invokespecial 3, 3), (4, .aload_n 0, 1), (5, .new 9, 3), (8, .dup, 1), (9, .iconst 5, 1), (10, .invokespecial 11, 3), (13, .putfield 14, 3), (16, .aload_n 0, 1), (17, .new 9, 3), (20, .dup, 1), (21, .iconst 5, 1), (22, .invokespecial 11, 3), (25, .putfield 20, 3), (28, .aload_n 0, 1), (29, .new 9, 3), (32, .dup, 1), (33, .iconst 5, 1), (34, .invokespecial 11, 3), (37, .putfield 23, 3), (40, .aload_n 0, 1), (41, .iconst 0, 1), (42, .putfield 26, 3), (45, .return_, 1)]
theorem dt_X8_init : dkA cX8_init tb_X8_init = true := by decide +kernel
abbrev tb_X8_tell : List (Nat × Instr × Nat) := [(0, .aload_n 0, 1), (1, .getfield 26, 3), (4, .istore 4, 2), (6, .aload_n 0, 1), (7, .getfield 14, 3), (10, .iload 4, 2), (12, .iload_n 1, 1), (13, .invokevirtual 30, 3), (16, .aload_n 0, 1), (17, .getfield 20, 3), (20, .iload 4, 2), (22, .iload_n 2, 1), (23, .invokevirtual 30, 3), (26, .aload_n 0, 1), (27, .getfield 23, 3), (30, .iload 4, 2), (32, .iload_n 3, 1), (33, .invokevirtual 30, 3), (36, .aload_n 0, 1), (37, .dup, 1), (38, .getfield 26, 3), (41, .iconst 1, 1), (42, .iadd, 1), (43, .putfield 26, 3), (46, .iload 4, 2), (48, .ireturn, 1)]
theorem dt_X8_tell : dkA cX8_tell tb_X8_tell = true := by decide +kernel
abbrev tb_X8_workAhead : List (Nat × Instr × Nat) := [(0, .aload_n 0, 1), (1, .getfield 20, 3), (4, .iload_n 1, 1), (5, .invokevirtual 34, 3), (8, .istore_n 3, 1), (9, .iconst 0, 1), (10, .istore 4, 2), (12, .iload 4, 2), (14, .aload_n 0, 1), (15, .getfield 26, 3), (18, .if_icmp .ge 57, 3), (21, .aload_n 0, 1), (22, .getfield 14, 3), (25, .iload 4, 2), (27, .invokevirtual 34, 3), (30, .istore 5, 2), (32, .aload_n 0, 1), (33, .iload 4, 2), (35, .iload_n 1, 1), (36, .invokevirtual 38, 3), (39, .ifCond .eq 30, 3), (42, .iload 5, 2), (44, .ifCond .le 25, 3), (47, .iload_n 3, 1), (48, .aload_n 0, 1), (49, .getfield 20, 3), (52, .iload 4, 2), (54, .invokevirtual 34, 3), (57, .iload_n 2, 1), (58, .iload 5, 2), (60, .iadd, 1), (61, .iconst 1, 1), (62, .isub, 1), (63, .iload 5, 2), (65, .idiv, 1), (66, .imul, 1), (67, .iadd, 1), (68, .istore_n 3, 1), (69, .iinc 4 1, 3), (72, .goto (-60), 3), (75, .iload_n 3, 1), (76, .ireturn, 1)]
theorem dt_X8_workAhead : dkA cX8_workAhead tb_X8_workAhead = true := by decide +kernel
abbrev tb_X8_goesAhead : List (Nat × Instr × Nat) := [(0, .aload_n 0, 1), (1, .getfield 23, 3), (4, .iload_n 1, 1), (5, .invokevirtual 34, 3), (8, .aload_n 0, 1), (9, .getfield 23, 3), (12, .iload_n 2, 1), (13, .invokevirtual 34, 3), (16, .isub, 1), (17, .istore_n 3, 1), (18, .iload_n 3, 1), (19, .ifCond .lt 12, 3), (22, .iload_n 3, 1), (23, .ifCond .ne 12, 3), (26, .iload_n 1, 1), (27, .iload_n 2, 1), (28, .if_icmp .ge 7, 3), (31, .iconst 1, 1), (32, .goto 4, 3), (35, .iconst 0, 1), (36, .ireturn, 1)]
theorem dt_X8_goesAhead : dkA cX8_goesAhead tb_X8_goesAhead = true := by decide +kernel
abbrev tb_X9_init : List (Nat × Instr × Nat) := [(0, .aload_n 0, 1), (1, .invokespecial 1, 3), (4, .aload_n 0, 1), (5, .iconst 2, 1), (6, .putfield 7, 3), (9, .aload_n 0, 1), (10, .iconst 0, 1), (11, .putfield 13, 3), (14, .aload_n 0, 1), (15, .bipush 20, 2), (17, .putfield 16, 3), (20, .aload_n 0, 1), (21, .iconst 1, 1), (22, .putfield 19, 3), (25, .aload_n 0, 1), (26, .iconst 0, 1), (27, .putfield 22, 3), (30, .return_, 1)]
theorem dt_X9_init : dkA cX9_init tb_X9_init = true := by decide +kernel
abbrev tb_X10_init : List (Nat × Instr × Nat) := [(0, .aload_n 0, 1), (1, .invokespecial 3, 3), (4, .aload_n 0, 1), (5, .new 9, 3), (8, .dup, 1), (9, .bipush 12, 2), (11, .invokespecial 11, 3), (14, .putfield 14, 3), (17, .aload_n 0, 1), (18, .new 20, 3), (21, .dup, 1), (22, .invokespecial 22, 3), (25, .putfield 23, 3), (28, .aload_n 0, 1), (29, .new 9, 3), (32, .dup, 1), (33, .bipush 12, 2), (35, .invokespecial 11, 3), (38, .putfield 27, 3), (41, .aload_n 0, 1), (42, .iconst 0, 1), (43, .putfield 30, 3), (46, .aload_n 0, 1), (47, .iconst 0, 1), (48, .putfield 34, 3), (51, .aload_n 0, 1), (52, .iconst 0, 1), (53, .putfield 37, 3), (56, .aload_n 0, 1), (57, .iconst 0, 1), (58, .putfield 40, 3), (61, .aload_n 0, 1), (62, .iconst 0, 1), (63, .putfield 44, 3), (66, .aload_n 0, 1), (67, .iconst (-1), 1), (68, .putfield 47, 3), (71, .aload_n 0, 1), (72, .iconst 0, 1), (73, .putfield 50, 3), (76, .aload_n 0, 1), (77, .iconst 0, 1), (78, .putfield 53, 3), (81, .aload_n 0, 1), (82, .iconst 0, 1), (83, .putfield 56, 3), (86, .aload_n 0, 1), (87, .iconst (-1), 1), (88, .putfield 59, 3), (91, .aload_n 0, 1), (92, .aload_n 1, 1), (93, .putfield 62, 3), (96, .aload_n 0, 1), (97, .aload_n 2, 1), (98, .putfield 66, 3), (101, .aload_n 0, 1), (102, .new 70, 3), (105, .dup, 1), (106, .aload_n 1, 1), (107, .invokespecial 72, 3), (110, .putfield 75, 3), (113, .aload_n 0, 1), (114, .new 79, 3), (117, .dup, 1), (118, .aload_n 1, 1), (119, .invokespecial 81, 3), (122, .putfield 82, 3), (125, .aload_n 0, 1), (126, .new 86, 3), (129, .dup, 1), (130, .aload_n 1, 1), (131, .aload_n 0, 1), (132, .getfield 75, 3), (135, .invokespecial 88, 3), (138, .putfield 91, 3), (141, .return_, 1)]
theorem dt_X10_init : dkA cX10_init tb_X10_init = true := by decide +kernel
abbrev tb_X10_follow : List (Nat × Instr × Nat) := [(0, .aload_n 0, 1), (1, .iload_n 1, 1), (2, .putfield 30, 3), (5, .aload_n 0, 1), (6, .iload_n 2, 1), (7, .putfield 34, 3), (10, .aload_n 0, 1), (11, .iload_n 3, 1), (12, .putfield 37, 3), (15, .aload_n 0, 1), (16, .iload 4, 2), (18, .putfield 40, 3), (21, .aload_n 0, 1), (22, .invokevirtual 95, 3), (25, .iconst 0, 1), (26, .istore 5, 2), (28, .iload 5, 2), (30, .sipush 2304, 3), (33, .if_icmp .ge 43, 3), (36, .aload_n 0, 1), (37, .getfield 75, 3), (40, .invokevirtual 98, 3), (43, .ifCond .ne 33, 3), (46, .aload_n 0, 1), (47, .iload 5, 2), (49, .invokevirtual 102, 3), (52, .aload_n 0, 1), (53, .getfield 47, 3), (56, .iconst (-1), 1), (57, .if_icmp .ne 7, 3), (60, .aload_n 0, 1), (61, .invokevirtual 105, 3), (64, .aload_n 0, 1), (65, .iload 5, 2), (67, .invokevirtual 108, 3), (70, .iinc 5 1, 3), (73, .goto (-45), 3), (76, .return_, 1)]
theorem dt_X10_follow : dkA cX10_follow tb_X10_follow = true := by decide +kernel
abbrev tb_X10_begin : List (Nat × Instr × Nat) := [(0, .aload_n 0, 1), (1, .getfield 75, 3), (4, .invokevirtual 111, 3), (7, .aload_n 0, 1), (8, .getfield 82, 3), (11, .iconst 0, 1), (12, .putfield 112, 3), (15, .aload_n 0, 1), (16, .getfield 23, 3), (19, .invokevirtual 115, 3), (22, .aload_n 0, 1), (23, .getfield 27, 3), (26, .iconst 0, 1), (27, .invokevirtual 118, 3), (30, .aload_n 0, 1), (31, .getfield 14, 3), (34, .iconst 0, 1), (35, .invokevirtual 118, 3), (38, .aload_n 0, 1), (39, .aload_n 0, 1), (40, .getfield 66, 3), (43, .getfield 121, 3), (46, .putfield 44, 3), (49, .aload_n 0, 1), (50, .iconst (-1), 1), (51, .putfield 47, 3), (54, .aload_n 0, 1), (55, .iconst 0, 1), (56, .putfield 50, 3), (59, .aload_n 0, 1), (60, .iconst 0, 1), (61, .putfield 53, 3), (64, .aload_n 0, 1), (65, .iconst 0, 1), (66, .putfield 56, 3), (69, .aload_n 0, 1), (70, .iconst (-1), 1), (71, .putfield 59, 3), (74, .return_, 1)]
theorem dt_X10_begin : dkA cX10_begin tb_X10_begin = true := by decide +kernel
abbrev tb_X10_beginMoment : List (Nat × Instr × Nat) := [(0, .aload_n 0, 1), (1, .getfield 30, 3), (4, .iconst 4, 1), (5, .if_icmp .ne 36, 3), (8, .aload_n 0, 1), (9, .getfield 66, 3), (12, .getfield 124, 3), (15, .ifCond .le 26, 3), (18, .iload_n 1, 1), (19, .ifCond .le 22, 3), (22, .iload_n 1, 1), (23, .aload_n 0, 1), (24, .getfield 66, 3), (27, .getfield 124, 3), (30, .irem, 1), (31, .ifCond .ne 10, 3), (34, .aload_n 0, 1), (35, .getfield 23, 3), (38, .invokevirtual 127, 3), (41, .aload_n 0, 1), (42, .getfield 75, 3), (45, .getfield 129, 3), (48, .istore_n 2, 1), (49, .aload_n 0, 1), (50, .getfield 75, 3), (53, .iload_n 1, 1), (54, .invokevirtual 132, 3), (57, .istore_n 3, 1), (58, .iload_n 3, 1), (59, .ifCond .eq 13, 3), (62, .aload_n 0, 1), (63, .iload_n 3, 1), (64, .aload_n 0, 1), (65, .iload_n 2, 1), (66, .invokevirtual 136, 3), (69, .invokevirtual 139, 3), (72, .aload_n 0, 1), (73, .getfield 47, 3), (76, .iconst (-1), 1), (77, .if_icmp .eq 14, 3), (80, .aload_n 0, 1), (81, .getfield 53, 3), (84, .ifCond .gt 7, 3), (87, .aload_n 0, 1), (88, .invokevirtual 143, 3), (91, .aload_n 0, 1), (92, .getfield 30, 3), (95, .bipush 8, 2), (97, .if_icmp .ne 14, 3), (100, .aload_n 0, 1), (101, .getfield 91, 3), (104, .aload_n 0, 1), (105, .getfield 40, 3), (108, .invokevirtual 146, 3), (111, .return_, 1)]
theorem dt_X10_beginMoment : dkA cX10_beginMoment tb_X10_beginMoment = true := by decide +kernel
abbrev tb_X10_welcome : List (Nat × Instr × Nat) := [(0, .iconst 0, 1), (1, .istore_n 3, 1), (2, .iload_n 3, 1), (3, .aload_n 0, 1), (4, .getfield 62, 3), (7, .getfield 150, 3), (10, .if_icmp .ge 45, 3), (13, .iload_n 1, 1), (14, .iload_n 3, 1), (15, .ishr, 1), (16, .iconst 1, 1), (17, .iand, 1), (18, .ifCond .eq 31, 3), (21, .aload_n 0, 1), (22, .getfield 27, 3), (25, .iload_n 3, 1), (26, .iload_n 2, 1), (27, .invokevirtual 155, 3), (30, .aload_n 0, 1), (31, .invokevirtual 158, 3), (34, .ifCond .eq 15, 3), (37, .aload_n 0, 1), (38, .getfield 23, 3), (41, .iconst 0, 1), (42, .invokevirtual 161, 3), (45, .iload_n 3, 1), (46, .invokevirtual 165, 3), (49, .iinc 3 1, 3), (52, .goto (-50), 3), (55, .return_, 1)]
theorem dt_X10_welcome : dkA cX10_welcome tb_X10_welcome = true := by decide +kernel
abbrev tb_X10_leastCount : List (Nat × Instr × Nat) := [(0, .iconst (-1), 1), (1, .istore_n 2, 1), (2, .iconst 0, 1), (3, .istore_n 3, 1), (4, .iload_n 3, 1), (5, .aload_n 0, 1), (6, .getfield 62, 3), (9, .getfield 150, 3), (12, .if_icmp .ge 43, 3), (15, .iload_n 1, 1), (16, .iload_n 3, 1), (17, .ishr, 1), (18, .iconst 1, 1), (19, .iand, 1), (20, .ifCond .eq 29, 3), (23, .iload_n 2, 1), (24, .iconst (-1), 1), (25, .if_icmp .eq 15, 3), (28, .aload_n 0, 1), (29, .getfield 27, 3), (32, .iload_n 3, 1), (33, .invokevirtual 170, 3), (36, .iload_n 2, 1), (37, .if_icmp .ge 12, 3), (40, .aload_n 0, 1), (41, .getfield 27, 3), (44, .iload_n 3, 1), (45, .invokevirtual 170, 3), (48, .istore_n 2, 1), (49, .iinc 3 1, 3), (52, .goto (-48), 3), (55, .iload_n 2, 1), (56, .iconst (-1), 1), (57, .if_icmp .ne 7, 3), (60, .iconst 0, 1), (61, .goto 4, 3), (64, .iload_n 2, 1), (65, .ireturn, 1)]
theorem dt_X10_leastCount : dkA cX10_leastCount tb_X10_leastCount = true := by decide +kernel
abbrev tb_X10_endSlice : List (Nat × Instr × Nat) := [(0, .aload_n 0, 1), (1, .invokevirtual 158, 3), (4, .ifCond .eq 40, 3), (7, .aload_n 0, 1), (8, .getfield 30, 3), (11, .ifCond .ne 7, 3), (14, .iconst 0, 1), (15, .goto 13, 3), (18, .aload_n 0, 1), (19, .getfield 50, 3), (22, .iconst 1, 1), (23, .iadd, 1), (24, .iconst 2, 1), (25, .invokestatic 173, 3), (28, .istore_n 1, 1), (29, .aload_n 0, 1), (30, .getfield 23, 3), (33, .iload_n 1, 1), (34, .invokevirtual 161, 3), (37, .aload_n 0, 1), (38, .getfield 47, 3), (41, .invokevirtual 165, 3), (44, .aload_n 0, 1), (45, .iconst (-1), 1), (46, .putfield 47, 3), (49, .return_, 1)]
theorem dt_X10_endSlice : dkA cX10_endSlice tb_X10_endSlice = true := by decide +kernel
abbrev tb_X10_usesLevels : List (Nat × Instr × Nat) := [(0, .aload_n 0, 1), (1, .getfield 30, 3), (4, .ifCond .eq 11, 3), (7, .aload_n 0, 1), (8, .getfield 30, 3), (11, .iconst 4, 1), (12, .if_icmp .ne 7, 3), (15, .iconst 1, 1), (16, .goto 4, 3), (19, .iconst 0, 1), (20, .ireturn, 1)]
theorem dt_X10_usesLevels : dkA cX10_usesLevels tb_X10_usesLevels = true := by decide +kernel
abbrev tb_X10_choose : List (Nat × Instr × Nat) := [(0, .aload_n 0, 1), (1, .invokevirtual 158, 3), (4, .ifCond .eq 35, 3), (7, .aload_n 0, 1), (8, .aload_n 0, 1), (9, .getfield 23, 3), (12, .invokevirtual 179, 3), (15, .putfield 50, 3), (18, .aload_n 0, 1), (19, .aload_n 0, 1), (20, .getfield 23, 3), (23, .aload_n 0, 1), (24, .getfield 50, 3), (27, .invokevirtual 161, 3), (30, .invokevirtual 183, 3), (33, .putfield 47, 3), (36, .goto 54, 3), (39, .aload_n 0, 1), (40, .getfield 30, 3), (43, .bipush 7, 2), (45, .if_icmp .ne 14, 3), (48, .aload_n 0, 1), (49, .aload_n 0, 1), (50, .invokevirtual 186, 3), (53, .putfield 47, 3), (56, .goto 34, 3), (59, .aload_n 0, 1), (60, .getfield 30, 3), (63, .bipush 8, 2), (65, .if_icmp .ne 17, 3), (68, .aload_n 0, 1), (69, .aload_n 0, 1), (70, .getfield 91, 3), (73, .invokevirtual 189, 3), (76, .putfield 47, 3), (79, .goto 11, 3), (82, .aload_n 0, 1), (83, .aload_n 0, 1), (84, .invokevirtual 192, 3), (87, .putfield 47, 3), (90, .aload_n 0, 1), (91, .getfield 47, 3), (94, .iconst (-1), 1), (95, .if_icmp .eq 46, 3), (98, .aload_n 0, 1), (99, .aload_n 0, 1), (100, .aload_n 0, 1), (101, .getfield 47, 3), (104, .invokevirtual 195, 3), (107, .putfield 53, 3), (110, .aload_n 0, 1), (111, .aload_n 0, 1), (112, .getfield 59, 3), (115, .iconst (-1), 1), (116, .if_icmp .eq 14, 3), (119, .aload_n 0, 1), (120, .getfield 59, 3), (123, .aload_n 0, 1), (124, .getfield 47, 3), (127, .if_icmp .ne 7, 3), (130, .iconst 0, 1), (131, .goto 7, 3), (134, .aload_n 0, 1), (135, .getfield 37, 3), (138, .putfield 56, 3), (141, .return_, 1)]
theorem dt_X10_choose : dkA cX10_choose tb_X10_choose = true := by decide +kernel
abbrev tb_X10_turnOf : List (Nat × Instr × Nat) := [(0, .aload_n 0, 1), (1, .getfield 30, 3), (4, .tableswitch 75 0 7 #[48, 63, 63, 75, 53, 48, 75, 48], 48), (52, .aload_n 0, 1), (53, .getfield 34, 3), (56, .ireturn, 1), (57, .aload_n 0, 1), (58, .getfield 34, 3), (61, .aload_n 0, 1), (62, .getfield 50, 3), (65, .ishl, 1), (66, .ireturn, 1), (67, .aload_n 0, 1), (68, .getfield 75, 3), (71, .getfield 198, 3), (74, .iload_n 1, 1), (75, .invokevirtual 170, 3), (78, .ireturn, 1), (79, .iconst 1, 1), (80, .ireturn, 1)]
theorem dt_X10_turnOf : dkA cX10_turnOf tb_X10_turnOf = true := by decide +kernel
abbrev tb_X10_drawn : List (Nat × Instr × Nat) := [(0, .iconst 0, 1), (1, .istore_n 1, 1), (2, .iconst 0, 1), (3, .istore_n 2, 1), (4, .iload_n 2, 1), (5, .aload_n 0, 1), (6, .getfield 62, 3), (9, .getfield 150, 3), (12, .if_icmp .ge 38, 3), (15, .iload_n 1, 1), (16, .aload_n 0, 1), (17, .getfield 75, 3), (20, .iload_n 2, 1), (21, .invokevirtual 201, 3), (24, .ifCond .eq 17, 3), (27, .aload_n 0, 1), (28, .getfield 62, 3), (31, .getfield 205, 3), (34, .iload_n 2, 1), (35, .invokevirtual 170, 3), (38, .goto 4, 3), (41, .iconst 0, 1), (42, .iadd, 1), (43, .istore_n 1, 1), (44, .iinc 2 1, 3), (47, .goto (-43), 3), (50, .iload_n 1, 1), (51, .ifCond .gt 5, 3), (54, .iconst (-1), 1), (55, .ireturn, 1), (56, .aload_n 0, 1), (57, .aload_n 0, 1), (58, .getfield 44, 3), (61, .ldc 208, 2), (63, .imul, 1), (64, .sipush 12345, 3), (67, .iadd, 1), (68, .putfield 44, 3), (71, .aload_n 0, 1), (72, .getfield 44, 3), (75, .bipush 16, 2), (77, .iushr, 1), (78, .iload_n 1, 1), (79, .irem, 1), (80, .istore_n 2, 1), (81, .iconst 0, 1), (82, .istore_n 3, 1), (83, .iload_n 3, 1), (84, .aload_n 0, 1), (85, .getfield 62, 3), (88, .getfield 150, 3), (91, .if_icmp .ge 44, 3), (94, .iload_n 2, 1), (95, .aload_n 0, 1), (96, .getfield 75, 3), (99, .iload_n 3, 1), (100, .invokevirtual 201, 3), (103, .ifCond .eq 17, 3), (106, .aload_n 0, 1), (107, .getfield 62, 3), (110, .getfield 205, 3), (113, .iload_n 3, 1), (114, .invokevirtual 170, 3), (117, .goto 4, 3), (120, .iconst 0, 1), (121, .isub, 1), (122, .istore_n 2, 1), (123, .iload_n 2, 1), (124, .ifCond .ge 5, 3), (127, .iload_n 3, 1), (128, .ireturn, 1), (129, .iinc 3 1, 3), (132, .goto (-49), 3), (135, .iconst (-1), 1), (136, .ireturn, 1)]
theorem dt_X10_drawn : dkA cX10_drawn tb_X10_drawn = true := by decide +kernel
abbrev tb_X10_leastByKey : List (Nat × Instr × Nat) := [(0, .iconst (-1), 1), (1, .istore_n 1, 1), (2, .iconst 0, 1), (3, .istore_n 2, 1), (4, .iconst 0, 1), (5, .istore_n 3, 1), (6, .iload_n 3, 1), (7, .aload_n 0, 1), (8, .getfield 62, 3), (11, .getfield 150, 3), (14, .if_icmp .ge 43, 3), (17, .aload_n 0, 1), (18, .getfield 75, 3), (21, .iload_n 3, 1), (22, .invokevirtual 201, 3), (25, .ifCond .eq 26, 3), (28, .aload_n 0, 1), (29, .iload_n 3, 1), (30, .invokevirtual 209, 3), (33, .istore 4, 2), (35, .iload_n 1, 1), (36, .iconst (-1), 1), (37, .if_icmp .eq 9, 3), (40, .iload 4, 2), (42, .iload_n 2, 1), (43, .if_icmp .ge 8, 3), (46, .iload_n 3, 1), (47, .istore_n 1, 1), (48, .iload 4, 2), (50, .istore_n 2, 1), (51, .iinc 3 1, 3), (54, .goto (-48), 3), (57, .iload_n 1, 1), (58, .ireturn, 1)]
theorem dt_X10_leastByKey : dkA cX10_leastByKey tb_X10_leastByKey = true := by decide +kernel
abbrev tb_X10_keyOf : List (Nat × Instr × Nat) := [(0, .aload_n 0, 1), (1, .getfield 30, 3), (4, .tableswitch 81 1 5 #[36, 48, 60, 81, 72], 36), (40, .aload_n 0, 1), (41, .getfield 62, 3), (44, .getfield 212, 3), (47, .iload_n 1, 1), (48, .invokevirtual 170, 3), (51, .ireturn, 1), (52, .aload_n 0, 1), (53, .getfield 62, 3), (56, .getfield 215, 3), (59, .iload_n 1, 1), (60, .invokevirtual 170, 3), (63, .ireturn, 1), (64, .aload_n 0, 1), (65, .getfield 75, 3), (68, .getfield 198, 3), (71, .iload_n 1, 1), (72, .invokevirtual 170, 3), (75, .ireturn, 1), (76, .aload_n 0, 1), (77, .getfield 27, 3), (80, .iload_n 1, 1), (81, .invokevirtual 170, 3), (84, .ireturn, 1), (85, .aload_n 0, 1), (86, .getfield 62, 3), (89, .getfield 218, 3), (92, .iload_n 1, 1), (93, .invokevirtual 170, 3), (96, .ireturn, 1)]
theorem dt_X10_keyOf : dkA cX10_keyOf tb_X10_keyOf = true := by decide +kernel
abbrev tb_X10_pass : List (Nat × Instr × Nat) := [(0, .aload_n 0, 1), (1, .getfield 47, 3), (4, .iconst (-1), 1), (5, .if_icmp .ne 12, 3), (8, .aload_n 0, 1), (9, .getfield 82, 3), (12, .iconst (-1), 1), (13, .invokevirtual 221, 3), (16, .return_, 1), (17, .aload_n 0, 1), (18, .getfield 30, 3), (21, .bipush 8, 2), (23, .if_icmp .ne 7, 3), (26, .aload_n 0, 1), (27, .invokevirtual 224, 3), (30, .aload_n 0, 1), (31, .getfield 56, 3), (34, .ifCond .le 23, 3), (37, .aload_n 0, 1), (38, .dup, 1), (39, .getfield 56, 3), (42, .iconst 1, 1), (43, .isub, 1), (44, .putfield 56, 3), (47, .aload_n 0, 1), (48, .getfield 82, 3), (51, .bipush (-2), 2), (53, .invokevirtual 221, 3), (56, .return_, 1), (57, .aload_n 0, 1), (58, .getfield 82, 3), (61, .aload_n 0, 1), (62, .getfield 47, 3), (65, .invokevirtual 221, 3), (68, .aload_n 0, 1), (69, .iload_n 1, 1), (70, .invokevirtual 227, 3), (73, .return_, 1)]
theorem dt_X10_pass : dkA cX10_pass tb_X10_pass = true := by decide +kernel
abbrev tb_X10_workAtChosen : List (Nat × Instr × Nat) := [(0, .aload_n 0, 1), (1, .getfield 62, 3), (4, .getfield 205, 3), (7, .aload_n 0, 1), (8, .getfield 47, 3), (11, .invokevirtual 170, 3), (14, .istore_n 2, 1), (15, .aload_n 0, 1), (16, .getfield 27, 3), (19, .aload_n 0, 1), (20, .getfield 47, 3), (23, .iload_n 2, 1), (24, .ifCond .le 11, 3), (27, .sipush 2520, 3), (30, .iload_n 2, 1), (31, .idiv, 1), (32, .goto 4, 3), (35, .iconst 0, 1), (36, .invokevirtual 230, 3), (39, .aload_n 0, 1), (40, .getfield 75, 3), (43, .aload_n 0, 1), (44, .getfield 47, 3), (47, .iload_n 1, 1), (48, .invokevirtual 233, 3), (51, .aload_n 0, 1), (52, .dup, 1), (53, .getfield 53, 3), (56, .iconst 1, 1), (57, .isub, 1), (58, .putfield 53, 3), (61, .aload_n 0, 1), (62, .aload_n 0, 1), (63, .getfield 47, 3), (66, .putfield 59, 3), (69, .aload_n 0, 1), (70, .getfield 75, 3), (73, .aload_n 0, 1), (74, .getfield 47, 3), (77, .invokevirtual 201, 3), (80, .ifCond .ne 8, 3), (83, .aload_n 0, 1), (84, .iconst (-1), 1), (85, .putfield 47, 3), (88, .return_, 1)]
theorem dt_X10_workAtChosen : dkA cX10_workAtChosen tb_X10_workAtChosen = true := by decide +kernel
abbrev tb_X10_countKept : List (Nat × Instr × Nat) := [(0, .iconst 0, 1), (1, .istore_n 1, 1), (2, .iload_n 1, 1), (3, .aload_n 0, 1), (4, .getfield 62, 3), (7, .getfield 150, 3), (10, .if_icmp .ge 78, 3), (13, .aload_n 0, 1), (14, .getfield 75, 3), (17, .iload_n 1, 1), (18, .invokevirtual 201, 3), (21, .ifCond .eq 18, 3), (24, .aload_n 0, 1), (25, .getfield 91, 3), (28, .iload_n 1, 1), (29, .invokevirtual 236, 3), (32, .ifCond .eq 7, 3), (35, .iconst 1, 1), (36, .goto 4, 3), (39, .iconst 0, 1), (40, .istore_n 2, 1), (41, .iload_n 2, 1), (42, .ifCond .eq 40, 3), (45, .aload_n 0, 1), (46, .getfield 62, 3), (49, .getfield 205, 3), (52, .aload_n 0, 1), (53, .getfield 47, 3), (56, .invokevirtual 170, 3), (59, .aload_n 0, 1), (60, .getfield 62, 3), (63, .getfield 205, 3), (66, .iload_n 1, 1), (67, .invokevirtual 170, 3), (70, .if_icmp .ge 12, 3), (73, .aload_n 0, 1), (74, .getfield 14, 3), (77, .iload_n 1, 1), (78, .iconst 1, 1), (79, .invokevirtual 230, 3), (82, .iinc 1 1, 3), (85, .goto (-83), 3), (88, .return_, 1)]
theorem dt_X10_countKept : dkA cX10_countKept tb_X10_countKept = true := by decide +kernel
abbrev tb_X11_init : List (Nat × Instr × Nat) := [(0, .aload_n 0, 1), (1, .invokespecial 1, 3), (4, .aload_n 0, 1), (5, .new 7, 3), (8, .dup, 1), (9, .invokespecial 9, 3), (12, .putfield 10, 3), (15, .aload_n 0, 1), (16, .new 16, 3), (19, .dup, 1), (20, .invokespecial 18, 3), (23, .putfield 19, 3), (26, .aload_n 0, 1), (27, .new 23, 3), (30, .dup, 1), (31, .invokespecial 25, 3), (34, .putfield 26, 3), (37, .aload_n 0, 1), (38, .new 30, 3), (41, .dup, 1), (42, .aload_n 0, 1), (43, .getfield 10, 3), (46, .aload_n 0, 1), (47, .getfield 26, 3), (50, .invokespecial 32, 3), (53, .putfield 35, 3), (56, .aload_n 0, 1), (57, .new 30, 3), (60, .dup, 1), (61, .aload_n 0, 1), (62, .getfield 10, 3), (65, .aload_n 0, 1), (66, .getfield 26, 3), (69, .invokespecial 32, 3), (72, .putfield 39, 3), (75, .aload_n 0, 1), (76, .new 30, 3), (79, .dup, 1), (80, .aload_n 0, 1), (81, .getfield 10, 3), (84, .aload_n 0, 1), (85, .getfield 26, 3), (88, .invokespecial 32, 3), (91, .putfield 42, 3), (94, .aload_n 0, 1), (95, .new 45, 3), (98, .dup, 1), (99, .aload_n 0, 1), (100, .getfield 10, 3), (103, .invokespecial 47, 3), (106, .putfield 50, 3), (109, .aload_n 0, 1), (110, .iconst 0, 1), (111, .putfield 54, 3), (114, .return_, 1)]
theorem dt_X11_init : dkA cX11_init tb_X11_init = true := by decide +kernel
abbrev tb_X11_job : List (Nat × Instr × Nat) := [(0, .iload_n 1, 1), (1, .iconst 0, 1), (2, .bipush 99, 2), (4, .invokestatic 58, 3), (7, .ifCond .ne 35, 3), (10, .iload_n 2, 1), (11, .iconst 1, 1), (12, .bipush 30, 2), (14, .invokestatic 58, 3), (17, .ifCond .ne 25, 3), (20, .iload_n 3, 1), (21, .iconst 0, 1), (22, .sipush 400, 3), (25, .invokestatic 58, 3), (28, .ifCond .ne 14, 3), (31, .iload 4, 2), (33, .iconst 1, 1), (34, .bipush 9, 2), (36, .invokestatic 58, 3), (39, .ifCond .eq 11, 3), (42, .new 62, 3), (45, .dup, 1), (46, .invokespecial 64, 3), (49, .athrow, 1), (50, .aload_n 0, 1), (51, .getfield 10, 3), (54, .getfield 65, 3), (57, .bipush 12, 2), (59, .if_icmp .lt 11, 3), (62, .new 69, 3), (65, .dup, 1), (66, .invokespecial 71, 3), (69, .athrow, 1), (70, .aload_n 0, 1), (71, .iconst 0, 1), (72, .putfield 54, 3), (75, .aload_n 0, 1), (76, .getfield 10, 3), (79, .iload_n 1, 1), (80, .iload_n 2, 1), (81, .iload_n 3, 1), (82, .iload 4, 2), (84, .invokevirtual 72, 3), (87, .ireturn, 1)]
theorem dt_X11_job : dkA cX11_job tb_X11_job = true := by decide +kernel
abbrev tb_X11_after : List (Nat × Instr × Nat) := [(0, .aload_n 0, 1), (1, .iload_n 1, 1), (2, .invokevirtual 76, 3), (5, .aload_n 0, 1), (6, .iload_n 2, 1), (7, .invokevirtual 76, 3), (10, .iload_n 2, 1), (11, .iload_n 1, 1), (12, .if_icmp .lt 11, 3), (15, .new 62, 3), (18, .dup, 1), (19, .invokespecial 64, 3), (22, .athrow, 1), (23, .aload_n 0, 1), (24, .iconst 0, 1), (25, .putfield 54, 3), (28, .aload_n 0, 1), (29, .getfield 10, 3), (32, .iload_n 1, 1), (33, .iload_n 2, 1), (34, .invokevirtual 80, 3), (37, .ireturn, 1)]
theorem dt_X11_after : dkA cX11_after tb_X11_after = true := by decide +kernel
abbrev tb_X11_lock : List (Nat × Instr × Nat) := [(0, .aload_n 0, 1), (1, .iload_n 1, 1), (2, .invokevirtual 76, 3), (5, .iload_n 2, 1), (6, .iconst 0, 1), (7, .iconst 2, 1), (8, .invokestatic 58, 3), (11, .ifCond .eq 11, 3), (14, .new 84, 3), (17, .dup, 1), (18, .invokespecial 86, 3), (21, .athrow, 1), (22, .iload_n 3, 1), (23, .ifCond .lt 39, 3), (26, .iload 4, 2), (28, .iload_n 3, 1), (29, .if_icmp .le 33, 3), (32, .iload 4, 2), (34, .aload_n 0, 1), (35, .getfield 10, 3), (38, .getfield 87, 3), (41, .iload_n 1, 1), (42, .invokevirtual 91, 3), (45, .if_icmp .gt 17, 3), (48, .aload_n 0, 1), (49, .getfield 10, 3), (52, .iload_n 1, 1), (53, .iload_n 3, 1), (54, .iload 4, 2), (56, .invokevirtual 97, 3), (59, .ifCond .eq 11, 3), (62, .new 62, 3), (65, .dup, 1), (66, .invokespecial 64, 3), (69, .athrow, 1), (70, .aload_n 0, 1), (71, .getfield 10, 3), (74, .getfield 100, 3), (77, .iload_n 1, 1), (78, .invokevirtual 91, 3), (81, .iconst 3, 1), (82, .if_icmp .lt 11, 3), (85, .new 69, 3), (88, .dup, 1), (89, .invokespecial 71, 3), (92, .athrow, 1), (93, .aload_n 0, 1), (94, .iconst 0, 1), (95, .putfield 54, 3), (98, .aload_n 0, 1), (99, .getfield 10, 3), (102, .iload_n 1, 1), (103, .iload_n 2, 1), (104, .iload_n 3, 1), (105, .iload 4, 2), (107, .invokevirtual 103, 3), (110, .ireturn, 1)]
theorem dt_X11_lock : dkA cX11_lock tb_X11_lock = true := by decide +kernel
abbrev tb_X11_turns : List (Nat × Instr × Nat) := [(0, .iload_n 1, 1), (1, .iconst 1, 1), (2, .bipush 20, 2), (4, .invokestatic 58, 3), (7, .ifCond .ne 22, 3), (10, .iload_n 2, 1), (11, .iconst 0, 1), (12, .iconst 5, 1), (13, .invokestatic 58, 3), (16, .ifCond .ne 13, 3), (19, .iload_n 3, 1), (20, .iconst 0, 1), (21, .bipush 99, 2), (23, .invokestatic 58, 3), (26, .ifCond .eq 11, 3), (29, .new 62, 3), (32, .dup, 1), (33, .invokespecial 64, 3), (36, .athrow, 1), (37, .aload_n 0, 1), (38, .getfield 26, 3), (41, .getfield 106, 3), (44, .istore 6, 2), (46, .aload_n 0, 1), (47, .getfield 26, 3), (50, .iload_n 1, 1), (51, .putfield 106, 3), (54, .aload_n 0, 1), (55, .getfield 26, 3), (58, .iload_n 2, 1), (59, .putfield 109, 3), (62, .aload_n 0, 1), (63, .getfield 26, 3), (66, .iload_n 3, 1), (67, .putfield 112, 3), (70, .aload_n 0, 1), (71, .getfield 26, 3), (74, .iload 4, 2), (76, .putfield 115, 3), (79, .aload_n 0, 1), (80, .getfield 26, 3), (83, .iload 5, 2), (85, .putfield 118, 3), (88, .aload_n 0, 1), (89, .iconst 0, 1), (90, .putfield 54, 3), (93, .iload 6, 2), (95, .ireturn, 1)]
theorem dt_X11_turns : dkA cX11_turns tb_X11_turns = true := by decide +kernel
abbrev tb_X11_clear : List (Nat × Instr × Nat) := [(0, .aload_n 0, 1), (1, .getfield 10, 3), (4, .getfield 65, 3), (7, .istore_n 1, 1), (8, .aload_n 0, 1), (9, .getfield 10, 3), (12, .iconst 0, 1), (13, .putfield 65, 3), (16, .aload_n 0, 1), (17, .iconst 0, 1), (18, .putfield 54, 3), (21, .iload_n 1, 1), (22, .ireturn, 1)]
theorem dt_X11_clear : dkA cX11_clear tb_X11_clear = true := by decide +kernel
abbrev tb_X11_run : List (Nat × Instr × Nat) := [(0, .iload_n 1, 1), (1, .iconst 0, 1), (2, .bipush 8, 2), (4, .invokestatic 58, 3), (7, .ifCond .eq 11, 3), (10, .new 62, 3), (13, .dup, 1), (14, .invokespecial 64, 3), (17, .athrow, 1), (18, .aload_n 0, 1), (19, .getfield 35, 3), (22, .iload_n 1, 1), (23, .aload_n 0, 1), (24, .getfield 26, 3), (27, .getfield 106, 3), (30, .aload_n 0, 1), (31, .getfield 26, 3), (34, .getfield 109, 3), (37, .aload_n 0, 1), (38, .getfield 26, 3), (41, .getfield 118, 3), (44, .invokevirtual 121, 3), (47, .aload_n 0, 1), (48, .iconst 1, 1), (49, .putfield 54, 3), (52, .aload_n 0, 1), (53, .getfield 35, 3), (56, .getfield 125, 3), (59, .getfield 129, 3), (62, .ireturn, 1)]
theorem dt_X11_run : dkA cX11_run tb_X11_run = true := by decide +kernel
abbrev tb_X11_running : List (Nat × Instr × Nat) := [(0, .aload_n 0, 1), (1, .iload_n 1, 1), (2, .invokevirtual 134, 3), (5, .aload_n 0, 1), (6, .invokevirtual 137, 3), (9, .aload_n 0, 1), (10, .getfield 35, 3), (13, .getfield 125, 3), (16, .iload_n 1, 1), (17, .invokevirtual 140, 3), (20, .ireturn, 1)]
theorem dt_X11_running : dkA cX11_running tb_X11_running = true := by decide +kernel
abbrev tb_X11_left : List (Nat × Instr × Nat) := [(0, .aload_n 0, 1), (1, .iload_n 1, 1), (2, .invokevirtual 76, 3), (5, .aload_n 0, 1), (6, .iload_n 2, 1), (7, .invokevirtual 134, 3), (10, .aload_n 0, 1), (11, .invokevirtual 137, 3), (14, .aload_n 0, 1), (15, .getfield 35, 3), (18, .getfield 125, 3), (21, .iload_n 1, 1), (22, .iload_n 2, 1), (23, .invokevirtual 143, 3), (26, .ireturn, 1)]
theorem dt_X11_left : dkA cX11_left tb_X11_left = true := by decide +kernel
abbrev tb_X11_work : List (Nat × Instr × Nat) := [(0, .aload_n 0, 1), (1, .iload_n 1, 1), (2, .invokevirtual 134, 3), (5, .aload_n 0, 1), (6, .invokevirtual 137, 3), (9, .iconst 0, 1), (10, .istore_n 2, 1), (11, .iconst 0, 1), (12, .istore_n 3, 1), (13, .iload_n 3, 1), (14, .aload_n 0, 1), (15, .getfield 10, 3), (18, .getfield 65, 3), (21, .if_icmp .ge 39, 3), (24, .aload_n 0, 1), (25, .getfield 10, 3), (28, .getfield 146, 3), (31, .iload_n 3, 1), (32, .invokevirtual 91, 3), (35, .iload_n 1, 1), (36, .if_icmp .gt 18, 3), (39, .iload_n 2, 1), (40, .aload_n 0, 1), (41, .getfield 35, 3), (44, .getfield 125, 3), (47, .iload_n 3, 1), (48, .iload_n 1, 1), (49, .invokevirtual 143, 3), (52, .iadd, 1), (53, .istore_n 2, 1), (54, .iinc 3 1, 3), (57, .goto (-44), 3), (60, .iload_n 2, 1), (61, .ireturn, 1)]
theorem dt_X11_work : dkA cX11_work tb_X11_work = true := by decide +kernel
abbrev tb_X11_end : List (Nat × Instr × Nat) := [(0, .aload_n 0, 1), (1, .iload_n 1, 1), (2, .invokevirtual 76, 3), (5, .aload_n 0, 1), (6, .invokevirtual 137, 3), (9, .aload_n 0, 1), (10, .getfield 35, 3), (13, .getfield 149, 3), (16, .getfield 153, 3), (19, .iload_n 1, 1), (20, .invokevirtual 91, 3), (23, .ireturn, 1)]
theorem dt_X11_end : dkA cX11_end tb_X11_end = true := by decide +kernel
abbrev tb_X11_sumOfEnds : List (Nat × Instr × Nat) := [(0, .aload_n 0, 1), (1, .invokevirtual 137, 3), (4, .aload_n 0, 1), (5, .getfield 35, 3), (8, .getfield 149, 3), (11, .invokevirtual 158, 3), (14, .ireturn, 1)]
theorem dt_X11_sumOfEnds : dkA cX11_sumOfEnds tb_X11_sumOfEnds = true := by decide +kernel
abbrev tb_X11_waits : List (Nat × Instr × Nat) := [(0, .aload_n 0, 1), (1, .iload_n 1, 1), (2, .invokevirtual 76, 3), (5, .aload_n 0, 1), (6, .invokevirtual 137, 3), (9, .aload_n 0, 1), (10, .getfield 35, 3), (13, .getfield 125, 3), (16, .iload_n 1, 1), (17, .aload_n 0, 1), (18, .getfield 35, 3), (21, .getfield 149, 3), (24, .getfield 162, 3), (27, .iload_n 1, 1), (28, .invokevirtual 91, 3), (31, .invokevirtual 165, 3), (34, .ireturn, 1)]
theorem dt_X11_waits : dkA cX11_waits tb_X11_waits = true := by decide +kernel
abbrev tb_X11_blocked : List (Nat × Instr × Nat) := [(0, .aload_n 0, 1), (1, .iload_n 1, 1), (2, .invokevirtual 76, 3), (5, .aload_n 0, 1), (6, .invokevirtual 137, 3), (9, .aload_n 0, 1), (10, .getfield 35, 3), (13, .getfield 168, 3), (16, .iload_n 1, 1), (17, .invokevirtual 91, 3), (20, .ireturn, 1)]
theorem dt_X11_blocked : dkA cX11_blocked tb_X11_blocked = true := by decide +kernel
abbrev tb_X11_late : List (Nat × Instr × Nat) := [(0, .aload_n 0, 1), (1, .iload_n 1, 1), (2, .invokevirtual 76, 3), (5, .aload_n 0, 1), (6, .invokevirtual 137, 3), (9, .aload_n 0, 1), (10, .getfield 35, 3), (13, .getfield 149, 3), (16, .iload_n 1, 1), (17, .invokevirtual 171, 3), (20, .ireturn, 1)]
theorem dt_X11_late : dkA cX11_late tb_X11_late = true := by decide +kernel
abbrev tb_X11_slowest : List (Nat × Instr × Nat) := [(0, .aload_n 0, 1), (1, .invokevirtual 137, 3), (4, .aload_n 0, 1), (5, .getfield 10, 3), (8, .getfield 65, 3), (11, .ifCond .ne 11, 3), (14, .new 69, 3), (17, .dup, 1), (18, .invokespecial 71, 3), (21, .athrow, 1), (22, .iconst 0, 1), (23, .istore_n 2, 1), (24, .iconst 1, 1), (25, .istore_n 3, 1), (26, .iconst 0, 1), (27, .istore 4, 2), (29, .iload 4, 2), (31, .aload_n 0, 1), (32, .getfield 10, 3), (35, .getfield 65, 3), (38, .if_icmp .ge 70, 3), (41, .aload_n 0, 1), (42, .getfield 35, 3), (45, .getfield 149, 3), (48, .getfield 153, 3), (51, .iload 4, 2), (53, .invokevirtual 91, 3), (56, .aload_n 0, 1), (57, .getfield 10, 3), (60, .getfield 146, 3), (63, .iload 4, 2), (65, .invokevirtual 91, 3), (68, .isub, 1), (69, .istore 5, 2), (71, .aload_n 0, 1), (72, .getfield 10, 3), (75, .getfield 87, 3), (78, .iload 4, 2), (80, .invokevirtual 91, 3), (83, .istore 6, 2), (85, .iload 5, 2), (87, .iload_n 3, 1), (88, .imul, 1), (89, .iload_n 2, 1), (90, .iload 6, 2), (92, .imul, 1), (93, .if_icmp .le 9, 3), (96, .iload 5, 2), (98, .istore_n 2, 1), (99, .iload 6, 2), (101, .istore_n 3, 1), (102, .iinc 4 1, 3), (105, .goto (-76), 3), (108, .iload_n 1, 1), (109, .ifCond .eq 8, 3), (112, .iload_n 3, 1), (113, .i2l, 1), (114, .goto 5, 3), (117, .iload_n 2, 1), (118, .i2l, 1), (119, .iload_n 1, 1), (120, .ifCond .eq 8, 3), (123, .iload_n 2, 1), (124, .i2l, 1), (125, .goto 5, 3), (128, .iload_n 3, 1), (129, .i2l, 1), (130, .invokestatic 174, 3), (133, .l2i, 1), (134, .ireturn, 1)]
theorem dt_X11_slowest : dkA cX11_slowest tb_X11_slowest = true := by decide +kernel
abbrev tb_X11_busy : List (Nat × Instr × Nat) := [(0, .aload_n 0, 1), (1, .invokevirtual 137, 3), (4, .iload_n 1, 1), (5, .iconst (-1), 1), (6, .if_icmp .ne 14, 3), (9, .aload_n 0, 1), (10, .getfield 35, 3), (13, .getfield 125, 3), (16, .invokevirtual 178, 3), (19, .ireturn, 1), (20, .aload_n 0, 1), (21, .getfield 35, 3), (24, .getfield 125, 3), (27, .iload_n 1, 1), (28, .invokevirtual 181, 3), (31, .istore_n 3, 1), (32, .iload_n 3, 1), (33, .iconst (-1), 1), (34, .if_icmp .ne 11, 3), (37, .new 184, 3), (40, .dup, 1), (41, .invokespecial 186, 3), (44, .athrow, 1), (45, .iload_n 2, 1), (46, .ifCond .eq 17, 3), (49, .aload_n 0, 1), (50, .getfield 35, 3), (53, .getfield 125, 3), (56, .iload_n 3, 1), (57, .invokevirtual 187, 3), (60, .goto 4, 3), (63, .iload_n 3, 1), (64, .ireturn, 1)]
theorem dt_X11_busy : dkA cX11_busy tb_X11_busy = true := by decide +kernel
abbrev tb_X11_checksum : List (Nat × Instr × Nat) := [(0, .aload_n 0, 1), (1, .invokevirtual 137, 3), (4, .iconst 0, 1), (5, .istore_n 1, 1), (6, .iconst 0, 1), (7, .istore_n 2, 1), (8, .iload_n 2, 1), (9, .aload_n 0, 1), (10, .getfield 35, 3), (13, .getfield 125, 3), (16, .getfield 129, 3), (19, .if_icmp .ge 28, 3), (22, .bipush 31, 2), (24, .iload_n 1, 1), (25, .imul, 1), (26, .iconst 3, 1), (27, .iadd, 1), (28, .aload_n 0, 1), (29, .getfield 35, 3), (32, .getfield 125, 3), (35, .iload_n 2, 1), (36, .invokevirtual 140, 3), (39, .iadd, 1), (40, .istore_n 1, 1), (41, .iinc 2 1, 3), (44, .goto (-36), 3), (47, .iload_n 1, 1), (48, .ireturn, 1)]
theorem dt_X11_checksum : dkA cX11_checksum tb_X11_checksum = true := by decide +kernel
abbrev tb_X11_which : List (Nat × Instr × Nat) := [(0, .aload_n 0, 1), (1, .invokevirtual 137, 3), (4, .iconst 0, 1), (5, .istore_n 1, 1), (6, .iconst 0, 1), (7, .istore_n 2, 1), (8, .iload_n 2, 1), (9, .bipush 8, 2), (11, .if_icmp .gt 64, 3), (14, .aload_n 0, 1), (15, .getfield 39, 3), (18, .iload_n 2, 1), (19, .aload_n 0, 1), (20, .getfield 26, 3), (23, .getfield 106, 3), (26, .aload_n 0, 1), (27, .getfield 26, 3), (30, .getfield 109, 3), (33, .aload_n 0, 1), (34, .getfield 26, 3), (37, .getfield 118, 3), (40, .invokevirtual 121, 3), (43, .aload_n 0, 1), (44, .getfield 39, 3), (47, .getfield 125, 3), (50, .aload_n 0, 1), (51, .getfield 35, 3), (54, .getfield 125, 3), (57, .invokevirtual 190, 3), (60, .ifCond .eq 9, 3), (63, .iload_n 1, 1), (64, .iconst 1, 1), (65, .iload_n 2, 1), (66, .ishl, 1), (67, .ior, 1), (68, .istore_n 1, 1), (69, .iinc 2 1, 3), (72, .goto (-64), 3), (75, .iload_n 1, 1), (76, .ireturn, 1)]
theorem dt_X11_which : dkA cX11_which tb_X11_which = true := by decide +kernel
abbrev tb_X11_best : List (Nat × Instr × Nat) := [(0, .iconst 1, 1), (1, .istore_n 1, 1), (2, .iconst 0, 1), (3, .istore_n 2, 1), (4, .iconst 1, 1), (5, .istore_n 3, 1), (6, .iload_n 3, 1), (7, .bipush 20, 2), (9, .if_icmp .gt 60, 3), (12, .aload_n 0, 1), (13, .getfield 39, 3), (16, .iconst 0, 1), (17, .iload_n 3, 1), (18, .aload_n 0, 1), (19, .getfield 26, 3), (22, .getfield 109, 3), (25, .aload_n 0, 1), (26, .getfield 26, 3), (29, .getfield 118, 3), (32, .invokevirtual 121, 3), (35, .aload_n 0, 1), (36, .getfield 39, 3), (39, .getfield 149, 3), (42, .invokevirtual 158, 3), (45, .istore 4, 2), (47, .iload_n 3, 1), (48, .iconst 1, 1), (49, .if_icmp .eq 9, 3), (52, .iload 4, 2), (54, .iload_n 2, 1), (55, .if_icmp .ge 8, 3), (58, .iload 4, 2), (60, .istore_n 2, 1), (61, .iload_n 3, 1), (62, .istore_n 1, 1), (63, .iinc 3 1, 3), (66, .goto (-60), 3), (69, .iload_n 1, 1), (70, .ireturn, 1)]
theorem dt_X11_best : dkA cX11_best tb_X11_best = true := by decide +kernel
abbrev tb_X11_two : List (Nat × Instr × Nat) := [(0, .aload_n 0, 1), (1, .getfield 50, 3), (4, .iload_n 1, 1), (5, .invokevirtual 194, 3), (8, .iload_n 2, 1), (9, .ifCond .eq 16, 3), (12, .aload_n 0, 1), (13, .getfield 50, 3), (16, .getfield 198, 3), (19, .invokevirtual 199, 3), (22, .goto 13, 3), (25, .aload_n 0, 1), (26, .getfield 50, 3), (29, .getfield 198, 3), (32, .invokevirtual 158, 3), (35, .ireturn, 1)]
theorem dt_X11_two : dkA cX11_two tb_X11_two = true := by decide +kernel
abbrev tb_X11_isFeasible : List (Nat × Instr × Nat) := [(0, .aload_n 0, 1), (1, .getfield 10, 3), (4, .invokevirtual 202, 3), (7, .ifCond .eq 11, 3), (10, .new 69, 3), (13, .dup, 1), (14, .invokespecial 71, 3), (17, .athrow, 1), (18, .aload_n 0, 1), (19, .getfield 39, 3), (22, .bipush 6, 2), (24, .aload_n 0, 1), (25, .getfield 26, 3), (28, .getfield 106, 3), (31, .iconst 0, 1), (32, .aload_n 0, 1), (33, .getfield 26, 3), (36, .getfield 118, 3), (39, .invokevirtual 121, 3), (42, .aload_n 0, 1), (43, .getfield 39, 3), (46, .getfield 149, 3), (49, .invokevirtual 199, 3), (52, .ifCond .ne 7, 3), (55, .iconst 1, 1), (56, .goto 4, 3), (59, .iconst 0, 1), (60, .ireturn, 1)]
theorem dt_X11_isFeasible : dkA cX11_isFeasible tb_X11_isFeasible = true := by decide +kernel
abbrev tb_X11_full : List (Nat × Instr × Nat) := [(0, .iload_n 1, 1), (1, .iconst 0, 1), (2, .iconst 2, 1), (3, .invokestatic 58, 3), (6, .ifCond .eq 11, 3), (9, .new 62, 3), (12, .dup, 1), (13, .invokespecial 64, 3), (16, .athrow, 1), (17, .iconst 0, 1), (18, .istore_n 2, 1), (19, .iload_n 2, 1), (20, .bipush 99, 2), (22, .if_icmp .gt 50, 3), (25, .aload_n 0, 1), (26, .getfield 10, 3), (29, .iload_n 2, 1), (30, .invokevirtual 206, 3), (33, .istore_n 3, 1), (34, .iload_n 3, 1), (35, .iconst (-1), 1), (36, .if_icmp .eq 30, 3), (39, .iload_n 1, 1), (40, .ifCond .ne 7, 3), (43, .iload_n 2, 1), (44, .goto 21, 3), (47, .iload_n 1, 1), (48, .iconst 1, 1), (49, .if_icmp .ne 7, 3), (52, .iload_n 3, 1), (53, .goto 12, 3), (56, .aload_n 0, 1), (57, .getfield 10, 3), (60, .iload_n 2, 1), (61, .iload_n 3, 1), (62, .invokevirtual 209, 3), (65, .ireturn, 1), (66, .iinc 2 1, 3), (69, .goto (-50), 3), (72, .iconst (-1), 1), (73, .ireturn, 1)]
theorem dt_X11_full : dkA cX11_full tb_X11_full = true := by decide +kernel
abbrev tb_X11_task : List (Nat × Instr × Nat) := [(0, .iload_n 1, 1), (1, .iconst 1, 1), (2, .bipush 60, 2), (4, .invokestatic 58, 3), (7, .ifCond .ne 27, 3), (10, .iload_n 2, 1), (11, .iconst 1, 1), (12, .bipush 30, 2), (14, .invokestatic 58, 3), (17, .ifCond .ne 17, 3), (20, .iload_n 2, 1), (21, .iload_n 1, 1), (22, .if_icmp .gt 12, 3), (25, .iload_n 3, 1), (26, .iload_n 2, 1), (27, .iload_n 1, 1), (28, .invokestatic 58, 3), (31, .ifCond .eq 11, 3), (34, .new 62, 3), (37, .dup, 1), (38, .invokespecial 64, 3), (41, .athrow, 1), (42, .aload_n 0, 1), (43, .getfield 19, 3), (46, .getfield 212, 3), (49, .iconst 5, 1), (50, .if_icmp .lt 11, 3), (53, .new 69, 3), (56, .dup, 1), (57, .invokespecial 71, 3), (60, .athrow, 1), (61, .aload_n 0, 1), (62, .getfield 19, 3), (65, .iload_n 1, 1), (66, .iload_n 2, 1), (67, .iload_n 3, 1), (68, .invokevirtual 213, 3), (71, .ireturn, 1)]
theorem dt_X11_task : dkA cX11_task tb_X11_task = true := by decide +kernel
abbrev tb_X11_load : List (Nat × Instr × Nat) := [(0, .lconst 0, 1), (1, .lstore_n 2, 1), (2, .lconst 1, 1), (3, .lstore 4, 2), (5, .iconst 0, 1), (6, .istore 6, 2), (8, .iload 6, 2), (10, .aload_n 0, 1), (11, .getfield 19, 3), (14, .getfield 212, 3), (17, .if_icmp .ge 54, 3), (20, .aload_n 0, 1), (21, .getfield 19, 3), (24, .getfield 216, 3), (27, .iload 6, 2), (29, .invokevirtual 91, 3), (32, .istore 7, 2), (34, .lload_n 2, 1), (35, .iload 7, 2), (37, .i2l, 1), (38, .lmul, 1), (39, .lload 4, 2), (41, .aload_n 0, 1), (42, .getfield 19, 3), (45, .getfield 219, 3), (48, .iload 6, 2), (50, .invokevirtual 91, 3), (53, .i2l, 1), (54, .lmul, 1), (55, .ladd, 1), (56, .lstore_n 2, 1), (57, .lload 4, 2), (59, .iload 7, 2), (61, .i2l, 1), (62, .lmul, 1), (63, .lstore 4, 2), (65, .iinc 6 1, 3), (68, .goto (-60), 3), (71, .iload_n 1, 1), (72, .ifCond .eq 8, 3), (75, .lload 4, 2), (77, .goto 4, 3), (80, .lload_n 2, 1), (81, .iload_n 1, 1), (82, .ifCond .eq 7, 3), (85, .lload_n 2, 1), (86, .goto 5, 3), (89, .lload 4, 2), (91, .invokestatic 174, 3), (94, .lreturn, 1)]
theorem dt_X11_load : dkA cX11_load tb_X11_load = true := by decide +kernel
abbrev tb_X11_response : List (Nat × Instr × Nat) := [(0, .iload_n 1, 1), (1, .iconst 0, 1), (2, .aload_n 0, 1), (3, .getfield 19, 3), (6, .getfield 212, 3), (9, .iconst 1, 1), (10, .isub, 1), (11, .invokestatic 58, 3), (14, .ifCond .eq 11, 3), (17, .new 84, 3), (20, .dup, 1), (21, .invokespecial 86, 3), (24, .athrow, 1), (25, .iconst 1, 1), (26, .istore_n 2, 1), (27, .iload_n 2, 1), (28, .aload_n 0, 1), (29, .getfield 19, 3), (32, .getfield 220, 3), (35, .iload_n 1, 1), (36, .invokevirtual 91, 3), (39, .if_icmp .gt 24, 3), (42, .aload_n 0, 1), (43, .getfield 19, 3), (46, .iload_n 1, 1), (47, .iload_n 2, 1), (48, .invokevirtual 223, 3), (51, .iload_n 2, 1), (52, .if_icmp .ne 5, 3), (55, .iload_n 2, 1), (56, .ireturn, 1), (57, .iinc 2 1, 3), (60, .goto (-33), 3), (63, .iconst (-1), 1), (64, .ireturn, 1)]
theorem dt_X11_response : dkA cX11_response tb_X11_response = true := by decide +kernel
abbrev tb_X11_meanEnd : List (Nat × Instr × Nat) := [(0, .aload_n 0, 1), (1, .invokevirtual 137, 3), (4, .aload_n 0, 1), (5, .getfield 10, 3), (8, .getfield 65, 3), (11, .ifCond .ne 5, 3), (14, .dconst 0, 1), (15, .dreturn, 1), (16, .aload_n 0, 1), (17, .getfield 35, 3), (20, .getfield 149, 3), (23, .invokevirtual 158, 3), (26, .i2d, 1), (27, .aload_n 0, 1), (28, .getfield 10, 3), (31, .getfield 65, 3), (34, .i2d, 1), (35, .ddiv, 1), (36, .dreturn, 1)]
theorem dt_X11_meanEnd : dkA cX11_meanEnd tb_X11_meanEnd = true := by decide +kernel
abbrev tb_X11_workShare : List (Nat × Instr × Nat) := [(0, .aload_n 0, 1), (1, .invokevirtual 137, 3), (4, .aload_n 0, 1), (5, .getfield 35, 3), (8, .getfield 125, 3), (11, .getfield 129, 3), (14, .ifCond .ne 5, 3), (17, .fconst 0, 1), (18, .freturn, 1), (19, .aload_n 0, 1), (20, .getfield 35, 3), (23, .getfield 125, 3), (26, .invokevirtual 226, 3), (29, .i2f, 1), (30, .aload_n 0, 1), (31, .getfield 35, 3), (34, .getfield 125, 3), (37, .getfield 129, 3), (40, .i2f, 1), (41, .fdiv, 1), (42, .freturn, 1)]
theorem dt_X11_workShare : dkA cX11_workShare tb_X11_workShare = true := by decide +kernel
abbrev tb_X11_errors : List (Nat × Instr × Nat) := [(0, .aload_n 0, 1), (1, .invokevirtual 229, 3), (4, .ifCond .eq 7, 3), (7, .iconst 0, 1), (8, .goto 4, 3), (11, .iconst 1, 1), (12, .istore_n 1, 1), (13, .aload_n 0, 1), (14, .getfield 10, 3), (17, .invokevirtual 202, 3), (20, .ifCond .ne 70, 3), (23, .aload_n 0, 1), (24, .bipush 6, 2), (26, .invokevirtual 232, 3), (29, .istore_n 2, 1), (30, .iload_n 1, 1), (31, .aload_n 0, 1), (32, .invokevirtual 236, 3), (35, .ifCond .eq 7, 3), (38, .iconst 0, 1), (39, .goto 4, 3), (42, .iconst 1, 1), (43, .iadd, 1), (44, .istore_n 1, 1), (45, .iload_n 1, 1), (46, .iload_n 2, 1), (47, .ifCond .ne 10, 3), (50, .aload_n 0, 1), (51, .invokevirtual 239, 3), (54, .ifCond .ne 7, 3), (57, .iconst 0, 1), (58, .goto 4, 3), (61, .iconst 1, 1), (62, .iadd, 1), (63, .istore_n 1, 1), (64, .iload_n 1, 1), (65, .iload_n 2, 1), (66, .aload_n 0, 1), (67, .iconst 0, 1), (68, .invokevirtual 242, 3), (71, .iconst (-1), 1), (72, .if_icmp .ne 7, 3), (75, .iconst 1, 1), (76, .goto 4, 3), (79, .iconst 0, 1), (80, .if_icmp .ne 7, 3), (83, .iconst 0, 1), (84, .goto 4, 3), (87, .iconst 1, 1), (88, .iadd, 1), (89, .istore_n 1, 1), (90, .iload_n 1, 1), (91, .aload_n 0, 1), (92, .invokevirtual 245, 3), (95, .ifCond .eq 7, 3), (98, .iconst 0, 1), (99, .goto 4, 3), (102, .iconst 1, 1), (103, .iadd, 1), (104, .istore_n 1, 1), (105, .iload_n 1, 1), (106, .aload_n 0, 1), (107, .invokevirtual 248, 3), (110, .ifCond .eq 7, 3), (113, .iconst 0, 1), (114, .goto 4, 3), (117, .iconst 1, 1), (118, .iadd, 1), (119, .istore_n 1, 1), (120, .iload_n 1, 1), (121, .ireturn, 1)]
theorem dt_X11_errors : dkA cX11_errors tb_X11_errors = true := by decide +kernel
abbrev tb_X11_haveRulesSameBusyTime : List (Nat × Instr × Nat) := [(0, .aload_n 0, 1), (1, .getfield 42, 3), (4, .iconst 0, 1), (5, .aload_n 0, 1), (6, .getfield 26, 3), (9, .getfield 106, 3), (12, .iconst 0, 1), (13, .aload_n 0, 1), (14, .getfield 26, 3), (17, .getfield 118, 3), (20, .invokevirtual 121, 3), (23, .iconst 1, 1), (24, .istore_n 1, 1), (25, .iload_n 1, 1), (26, .bipush 8, 2), (28, .if_icmp .gt 54, 3), (31, .aload_n 0, 1), (32, .getfield 39, 3), (35, .iload_n 1, 1), (36, .aload_n 0, 1), (37, .getfield 26, 3), (40, .getfield 106, 3), (43, .iconst 0, 1), (44, .aload_n 0, 1), (45, .getfield 26, 3), (48, .getfield 118, 3), (51, .invokevirtual 121, 3), (54, .aload_n 0, 1), (55, .getfield 39, 3), (58, .getfield 125, 3), (61, .aload_n 0, 1), (62, .getfield 42, 3), (65, .getfield 125, 3), (68, .invokevirtual 251, 3), (71, .ifCond .ne 5, 3), (74, .iconst 0, 1), (75, .ireturn, 1), (76, .iinc 1 1, 3), (79, .goto (-54), 3), (82, .iconst 1, 1), (83, .ireturn, 1)]
theorem dt_X11_haveRulesSameBusyTime : dkA cX11_haveRulesSameBusyTime tb_X11_haveRulesSameBusyTime = true := by decide +kernel
abbrev tb_X11_hasLeastLeftLeastEnds : List (Nat × Instr × Nat) := [(0, .aload_n 0, 1), (1, .getfield 42, 3), (4, .iconst 3, 1), (5, .aload_n 0, 1), (6, .getfield 26, 3), (9, .getfield 106, 3), (12, .iconst 0, 1), (13, .aload_n 0, 1), (14, .getfield 26, 3), (17, .getfield 118, 3), (20, .invokevirtual 121, 3), (23, .aload_n 0, 1), (24, .getfield 42, 3), (27, .getfield 149, 3), (30, .invokevirtual 158, 3), (33, .istore_n 1, 1), (34, .iconst 0, 1), (35, .istore_n 2, 1), (36, .iload_n 2, 1), (37, .bipush 8, 2), (39, .if_icmp .gt 48, 3), (42, .aload_n 0, 1), (43, .getfield 39, 3), (46, .iload_n 2, 1), (47, .aload_n 0, 1), (48, .getfield 26, 3), (51, .getfield 106, 3), (54, .iconst 0, 1), (55, .aload_n 0, 1), (56, .getfield 26, 3), (59, .getfield 118, 3), (62, .invokevirtual 121, 3), (65, .aload_n 0, 1), (66, .getfield 39, 3), (69, .getfield 149, 3), (72, .invokevirtual 158, 3), (75, .iload_n 1, 1), (76, .if_icmp .ge 5, 3), (79, .iconst 0, 1), (80, .ireturn, 1), (81, .iinc 2 1, 3), (84, .goto (-48), 3), (87, .iconst 1, 1), (88, .ireturn, 1)]
theorem dt_X11_hasLeastLeftLeastEnds : dkA cX11_hasLeastLeftLeastEnds tb_X11_hasLeastLeftLeastEnds = true := by decide +kernel
abbrev tb_X11_keepsDeadlines : List (Nat × Instr × Nat) := [(0, .aload_n 0, 1), (1, .getfield 39, 3), (4, .iload_n 1, 1), (5, .aload_n 0, 1), (6, .getfield 26, 3), (9, .getfield 106, 3), (12, .iconst 0, 1), (13, .aload_n 0, 1), (14, .getfield 26, 3), (17, .getfield 118, 3), (20, .invokevirtual 121, 3), (23, .aload_n 0, 1), (24, .getfield 39, 3), (27, .getfield 149, 3), (30, .invokevirtual 199, 3), (33, .ifCond .ne 7, 3), (36, .iconst 1, 1), (37, .goto 4, 3), (40, .iconst 0, 1), (41, .ireturn, 1)]
theorem dt_X11_keepsDeadlines : dkA cX11_keepsDeadlines tb_X11_keepsDeadlines = true := by decide +kernel
abbrev tb_X11_doesSomeRuleKeepDeadlines : List (Nat × Instr × Nat) := [(0, .iconst 0, 1), (1, .istore_n 1, 1), (2, .iload_n 1, 1), (3, .bipush 8, 2), (5, .if_icmp .gt 19, 3), (8, .aload_n 0, 1), (9, .iload_n 1, 1), (10, .invokevirtual 232, 3), (13, .ifCond .eq 5, 3), (16, .iconst 1, 1), (17, .ireturn, 1), (18, .iinc 1 1, 3), (21, .goto (-19), 3), (24, .iconst 0, 1), (25, .ireturn, 1)]
theorem dt_X11_doesSomeRuleKeepDeadlines : dkA cX11_doesSomeRuleKeepDeadlines tb_X11_doesSomeRuleKeepDeadlines = true := by decide +kernel
abbrev tb_X11_isRingFair : List (Nat × Instr × Nat) := [(0, .aload_n 0, 1), (1, .getfield 39, 3), (4, .iconst 0, 1), (5, .aload_n 0, 1), (6, .getfield 26, 3), (9, .getfield 106, 3), (12, .iconst 0, 1), (13, .aload_n 0, 1), (14, .getfield 26, 3), (17, .getfield 118, 3), (20, .invokevirtual 121, 3), (23, .aload_n 0, 1), (24, .getfield 10, 3), (27, .getfield 65, 3), (30, .iconst 1, 1), (31, .isub, 1), (32, .aload_n 0, 1), (33, .getfield 26, 3), (36, .getfield 106, 3), (39, .imul, 1), (40, .istore_n 1, 1), (41, .iconst 0, 1), (42, .istore_n 2, 1), (43, .iload_n 2, 1), (44, .aload_n 0, 1), (45, .getfield 10, 3), (48, .getfield 65, 3), (51, .if_icmp .ge 37, 3), (54, .aload_n 0, 1), (55, .getfield 39, 3), (58, .getfield 125, 3), (61, .iload_n 2, 1), (62, .aload_n 0, 1), (63, .getfield 39, 3), (66, .getfield 125, 3), (69, .iload_n 2, 1), (70, .invokevirtual 254, 3), (73, .invokevirtual 165, 3), (76, .iload_n 1, 1), (77, .if_icmp .le 5, 3), (80, .iconst 0, 1), (81, .ireturn, 1), (82, .iinc 2 1, 3), (85, .goto (-42), 3), (88, .iconst 1, 1), (89, .ireturn, 1)]
theorem dt_X11_isRingFair : dkA cX11_isRingFair tb_X11_isRingFair = true := by decide +kernel
abbrev tb_X11_isHighestFreeInTime : List (Nat × Instr × Nat) := [(0, .aload_n 0, 1), (1, .getfield 10, 3), (4, .invokevirtual 257, 3), (7, .istore_n 1, 1), (8, .iload_n 1, 1), (9, .iconst (-1), 1), (10, .if_icmp .ne 5, 3), (13, .iconst 1, 1), (14, .ireturn, 1), (15, .aload_n 0, 1), (16, .getfield 39, 3), (19, .bipush 8, 2), (21, .aload_n 0, 1), (22, .getfield 26, 3), (25, .getfield 106, 3), (28, .iconst 0, 1), (29, .iconst 1, 1), (30, .invokevirtual 121, 3), (33, .aload_n 0, 1), (34, .getfield 39, 3), (37, .getfield 168, 3), (40, .iload_n 1, 1), (41, .invokevirtual 91, 3), (44, .aload_n 0, 1), (45, .getfield 10, 3), (48, .iload_n 1, 1), (49, .invokevirtual 260, 3), (52, .if_icmp .gt 7, 3), (55, .iconst 1, 1), (56, .goto 4, 3), (59, .iconst 0, 1), (60, .ireturn, 1)]
theorem dt_X11_isHighestFreeInTime : dkA cX11_isHighestFreeInTime tb_X11_isHighestFreeInTime = true := by decide +kernel
abbrev tb_X11_needJob : List (Nat × Instr × Nat) := [(0, .iload_n 1, 1), (1, .ifCond .lt 14, 3), (4, .iload_n 1, 1), (5, .aload_n 0, 1), (6, .getfield 10, 3), (9, .getfield 65, 3), (12, .if_icmp .lt 11, 3), (15, .new 84, 3), (18, .dup, 1), (19, .invokespecial 86, 3), (22, .athrow, 1), (23, .return_, 1)]
theorem dt_X11_needJob : dkA cX11_needJob tb_X11_needJob = true := by decide +kernel
abbrev tb_X11_needMoment : List (Nat × Instr × Nat) := [(0, .iload_n 1, 1), (1, .ifCond .ge 11, 3), (4, .new 62, 3), (7, .dup, 1), (8, .invokespecial 64, 3), (11, .athrow, 1), (12, .return_, 1)]
theorem dt_X11_needMoment : dkA cX11_needMoment tb_X11_needMoment = true := by decide +kernel
abbrev tb_X11_needRun : List (Nat × Instr × Nat) := [(0, .aload_n 0, 1), (1, .getfield 54, 3), (4, .ifCond .ne 11, 3), (7, .new 69, 3), (10, .dup, 1), (11, .invokespecial 71, 3), (14, .athrow, 1), (15, .return_, 1)]
theorem dt_X11_needRun : dkA cX11_needRun tb_X11_needRun = true := by decide +kernel
abbrev tb_X11_isOutside : List (Nat × Instr × Nat) := [(0, .iload_n 0, 1), (1, .iload_n 1, 1), (2, .if_icmp .lt 8, 3), (5, .iload_n 0, 1), (6, .iload_n 2, 1), (7, .if_icmp .le 7, 3), (10, .iconst 1, 1), (11, .goto 4, 3), (14, .iconst 0, 1), (15, .ireturn, 1)]
theorem dt_X11_isOutside : dkA cX11_isOutside tb_X11_isOutside = true := by decide +kernel
abbrev tb_X11_reduced : List (Nat × Instr × Nat) := [(0, .lload_n 0, 1), (1, .lstore 4, 2), (3, .lload_n 2, 1), (4, .lstore 6, 2), (6, .iconst 0, 1), (7, .istore 8, 2), (9, .iload 8, 2), (11, .sipush 200, 3), (14, .if_icmp .ge 31, 3), (17, .lload 6, 2), (19, .lconst 0, 1), (20, .lcmp, 1), (21, .ifCond .eq 24, 3), (24, .lload 4, 2), (26, .lload 6, 2), (28, .lrem, 1), (29, .lstore 9, 2), (31, .lload 6, 2), (33, .lstore 4, 2), (35, .lload 9, 2), (37, .lstore 6, 2), (39, .iinc 8 1, 3), (42, .goto (-33), 3), (45, .lload 4, 2), (47, .lconst 0, 1), (48, .lcmp, 1), (49, .ifCond .ne 7, 3), (52, .lload_n 0, 1), (53, .goto 7, 3), (56, .lload_n 0, 1), (57, .lload 4, 2), (59, .ldiv, 1), (60, .lreturn, 1)]
theorem dt_X11_reduced : dkA cX11_reduced tb_X11_reduced = true := by decide +kernel
abbrev tb_X12_init : List (Nat × Instr × Nat) := [(0, .aload_n 0, 1), (1, .invokespecial 1, 3), (4, .aload_n 0, 1), (5, .bipush 12, 2), (7, .newarray .int, 2), (9, .putfield 7, 3), (12, .aload_n 0, 1), (13, .bipush 12, 2), (15, .newarray .int, 2), (17, .putfield 13, 3), (20, .aload_n 0, 1), (21, .bipush 12, 2), (23, .newarray .int, 2), (25, .putfield 16, 3), (28, .aload_n 0, 1), (29, .bipush 12, 2), (31, .newarray .int, 2), (33, .putfield 19, 3), (36, .aload_n 0, 1), (37, .bipush 12, 2), (39, .newarray .int, 2), (41, .putfield 22, 3), (44, .aload_n 0, 1), (45, .bipush 12, 2), (47, .newarray .int, 2), (49, .putfield 25, 3), (52, .aload_n 0, 1), (53, .bipush 36, 2), (55, .newarray .int, 2), (57, .putfield 28, 3), (60, .aload_n 0, 1), (61, .bipush 36, 2), (63, .newarray .int, 2), (65, .putfield 31, 3), (68, .aload_n 0, 1), (69, .bipush 36, 2), (71, .newarray .int, 2), (73, .putfield 34, 3), (76, .aload_n 0, 1), (77, .iconst 2, 1), (78, .putfield 37, 3), (81, .aload_n 0, 1), (82, .bipush 20, 2), (84, .putfield 41, 3), (87, .aload_n 0, 1), (88, .iconst 1, 1), (89, .putfield 44, 3), (92, .aload_n 0, 1), (93, .iconst 5, 1), (94, .newarray .int, 2), (96, .putfield 47, 3), (99, .aload_n 0, 1), (100, .iconst 5, 1), (101, .newarray .int, 2), (103, .putfield 50, 3), (106, .aload_n 0, 1), (107, .iconst 5, 1), (108, .newarray .int, 2), (110, .putfield 53, 3), (113, .aload_n 0, 1), (114, .sipush 3000, 3), (117, .newarray .int, 2), (119, .putfield 56, 3), (122, .aload_n 0, 1), (123, .bipush 12, 2), (125, .newarray .int, 2), (127, .putfield 59, 3), (130, .aload_n 0, 1), (131, .bipush 12, 2), (133, .newarray .int, 2), (135, .putfield 62, 3), (138, .aload_n 0, 1), (139, .bipush 12, 2), (141, .newarray .int, 2), (143, .putfield 65, 3), (146, .aload_n 0, 1), (147, .iconst (-1), 1), (148, .putfield 68, 3), (151, .aload_n 0, 1), (152, .sipush 3000, 3), (155, .newarray .int, 2), (157, .putfield 71, 3), (160, .aload_n 0, 1), (161, .bipush 12, 2), (163, .newarray .int, 2), (165, .putfield 74, 3), (168, .aload_n 0, 1), (169, .bipush 12, 2), (171, .newarray .int, 2), (173, .putfield 77, 3), (176, .aload_n 0, 1), (177, .bipush 12, 2), (179, .newarray .int, 2), (181, .putfield 80, 3), (184, .aload_n 0, 1), (185, .bipush 12, 2), (187, .newarray .int, 2), (189, .putfield 83, 3), (192, .aload_n 0, 1), (193, .bipush 12, 2), (195, .newarray .int, 2), (197, .putfield 86, 3), (200, .aload_n 0, 1), (201, .bipush 12, 2), (203, .newarray .boolean, 2), (205, .putfield 89, 3), (208, .aload_n 0, 1), (209, .bipush 36, 2), (211, .newarray .int, 2), (213, .putfield 93, 3), (216, .aload_n 0, 1), (217, .iconst 3, 1), (218, .newarray .int, 2), (220, .putfield 96, 3), (223, .aload_n 0, 1), (224, .bipush 12, 2), (226, .newarray .int, 2), (228, .putfield 99, 3), (231, .aload_n 0, 1), (232, .sipush 3000, 3), (235, .newarray .boolean, 2), (237, .putfield 102, 3), (240, .return_, 1)]
theorem dt_X12_init : dkA cX12_init tb_X12_init = true := by decide +kernel
abbrev tb_X12_thrown : List (Nat × Instr × Nat) := [(0, .aload_n 0, 1), (1, .getfield 105, 3), (4, .ireturn, 1)]
theorem dt_X12_thrown : dkA cX12_thrown tb_X12_thrown = true := by decide +kernel
abbrev tb_X12_in : List (Nat × Instr × Nat) := [(0, .iload_n 0, 1), (1, .iload_n 1, 1), (2, .if_icmp .lt 12, 3), (5, .iload_n 0, 1), (6, .iload_n 2, 1), (7, .if_icmp .gt 7, 3), (10, .iconst 1, 1), (11, .goto 4, 3), (14, .iconst 0, 1), (15, .ireturn, 1)]
theorem dt_X12_in : dkA cX12_in tb_X12_in = true := by decide +kernel
abbrev tb_X12_isJob : List (Nat × Instr × Nat) := [(0, .iload_n 1, 1), (1, .iconst 0, 1), (2, .aload_n 0, 1), (3, .getfield 108, 3), (6, .iconst 1, 1), (7, .isub, 1), (8, .invokestatic 111, 3), (11, .ireturn, 1)]
theorem dt_X12_isJob : dkA cX12_isJob tb_X12_isJob = true := by decide +kernel
abbrev tb_X12_refuse : List (Nat × Instr × Nat) := [(0, .aload_n 0, 1), (1, .iload_n 1, 1), (2, .putfield 105, 3), (5, .iconst 0, 1), (6, .ireturn, 1)]
theorem dt_X12_refuse : dkA cX12_refuse tb_X12_refuse = true := by decide +kernel
abbrev tb_X12_told : List (Nat × Instr × Nat) := [(0, .aload_n 0, 1), (1, .iconst 0, 1), (2, .putfield 105, 3), (5, .iload_n 1, 1), (6, .ireturn, 1)]
theorem dt_X12_told : dkA cX12_told tb_X12_told = true := by decide +kernel
abbrev tb_X12_denies : List (Nat × Instr × Nat) := [(0, .aload_n 0, 1), (1, .iload_n 1, 1), (2, .putfield 105, 3), (5, .iconst 0, 1), (6, .ireturn, 1)]
theorem dt_X12_denies : dkA cX12_denies tb_X12_denies = true := by decide +kernel
abbrev tb_X12_changed : List (Nat × Instr × Nat) := [(0, .aload_n 0, 1), (1, .iconst (-1), 1), (2, .putfield 68, 3), (5, .aload_n 0, 1), (6, .iload_n 1, 1), (7, .invokevirtual 115, 3), (10, .ireturn, 1)]
theorem dt_X12_changed : dkA cX12_changed tb_X12_changed = true := by decide +kernel
abbrev tb_X12_job : List (Nat × Instr × Nat) := [(0, .iload_n 1, 1), (1, .iconst 0, 1), (2, .bipush 99, 2), (4, .invokestatic 111, 3), (7, .ifCond .eq 35, 3), (10, .iload_n 2, 1), (11, .iconst 1, 1), (12, .bipush 30, 2), (14, .invokestatic 111, 3), (17, .ifCond .eq 25, 3), (20, .iload_n 3, 1), (21, .iconst 0, 1), (22, .sipush 400, 3), (25, .invokestatic 111, 3), (28, .ifCond .eq 14, 3), (31, .iload 4, 2), (33, .iconst 1, 1), (34, .bipush 9, 2), (36, .invokestatic 111, 3), (39, .ifCond .ne 9, 3), (42, .aload_n 0, 1), (43, .iconst 1, 1), (44, .invokevirtual 119, 3), (47, .ireturn, 1), (48, .aload_n 0, 1), (49, .getfield 108, 3), (52, .bipush 12, 2), (54, .if_icmp .ne 9, 3), (57, .aload_n 0, 1), (58, .iconst 2, 1), (59, .invokevirtual 119, 3), (62, .ireturn, 1), (63, .aload_n 0, 1), (64, .getfield 7, 3), (67, .aload_n 0, 1), (68, .getfield 108, 3), (71, .iload_n 1, 1), (72, .iastore, 1), (73, .aload_n 0, 1), (74, .getfield 13, 3), (77, .aload_n 0, 1), (78, .getfield 108, 3), (81, .iload_n 2, 1), (82, .iastore, 1), (83, .aload_n 0, 1), (84, .getfield 16, 3), (87, .aload_n 0, 1), (88, .getfield 108, 3), (91, .iload_n 3, 1), (92, .iastore, 1), (93, .aload_n 0, 1), (94, .getfield 19, 3), (97, .aload_n 0, 1), (98, .getfield 108, 3), (101, .iload 4, 2), (103, .iastore, 1), (104, .aload_n 0, 1), (105, .getfield 22, 3), (108, .aload_n 0, 1), (109, .getfield 108, 3), (112, .iconst 0, 1), (113, .iastore, 1), (114, .aload_n 0, 1), (115, .getfield 25, 3), (118, .aload_n 0, 1), (119, .getfield 108, 3), (122, .iconst 0, 1), (123, .iastore, 1), (124, .aload_n 0, 1), (125, .dup, 1), (126, .getfield 108, 3), (129, .iconst 1, 1), (130, .iadd, 1), (131, .putfield 108, 3), (134, .aload_n 0, 1), (135, .aload_n 0, 1), (136, .getfield 108, 3), (139, .iconst 1, 1), (140, .isub, 1), (141, .invokevirtual 122, 3), (144, .ireturn, 1)]
theorem dt_X12_job : dkA cX12_job tb_X12_job = true := by decide +kernel
abbrev tb_X12_bits : List (Nat × Instr × Nat) := [(0, .iconst 0, 1), (1, .istore_n 1, 1), (2, .iconst 0, 1), (3, .istore_n 2, 1), (4, .iload_n 2, 1), (5, .bipush 12, 2), (7, .if_icmp .ge 17, 3), (10, .iload_n 1, 1), (11, .iload_n 0, 1), (12, .iload_n 2, 1), (13, .ishr, 1), (14, .iconst 1, 1), (15, .iand, 1), (16, .iadd, 1), (17, .istore_n 1, 1), (18, .iinc 2 1, 3), (21, .goto (-17), 3), (24, .iload_n 1, 1), (25, .ireturn, 1)]
theorem dt_X12_bits : dkA cX12_bits tb_X12_bits = true := by decide +kernel
abbrev tb_X12_after : List (Nat × Instr × Nat) := [(0, .aload_n 0, 1), (1, .iload_n 1, 1), (2, .invokevirtual 125, 3), (5, .ifCond .eq 11, 3), (8, .aload_n 0, 1), (9, .iload_n 2, 1), (10, .invokevirtual 125, 3), (13, .ifCond .ne 9, 3), (16, .aload_n 0, 1), (17, .iconst 1, 1), (18, .invokevirtual 119, 3), (21, .ireturn, 1), (22, .iload_n 2, 1), (23, .iload_n 1, 1), (24, .if_icmp .lt 9, 3), (27, .aload_n 0, 1), (28, .iconst 2, 1), (29, .invokevirtual 119, 3), (32, .ireturn, 1), (33, .aload_n 0, 1), (34, .getfield 22, 3), (37, .iload_n 1, 1), (38, .dup2, 1), (39, .iaload, 1), (40, .iconst 1, 1), (41, .iload_n 2, 1), (42, .ishl, 1), (43, .ior, 1), (44, .iastore, 1), (45, .aload_n 0, 1), (46, .aload_n 0, 1), (47, .getfield 22, 3), (50, .iload_n 1, 1), (51, .iaload, 1), (52, .invokestatic 129, 3), (55, .invokevirtual 122, 3), (58, .ireturn, 1)]
theorem dt_X12_after : dkA cX12_after tb_X12_after = true := by decide +kernel
abbrev tb_X12_lock : List (Nat × Instr × Nat) := [(0, .aload_n 0, 1), (1, .iload_n 1, 1), (2, .invokevirtual 125, 3), (5, .ifCond .eq 12, 3), (8, .iload_n 2, 1), (9, .iconst 0, 1), (10, .iconst 2, 1), (11, .invokestatic 111, 3), (14, .ifCond .ne 9, 3), (17, .aload_n 0, 1), (18, .iconst 1, 1), (19, .invokevirtual 119, 3), (22, .ireturn, 1), (23, .iload_n 3, 1), (24, .ifCond .lt 24, 3), (27, .iload 4, 2), (29, .iload_n 3, 1), (30, .if_icmp .le 18, 3), (33, .iload 4, 2), (35, .aload_n 0, 1), (36, .getfield 13, 3), (39, .iload_n 1, 1), (40, .iaload, 1), (41, .if_icmp .gt 7, 3), (44, .iconst 1, 1), (45, .goto 4, 3), (48, .iconst 0, 1), (49, .istore 5, 2), (51, .iconst 0, 1), (52, .istore 6, 2), (54, .iload 6, 2), (56, .aload_n 0, 1), (57, .getfield 25, 3), (60, .iload_n 1, 1), (61, .iaload, 1), (62, .if_icmp .ge 52, 3), (65, .iload 5, 2), (67, .ifCond .eq 47, 3), (70, .iload 4, 2), (72, .aload_n 0, 1), (73, .getfield 31, 3), (76, .iconst 3, 1), (77, .iload_n 1, 1), (78, .imul, 1), (79, .iload 6, 2), (81, .iadd, 1), (82, .iaload, 1), (83, .if_icmp .le 18, 3), (86, .aload_n 0, 1), (87, .getfield 34, 3), (90, .iconst 3, 1), (91, .iload_n 1, 1), (92, .imul, 1), (93, .iload 6, 2), (95, .iadd, 1), (96, .iaload, 1), (97, .iload_n 3, 1), (98, .if_icmp .gt 7, 3), (101, .iconst 1, 1), (102, .goto 4, 3), (105, .iconst 0, 1), (106, .istore 5, 2), (108, .iinc 6 1, 3), (111, .goto (-57), 3), (114, .iload 5, 2), (116, .ifCond .ne 9, 3), (119, .aload_n 0, 1), (120, .iconst 2, 1), (121, .invokevirtual 119, 3), (124, .ireturn, 1), (125, .aload_n 0, 1), (126, .getfield 25, 3), (129, .iload_n 1, 1), (130, .iaload, 1), (131, .iconst 3, 1), (132, .if_icmp .ne 9, 3), (135, .aload_n 0, 1), (136, .iconst 3, 1), (137, .invokevirtual 119, 3), (140, .ireturn, 1), (141, .iconst 3, 1), (142, .iload_n 1, 1), (143, .imul, 1), (144, .aload_n 0, 1), (145, .getfield 25, 3), (148, .iload_n 1, 1), (149, .iaload, 1), (150, .iadd, 1), (151, .istore 6, 2), (153, .aload_n 0, 1), (154, .getfield 28, 3), (157, .iload 6, 2), (159, .iload_n 2, 1), (160, .iastore, 1), (161, .aload_n 0, 1), (162, .getfield 31, 3), (165, .iload 6, 2), (167, .iload_n 3, 1), (168, .iastore, 1), (169, .aload_n 0, 1), (170, .getfield 34, 3), (173, .iload 6, 2), (175, .iload 4, 2), (177, .iastore, 1), (178, .aload_n 0, 1), (179, .getfield 25, 3), (182, .iload_n 1, 1), (183, .dup2, 1), (184, .iaload, 1), (185, .iconst 1, 1), (186, .iadd, 1), (187, .iastore, 1), (188, .aload_n 0, 1), (189, .aload_n 0, 1), (190, .getfield 25, 3), (193, .iload_n 1, 1), (194, .iaload, 1), (195, .invokevirtual 122, 3), (198, .ireturn, 1)]
theorem dt_X12_lock : dkA cX12_lock tb_X12_lock = true := by decide +kernel
abbrev tb_X12_turns : List (Nat × Instr × Nat) := [(0, .iload_n 1, 1), (1, .iconst 1, 1), (2, .bipush 20, 2), (4, .invokestatic 111, 3), (7, .ifCond .eq 22, 3), (10, .iload_n 2, 1), (11, .iconst 0, 1), (12, .iconst 5, 1), (13, .invokestatic 111, 3), (16, .ifCond .eq 13, 3), (19, .iload_n 3, 1), (20, .iconst 0, 1), (21, .bipush 99, 2), (23, .invokestatic 111, 3), (26, .ifCond .ne 9, 3), (29, .aload_n 0, 1), (30, .iconst 1, 1), (31, .invokevirtual 119, 3), (34, .ireturn, 1), (35, .aload_n 0, 1), (36, .getfield 37, 3), (39, .istore 6, 2), (41, .aload_n 0, 1), (42, .iload_n 1, 1), (43, .putfield 37, 3), (46, .aload_n 0, 1), (47, .iload_n 2, 1), (48, .putfield 132, 3), (51, .aload_n 0, 1), (52, .iload_n 3, 1), (53, .putfield 41, 3), (56, .aload_n 0, 1), (57, .iload 4, 2), (59, .putfield 44, 3), (62, .aload_n 0, 1), (63, .iload 5, 2), (65, .putfield 135, 3), (68, .aload_n 0, 1), (69, .iload 6, 2), (71, .invokevirtual 122, 3), (74, .ireturn, 1)]
theorem dt_X12_turns : dkA cX12_turns tb_X12_turns = true := by decide +kernel
abbrev tb_X12_clear : List (Nat × Instr × Nat) := [(0, .aload_n 0, 1), (1, .getfield 108, 3), (4, .istore_n 1, 1), (5, .aload_n 0, 1), (6, .iconst 0, 1), (7, .putfield 108, 3), (10, .aload_n 0, 1), (11, .iload_n 1, 1), (12, .invokevirtual 122, 3), (15, .ireturn, 1)]
theorem dt_X12_clear : dkA cX12_clear tb_X12_clear = true := by decide +kernel
abbrev tb_X12_joins : List (Nat × Instr × Nat) := [(0, .aload_n 0, 1), (1, .getfield 93, 3), (4, .bipush 12, 2), (6, .iload_n 1, 1), (7, .imul, 1), (8, .aload_n 0, 1), (9, .getfield 96, 3), (12, .iload_n 1, 1), (13, .iaload, 1), (14, .iadd, 1), (15, .iload_n 2, 1), (16, .iastore, 1), (17, .aload_n 0, 1), (18, .getfield 96, 3), (21, .iload_n 1, 1), (22, .dup2, 1), (23, .iaload, 1), (24, .iconst 1, 1), (25, .iadd, 1), (26, .iastore, 1), (27, .aload_n 0, 1), (28, .getfield 99, 3), (31, .iload_n 2, 1), (32, .iload_n 1, 1), (33, .iastore, 1), (34, .return_, 1)]
theorem dt_X12_joins : dkA cX12_joins tb_X12_joins = true := by decide +kernel
abbrev tb_X12_takes : List (Nat × Instr × Nat) := [(0, .aload_n 0, 1), (1, .getfield 93, 3), (4, .bipush 12, 2), (6, .iload_n 1, 1), (7, .imul, 1), (8, .iaload, 1), (9, .istore_n 2, 1), (10, .aload_n 0, 1), (11, .getfield 96, 3), (14, .iload_n 1, 1), (15, .dup2, 1), (16, .iaload, 1), (17, .iconst 1, 1), (18, .isub, 1), (19, .iastore, 1), (20, .iconst 0, 1), (21, .istore_n 3, 1), (22, .iload_n 3, 1), (23, .aload_n 0, 1), (24, .getfield 96, 3), (27, .iload_n 1, 1), (28, .iaload, 1), (29, .if_icmp .ge 33, 3), (32, .aload_n 0, 1), (33, .getfield 93, 3), (36, .bipush 12, 2), (38, .iload_n 1, 1), (39, .imul, 1), (40, .iload_n 3, 1), (41, .iadd, 1), (42, .aload_n 0, 1), (43, .getfield 93, 3), (46, .bipush 12, 2), (48, .iload_n 1, 1), (49, .imul, 1), (50, .iload_n 3, 1), (51, .iadd, 1), (52, .iconst 1, 1), (53, .iadd, 1), (54, .iaload, 1), (55, .iastore, 1), (56, .iinc 3 1, 3), (59, .goto (-37), 3), (62, .iload_n 2, 1), (63, .ireturn, 1)]
theorem dt_X12_takes : dkA cX12_takes tb_X12_takes = true := by decide +kernel
abbrev tb_X12_rises : List (Nat × Instr × Nat) := [(0, .iconst 1, 1), (1, .istore_n 1, 1), (2, .iload_n 1, 1), (3, .iconst 3, 1), (4, .if_icmp .ge 31, 3), (7, .aload_n 0, 1), (8, .getfield 96, 3), (11, .iload_n 1, 1), (12, .iaload, 1), (13, .ifCond .le 16, 3), (16, .aload_n 0, 1), (17, .iconst 0, 1), (18, .aload_n 0, 1), (19, .iload_n 1, 1), (20, .invokevirtual 139, 3), (23, .invokevirtual 142, 3), (26, .goto (-19), 3), (29, .iinc 1 1, 3), (32, .goto (-30), 3), (35, .return_, 1)]
theorem dt_X12_rises : dkA cX12_rises tb_X12_rises = true := by decide +kernel
abbrev tb_X12_canBegin : List (Nat × Instr × Nat) := [(0, .aload_n 0, 1), (1, .getfield 7, 3), (4, .iload_n 1, 1), (5, .iaload, 1), (6, .iload_n 2, 1), (7, .if_icmp .gt 16, 3), (10, .aload_n 0, 1), (11, .getfield 74, 3), (14, .iload_n 1, 1), (15, .iaload, 1), (16, .ifCond .le 7, 3), (19, .iconst 1, 1), (20, .goto 4, 3), (23, .iconst 0, 1), (24, .istore_n 3, 1), (25, .iconst 0, 1), (26, .istore 4, 2), (28, .iload 4, 2), (30, .iload_n 1, 1), (31, .if_icmp .ge 43, 3), (34, .iload_n 3, 1), (35, .ifCond .eq 31, 3), (38, .aload_n 0, 1), (39, .getfield 22, 3), (42, .iload_n 1, 1), (43, .iaload, 1), (44, .iload 4, 2), (46, .ishr, 1), (47, .iconst 1, 1), (48, .iand, 1), (49, .ifCond .eq 13, 3), (52, .aload_n 0, 1), (53, .getfield 74, 3), (56, .iload 4, 2), (58, .iaload, 1), (59, .ifCond .ne 7, 3), (62, .iconst 1, 1), (63, .goto 4, 3), (66, .iconst 0, 1), (67, .istore_n 3, 1), (68, .iinc 4 1, 3), (71, .goto (-43), 3), (74, .iload_n 3, 1), (75, .ireturn, 1)]
theorem dt_X12_canBegin : dkA cX12_canBegin tb_X12_canBegin = true := by decide +kernel
abbrev tb_X12_leastCount : List (Nat × Instr × Nat) := [(0, .iconst (-1), 1), (1, .istore_n 2, 1), (2, .iconst 0, 1), (3, .istore_n 3, 1), (4, .iload_n 3, 1), (5, .aload_n 0, 1), (6, .getfield 108, 3), (9, .if_icmp .ge 59, 3), (12, .aload_n 0, 1), (13, .getfield 89, 3), (16, .iload_n 3, 1), (17, .baload, 1), (18, .ifCond .eq 44, 3), (21, .aload_n 0, 1), (22, .getfield 80, 3), (25, .iload_n 3, 1), (26, .iaload, 1), (27, .iload_n 1, 1), (28, .if_icmp .ge 34, 3), (31, .aload_n 0, 1), (32, .getfield 74, 3), (35, .iload_n 3, 1), (36, .iaload, 1), (37, .ifCond .le 25, 3), (40, .iload_n 2, 1), (41, .iconst (-1), 1), (42, .if_icmp .eq 13, 3), (45, .aload_n 0, 1), (46, .getfield 86, 3), (49, .iload_n 3, 1), (50, .iaload, 1), (51, .iload_n 2, 1), (52, .if_icmp .ge 10, 3), (55, .aload_n 0, 1), (56, .getfield 86, 3), (59, .iload_n 3, 1), (60, .iaload, 1), (61, .istore_n 2, 1), (62, .iinc 3 1, 3), (65, .goto (-61), 3), (68, .iload_n 2, 1), (69, .iconst (-1), 1), (70, .if_icmp .ne 7, 3), (73, .iconst 0, 1), (74, .goto 4, 3), (77, .iload_n 2, 1), (78, .ireturn, 1)]
theorem dt_X12_leastCount : dkA cX12_leastCount tb_X12_leastCount = true := by decide +kernel
abbrev tb_X12_becomesReady : List (Nat × Instr × Nat) := [(0, .iconst 0, 1), (1, .istore_n 3, 1), (2, .iload_n 3, 1), (3, .aload_n 0, 1), (4, .getfield 108, 3), (7, .if_icmp .ge 67, 3), (10, .aload_n 0, 1), (11, .getfield 89, 3), (14, .iload_n 3, 1), (15, .baload, 1), (16, .ifCond .ne 52, 3), (19, .aload_n 0, 1), (20, .iload_n 3, 1), (21, .iload_n 2, 1), (22, .invokevirtual 146, 3), (25, .ifCond .eq 43, 3), (28, .aload_n 0, 1), (29, .getfield 89, 3), (32, .iload_n 3, 1), (33, .iconst 1, 1), (34, .bastore, 1), (35, .aload_n 0, 1), (36, .getfield 80, 3), (39, .iload_n 3, 1), (40, .iload_n 2, 1), (41, .iastore, 1), (42, .aload_n 0, 1), (43, .getfield 86, 3), (46, .iload_n 3, 1), (47, .aload_n 0, 1), (48, .iload_n 2, 1), (49, .invokevirtual 150, 3), (52, .iastore, 1), (53, .iload_n 1, 1), (54, .ifCond .eq 8, 3), (57, .iload_n 1, 1), (58, .iconst 4, 1), (59, .if_icmp .ne 9, 3), (62, .aload_n 0, 1), (63, .iconst 0, 1), (64, .iload_n 3, 1), (65, .invokevirtual 142, 3), (68, .iinc 3 1, 3), (71, .goto (-69), 3), (74, .return_, 1)]
theorem dt_X12_becomesReady : dkA cX12_becomesReady tb_X12_becomesReady = true := by decide +kernel
abbrev tb_X12_isThere : List (Nat × Instr × Nat) := [(0, .aload_n 0, 1), (1, .getfield 89, 3), (4, .iload_n 1, 1), (5, .baload, 1), (6, .ifCond .eq 16, 3), (9, .aload_n 0, 1), (10, .getfield 74, 3), (13, .iload_n 1, 1), (14, .iaload, 1), (15, .ifCond .le 7, 3), (18, .iconst 1, 1), (19, .goto 4, 3), (22, .iconst 0, 1), (23, .ireturn, 1)]
theorem dt_X12_isThere : dkA cX12_isThere tb_X12_isThere = true := by decide +kernel
abbrev tb_X12_needs : List (Nat × Instr × Nat) := [(0, .aload_n 0, 1), (1, .getfield 13, 3), (4, .iload_n 1, 1), (5, .iaload, 1), (6, .aload_n 0, 1), (7, .getfield 74, 3), (10, .iload_n 1, 1), (11, .iaload, 1), (12, .isub, 1), (13, .istore_n 2, 1), (14, .iconst 3, 1), (15, .iload_n 1, 1), (16, .imul, 1), (17, .istore_n 3, 1), (18, .iload_n 3, 1), (19, .iconst 3, 1), (20, .iload_n 1, 1), (21, .imul, 1), (22, .aload_n 0, 1), (23, .getfield 25, 3), (26, .iload_n 1, 1), (27, .iaload, 1), (28, .iadd, 1), (29, .if_icmp .ge 36, 3), (32, .aload_n 0, 1), (33, .getfield 31, 3), (36, .iload_n 3, 1), (37, .iaload, 1), (38, .iload_n 2, 1), (39, .if_icmp .gt 20, 3), (42, .iload_n 2, 1), (43, .aload_n 0, 1), (44, .getfield 34, 3), (47, .iload_n 3, 1), (48, .iaload, 1), (49, .if_icmp .ge 10, 3), (52, .aload_n 0, 1), (53, .getfield 28, 3), (56, .iload_n 3, 1), (57, .iaload, 1), (58, .ireturn, 1), (59, .iinc 3 1, 3), (62, .goto (-44), 3), (65, .iconst (-1), 1), (66, .ireturn, 1)]
theorem dt_X12_needs : dkA cX12_needs tb_X12_needs = true := by decide +kernel
abbrev tb_X12_has : List (Nat × Instr × Nat) := [(0, .aload_n 0, 1), (1, .getfield 13, 3), (4, .iload_n 1, 1), (5, .iaload, 1), (6, .aload_n 0, 1), (7, .getfield 74, 3), (10, .iload_n 1, 1), (11, .iaload, 1), (12, .isub, 1), (13, .istore_n 3, 1), (14, .iconst 0, 1), (15, .istore 4, 2), (17, .iconst 3, 1), (18, .iload_n 1, 1), (19, .imul, 1), (20, .istore 5, 2), (22, .iload 5, 2), (24, .iconst 3, 1), (25, .iload_n 1, 1), (26, .imul, 1), (27, .aload_n 0, 1), (28, .getfield 25, 3), (31, .iload_n 1, 1), (32, .iaload, 1), (33, .iadd, 1), (34, .if_icmp .ge 54, 3), (37, .iload 4, 2), (39, .ifCond .ne 36, 3), (42, .aload_n 0, 1), (43, .getfield 28, 3), (46, .iload 5, 2), (48, .iaload, 1), (49, .iload_n 2, 1), (50, .if_icmp .ne 29, 3), (53, .aload_n 0, 1), (54, .getfield 31, 3), (57, .iload 5, 2), (59, .iaload, 1), (60, .iload_n 3, 1), (61, .if_icmp .ge 18, 3), (64, .iload_n 3, 1), (65, .aload_n 0, 1), (66, .getfield 34, 3), (69, .iload 5, 2), (71, .iaload, 1), (72, .if_icmp .ge 7, 3), (75, .iconst 1, 1), (76, .goto 4, 3), (79, .iconst 0, 1), (80, .istore 4, 2), (82, .iinc 5 1, 3), (85, .goto (-63), 3), (88, .iload 4, 2), (90, .ireturn, 1)]
theorem dt_X12_has : dkA cX12_has tb_X12_has = true := by decide +kernel
abbrev tb_X12_keeper : List (Nat × Instr × Nat) := [(0, .aload_n 0, 1), (1, .iload_n 1, 1), (2, .invokevirtual 153, 3), (5, .istore_n 2, 1), (6, .iconst 0, 1), (7, .istore_n 3, 1), (8, .iload_n 3, 1), (9, .aload_n 0, 1), (10, .getfield 108, 3), (13, .if_icmp .ge 30, 3), (16, .iload_n 2, 1), (17, .iconst (-1), 1), (18, .if_icmp .eq 25, 3), (21, .iload_n 3, 1), (22, .iload_n 1, 1), (23, .if_icmp .eq 14, 3), (26, .aload_n 0, 1), (27, .iload_n 3, 1), (28, .iload_n 2, 1), (29, .invokevirtual 156, 3), (32, .ifCond .eq 5, 3), (35, .iload_n 3, 1), (36, .ireturn, 1), (37, .iinc 3 1, 3), (40, .goto (-32), 3), (43, .iconst (-1), 1), (44, .ireturn, 1)]
theorem dt_X12_keeper : dkA cX12_keeper tb_X12_keeper = true := by decide +kernel
abbrev tb_X12_rankOf : List (Nat × Instr × Nat) := [(0, .aload_n 0, 1), (1, .getfield 19, 3), (4, .iload_n 1, 1), (5, .iaload, 1), (6, .istore_n 3, 1), (7, .iconst 0, 1), (8, .istore 4, 2), (10, .iload 4, 2), (12, .aload_n 0, 1), (13, .getfield 108, 3), (16, .if_icmp .ge 51, 3), (19, .iload_n 2, 1), (20, .ifCond .eq 47, 3), (23, .aload_n 0, 1), (24, .iload 4, 2), (26, .invokevirtual 159, 3), (29, .ifCond .eq 32, 3), (32, .aload_n 0, 1), (33, .iload 4, 2), (35, .invokevirtual 162, 3), (38, .iload_n 1, 1), (39, .if_icmp .ne 22, 3), (42, .aload_n 0, 1), (43, .getfield 19, 3), (46, .iload 4, 2), (48, .iaload, 1), (49, .iload_n 3, 1), (50, .if_icmp .le 11, 3), (53, .aload_n 0, 1), (54, .getfield 19, 3), (57, .iload 4, 2), (59, .iaload, 1), (60, .istore_n 3, 1), (61, .iinc 4 1, 3), (64, .goto (-54), 3), (67, .iload_n 3, 1), (68, .ireturn, 1)]
theorem dt_X12_rankOf : dkA cX12_rankOf tb_X12_rankOf = true := by decide +kernel
abbrev tb_X12_draws : List (Nat × Instr × Nat) := [(0, .aload_n 0, 1), (1, .aload_n 0, 1), (2, .getfield 165, 3), (5, .ldc 168, 2), (7, .imul, 1), (8, .sipush 12345, 3), (11, .iadd, 1), (12, .putfield 165, 3), (15, .aload_n 0, 1), (16, .getfield 165, 3), (19, .bipush 16, 2), (21, .iushr, 1), (22, .iload_n 1, 1), (23, .irem, 1), (24, .ireturn, 1)]
theorem dt_X12_draws : dkA cX12_draws tb_X12_draws = true := by decide +kernel
abbrev tb_X12_drawnJob : List (Nat × Instr × Nat) := [(0, .iconst 0, 1), (1, .istore_n 1, 1), (2, .iconst 0, 1), (3, .istore_n 2, 1), (4, .iload_n 2, 1), (5, .aload_n 0, 1), (6, .getfield 108, 3), (9, .if_icmp .ge 30, 3), (12, .iload_n 1, 1), (13, .aload_n 0, 1), (14, .iload_n 2, 1), (15, .invokevirtual 159, 3), (18, .ifCond .eq 12, 3), (21, .aload_n 0, 1), (22, .getfield 19, 3), (25, .iload_n 2, 1), (26, .iaload, 1), (27, .goto 4, 3), (30, .iconst 0, 1), (31, .iadd, 1), (32, .istore_n 1, 1), (33, .iinc 2 1, 3), (36, .goto (-32), 3), (39, .aload_n 0, 1), (40, .iload_n 1, 1), (41, .invokevirtual 169, 3), (44, .istore_n 2, 1), (45, .iconst 0, 1), (46, .istore_n 3, 1), (47, .iconst 0, 1), (48, .istore 4, 2), (50, .iload 4, 2), (52, .aload_n 0, 1), (53, .getfield 108, 3), (56, .if_icmp .ge 40, 3), (59, .iload_n 3, 1), (60, .aload_n 0, 1), (61, .iload 4, 2), (63, .invokevirtual 159, 3), (66, .ifCond .eq 13, 3), (69, .aload_n 0, 1), (70, .getfield 19, 3), (73, .iload 4, 2), (75, .iaload, 1), (76, .goto 4, 3), (79, .iconst 0, 1), (80, .iadd, 1), (81, .istore_n 3, 1), (82, .iload_n 3, 1), (83, .iload_n 2, 1), (84, .if_icmp .le 6, 3), (87, .iload 4, 2), (89, .ireturn, 1), (90, .iinc 4 1, 3), (93, .goto (-43), 3), (96, .iconst (-1), 1), (97, .ireturn, 1)]
theorem dt_X12_drawnJob : dkA cX12_drawnJob tb_X12_drawnJob = true := by decide +kernel
abbrev tb_X12_keyOf : List (Nat × Instr × Nat) := [(0, .iload_n 1, 1), (1, .tableswitch 89 1 6 #[39, 46, 53, 89, 60, 67], 39), (40, .aload_n 0, 1), (41, .getfield 7, 3), (44, .iload_n 2, 1), (45, .iaload, 1), (46, .ireturn, 1), (47, .aload_n 0, 1), (48, .getfield 13, 3), (51, .iload_n 2, 1), (52, .iaload, 1), (53, .ireturn, 1), (54, .aload_n 0, 1), (55, .getfield 74, 3), (58, .iload_n 2, 1), (59, .iaload, 1), (60, .ireturn, 1), (61, .aload_n 0, 1), (62, .getfield 86, 3), (65, .iload_n 2, 1), (66, .iaload, 1), (67, .ireturn, 1), (68, .aload_n 0, 1), (69, .getfield 16, 3), (72, .iload_n 2, 1), (73, .iaload, 1), (74, .ifCond .ne 9, 3), (77, .sipush 401, 3), (80, .goto 9, 3), (83, .aload_n 0, 1), (84, .getfield 16, 3), (87, .iload_n 2, 1), (88, .iaload, 1), (89, .ireturn, 1), (90, .aload_n 0, 1), (91, .iload_n 2, 1), (92, .iload_n 3, 1), (93, .invokevirtual 172, 3), (96, .ineg, 1), (97, .ireturn, 1)]
theorem dt_X12_keyOf : dkA cX12_keyOf tb_X12_keyOf = true := by decide +kernel
abbrev tb_X12_chooses : List (Nat × Instr × Nat) := [(0, .iload_n 1, 1), (1, .ifCond .eq 8, 3), (4, .iload_n 1, 1), (5, .iconst 4, 1), (6, .if_icmp .ne 33, 3), (9, .iconst 0, 1), (10, .istore_n 3, 1), (11, .iload_n 3, 1), (12, .iconst 3, 1), (13, .if_icmp .ge 24, 3), (16, .aload_n 0, 1), (17, .getfield 96, 3), (20, .iload_n 3, 1), (21, .iaload, 1), (22, .ifCond .le 9, 3), (25, .aload_n 0, 1), (26, .iload_n 3, 1), (27, .invokevirtual 139, 3), (30, .ireturn, 1), (31, .iinc 3 1, 3), (34, .goto (-23), 3), (37, .iconst (-1), 1), (38, .ireturn, 1), (39, .iconst (-1), 1), (40, .istore_n 3, 1), (41, .iconst 0, 1), (42, .istore 4, 2), (44, .iload 4, 2), (46, .aload_n 0, 1), (47, .getfield 108, 3), (50, .if_icmp .ge 72, 3), (53, .aload_n 0, 1), (54, .iload 4, 2), (56, .invokevirtual 159, 3), (59, .ifCond .eq 23, 3), (62, .iload_n 1, 1), (63, .bipush 8, 2), (65, .if_icmp .ne 13, 3), (68, .aload_n 0, 1), (69, .iload 4, 2), (71, .invokevirtual 162, 3), (74, .iconst (-1), 1), (75, .if_icmp .ne 7, 3), (78, .iconst 1, 1), (79, .goto 4, 3), (82, .iconst 0, 1), (83, .istore 5, 2), (85, .iload 5, 2), (87, .ifCond .eq 29, 3), (90, .iload_n 3, 1), (91, .iconst (-1), 1), (92, .if_icmp .eq 21, 3), (95, .aload_n 0, 1), (96, .iload_n 1, 1), (97, .iload 4, 2), (99, .iload_n 2, 1), (100, .invokevirtual 176, 3), (103, .aload_n 0, 1), (104, .iload_n 1, 1), (105, .iload_n 3, 1), (106, .iload_n 2, 1), (107, .invokevirtual 176, 3), (110, .if_icmp .ge 6, 3), (113, .iload 4, 2), (115, .istore_n 3, 1), (116, .iinc 4 1, 3), (119, .goto (-75), 3), (122, .iload_n 3, 1), (123, .iconst (-1), 1), (124, .if_icmp .eq 16, 3), (127, .iload_n 1, 1), (128, .bipush 7, 2), (130, .if_icmp .ne 10, 3), (133, .aload_n 0, 1), (134, .invokevirtual 180, 3), (137, .goto 4, 3), (140, .iload_n 3, 1), (141, .ireturn, 1)]
theorem dt_X12_chooses : dkA cX12_chooses tb_X12_chooses = true := by decide +kernel
abbrev tb_X12_turnOf : List (Nat × Instr × Nat) := [(0, .iload_n 1, 1), (1, .tableswitch 76 1 8 #[47, 54, 70, 61, 76, 72, 76, 74], 47), (48, .aload_n 0, 1), (49, .getfield 74, 3), (52, .iload_n 2, 1), (53, .iaload, 1), (54, .ireturn, 1), (55, .aload_n 0, 1), (56, .getfield 74, 3), (59, .iload_n 2, 1), (60, .iaload, 1), (61, .ireturn, 1), (62, .iload_n 3, 1), (63, .aload_n 0, 1), (64, .getfield 99, 3), (67, .iload_n 2, 1), (68, .iaload, 1), (69, .ishl, 1), (70, .ireturn, 1), (71, .iconst 1, 1), (72, .ireturn, 1), (73, .iconst 1, 1), (74, .ireturn, 1), (75, .iconst 1, 1), (76, .ireturn, 1), (77, .iload_n 3, 1), (78, .ireturn, 1)]
theorem dt_X12_turnOf : dkA cX12_turnOf tb_X12_turnOf = true := by decide +kernel
abbrev tb_X12_begins : List (Nat × Instr × Nat) := [(0, .iconst 0, 1), (1, .istore_n 1, 1), (2, .iload_n 1, 1), (3, .aload_n 0, 1), (4, .getfield 108, 3), (7, .if_icmp .ge 56, 3), (10, .aload_n 0, 1), (11, .getfield 74, 3), (14, .iload_n 1, 1), (15, .aload_n 0, 1), (16, .getfield 13, 3), (19, .iload_n 1, 1), (20, .iaload, 1), (21, .iastore, 1), (22, .aload_n 0, 1), (23, .getfield 77, 3), (26, .iload_n 1, 1), (27, .iconst 0, 1), (28, .iastore, 1), (29, .aload_n 0, 1), (30, .getfield 80, 3), (33, .iload_n 1, 1), (34, .iconst 0, 1), (35, .iastore, 1), (36, .aload_n 0, 1), (37, .getfield 83, 3), (40, .iload_n 1, 1), (41, .iconst 0, 1), (42, .iastore, 1), (43, .aload_n 0, 1), (44, .getfield 86, 3), (47, .iload_n 1, 1), (48, .iconst 0, 1), (49, .iastore, 1), (50, .aload_n 0, 1), (51, .getfield 89, 3), (54, .iload_n 1, 1), (55, .iconst 0, 1), (56, .bastore, 1), (57, .iinc 1 1, 3), (60, .goto (-58), 3), (63, .iconst 0, 1), (64, .istore_n 1, 1), (65, .iload_n 1, 1), (66, .iconst 3, 1), (67, .if_icmp .ge 16, 3), (70, .aload_n 0, 1), (71, .getfield 96, 3), (74, .iload_n 1, 1), (75, .iconst 0, 1), (76, .iastore, 1), (77, .iinc 1 1, 3), (80, .goto (-15), 3), (83, .aload_n 0, 1), (84, .iconst 0, 1), (85, .putfield 184, 3), (88, .aload_n 0, 1), (89, .aload_n 0, 1), (90, .getfield 44, 3), (93, .putfield 165, 3), (96, .return_, 1)]
theorem dt_X12_begins : dkA cX12_begins tb_X12_begins = true := by decide +kernel
abbrev tb_X12_keepsWaiting : List (Nat × Instr × Nat) := [(0, .iconst 0, 1), (1, .istore_n 2, 1), (2, .iload_n 2, 1), (3, .aload_n 0, 1), (4, .getfield 108, 3), (7, .if_icmp .ge 55, 3), (10, .aload_n 0, 1), (11, .getfield 83, 3), (14, .iload_n 2, 1), (15, .dup2, 1), (16, .iaload, 1), (17, .aload_n 0, 1), (18, .iload_n 2, 1), (19, .invokevirtual 159, 3), (22, .ifCond .eq 31, 3), (25, .aload_n 0, 1), (26, .iload_n 2, 1), (27, .invokevirtual 162, 3), (30, .iconst (-1), 1), (31, .if_icmp .eq 22, 3), (34, .aload_n 0, 1), (35, .getfield 19, 3), (38, .iload_n 1, 1), (39, .iaload, 1), (40, .aload_n 0, 1), (41, .getfield 19, 3), (44, .iload_n 2, 1), (45, .iaload, 1), (46, .if_icmp .ge 7, 3), (49, .iconst 1, 1), (50, .goto 4, 3), (53, .iconst 0, 1), (54, .iadd, 1), (55, .iastore, 1), (56, .iinc 2 1, 3), (59, .goto (-57), 3), (62, .return_, 1)]
theorem dt_X12_keepsWaiting : dkA cX12_keepsWaiting tb_X12_keepsWaiting = true := by decide +kernel
abbrev tb_X12_runs : List (Nat × Instr × Nat) := [(0, .aload_n 0, 1), (1, .invokevirtual 187, 3), (4, .iconst (-1), 1), (5, .istore 5, 2), (7, .iconst (-1), 1), (8, .istore 6, 2), (10, .iconst 0, 1), (11, .istore 7, 2), (13, .iconst 0, 1), (14, .istore 8, 2), (16, .iconst (-1), 1), (17, .istore 9, 2), (19, .iconst 0, 1), (20, .istore 10, 2), (22, .aload_n 0, 1), (23, .getfield 184, 3), (26, .aload_n 0, 1), (27, .getfield 108, 3), (30, .if_icmp .ge 322, 3), (33, .iload_n 1, 1), (34, .iconst 4, 1), (35, .if_icmp .ne 29, 3), (38, .aload_n 0, 1), (39, .getfield 41, 3), (42, .ifCond .le 22, 3), (45, .iload 10, 2), (47, .ifCond .le 17, 3), (50, .iload 10, 2), (52, .aload_n 0, 1), (53, .getfield 41, 3), (56, .irem, 1), (57, .ifCond .ne 7, 3), (60, .aload_n 0, 1), (61, .invokevirtual 190, 3), (64, .aload_n 0, 1), (65, .iload_n 1, 1), (66, .iload 10, 2), (68, .invokevirtual 193, 3), (71, .iload 9, 2), (73, .iconst (-1), 1), (74, .if_icmp .eq 50, 3), (77, .iload_n 1, 1), (78, .ifCond .eq 8, 3), (81, .iload_n 1, 1), (82, .iconst 4, 1), (83, .if_icmp .ne 41, 3), (86, .aload_n 0, 1), (87, .iload_n 1, 1), (88, .ifCond .ne 7, 3), (91, .iconst 0, 1), (92, .goto 27, 3), (95, .aload_n 0, 1), (96, .getfield 99, 3), (99, .iload 9, 2), (101, .iaload, 1), (102, .iconst 2, 1), (103, .if_icmp .ge 15, 3), (106, .aload_n 0, 1), (107, .getfield 99, 3), (110, .iload 9, 2), (112, .iaload, 1), (113, .iconst 1, 1), (114, .iadd, 1), (115, .goto 4, 3), (118, .iconst 2, 1), (119, .iload 9, 2), (121, .invokevirtual 142, 3), (124, .iconst (-1), 1), (125, .istore 9, 2), (127, .iload 6, 2), (129, .iconst (-1), 1), (130, .if_icmp .ne 58, 3), (133, .aload_n 0, 1), (134, .iload_n 1, 1), (135, .iload 4, 2), (137, .invokevirtual 196, 3), (140, .istore 6, 2), (142, .iload 6, 2), (144, .iconst (-1), 1), (145, .if_icmp .ne 7, 3), (148, .iconst 0, 1), (149, .goto 11, 3), (152, .aload_n 0, 1), (153, .iload_n 1, 1), (154, .iload 6, 2), (156, .iload_n 2, 1), (157, .invokevirtual 199, 3), (160, .istore 7, 2), (162, .iload 6, 2), (164, .iconst (-1), 1), (165, .if_icmp .eq 20, 3), (168, .iload 5, 2), (170, .iconst (-1), 1), (171, .if_icmp .eq 14, 3), (174, .iload 5, 2), (176, .iload 6, 2), (178, .if_icmp .eq 7, 3), (181, .iload_n 3, 1), (182, .goto 4, 3), (185, .iconst 0, 1), (186, .istore 8, 2), (188, .iload 6, 2), (190, .iconst (-1), 1), (191, .if_icmp .eq 15, 3), (194, .iload_n 1, 1), (195, .bipush 8, 2), (197, .if_icmp .ne 9, 3), (200, .aload_n 0, 1), (201, .iload 6, 2), (203, .invokevirtual 203, 3), (206, .aload_n 0, 1), (207, .getfield 71, 3), (210, .iload 10, 2), (212, .iload 6, 2), (214, .iconst (-1), 1), (215, .if_icmp .ne 7, 3), (218, .iconst (-1), 1), (219, .goto 15, 3), (222, .iload 8, 2), (224, .ifCond .le 8, 3), (227, .bipush (-2), 2), (229, .goto 5, 3), (232, .iload 6, 2), (234, .iastore, 1), (235, .iload 6, 2), (237, .iconst (-1), 1), (238, .if_icmp .eq 14, 3), (241, .iload 8, 2), (243, .ifCond .le 9, 3), (246, .iinc 8 (-1), 3), (249, .goto 97, 3), (252, .iload 6, 2), (254, .iconst (-1), 1), (255, .if_icmp .eq 91, 3), (258, .aload_n 0, 1), (259, .getfield 74, 3), (262, .iload 6, 2), (264, .dup2, 1), (265, .iaload, 1), (266, .iconst 1, 1), (267, .isub, 1), (268, .iastore, 1), (269, .aload_n 0, 1), (270, .getfield 86, 3), (273, .iload 6, 2), (275, .dup2, 1), (276, .iaload, 1), (277, .sipush 2520, 3), (280, .aload_n 0, 1), (281, .getfield 19, 3), (284, .iload 6, 2), (286, .iaload, 1), (287, .idiv, 1), (288, .iadd, 1), (289, .iastore, 1), (290, .iload 6, 2), (292, .istore 5, 2), (294, .iinc 7 (-1), 3), (297, .aload_n 0, 1), (298, .getfield 74, 3), (301, .iload 6, 2), (303, .iaload, 1), (304, .ifCond .ne 30, 3), (307, .aload_n 0, 1), (308, .getfield 77, 3), (311, .iload 6, 2), (313, .iload 10, 2), (315, .iconst 1, 1), (316, .iadd, 1), (317, .iastore, 1), (318, .aload_n 0, 1), (319, .dup, 1), (320, .getfield 184, 3), (323, .iconst 1, 1), (324, .iadd, 1), (325, .putfield 184, 3), (328, .iconst (-1), 1), (329, .istore 6, 2), (331, .goto 15, 3), (334, .iload 7, 2), (336, .ifCond .ne 10, 3), (339, .iload 6, 2), (341, .istore 9, 2), (343, .iconst (-1), 1), (344, .istore 6, 2), (346, .iinc 10 1, 3), (349, .goto (-327), 3), (352, .aload_n 0, 1), (353, .iload 10, 2), (355, .putfield 207, 3), (358, .return_, 1)]
theorem dt_X12_runs : dkA cX12_runs tb_X12_runs = true := by decide +kernel
abbrev tb_X12_sumOfWork : List (Nat × Instr × Nat) := [(0, .iconst 0, 1), (1, .istore_n 1, 1), (2, .iconst 0, 1), (3, .istore_n 2, 1), (4, .iload_n 2, 1), (5, .aload_n 0, 1), (6, .getfield 108, 3), (9, .if_icmp .ge 18, 3), (12, .iload_n 1, 1), (13, .aload_n 0, 1), (14, .getfield 77, 3), (17, .iload_n 2, 1), (18, .iaload, 1), (19, .iadd, 1), (20, .istore_n 1, 1), (21, .iinc 2 1, 3), (24, .goto (-20), 3), (27, .iload_n 1, 1), (28, .ireturn, 1)]
theorem dt_X12_sumOfWork : dkA cX12_sumOfWork tb_X12_sumOfWork = true := by decide +kernel
abbrev tb_X12_run : List (Nat × Instr × Nat) := [(0, .iload_n 1, 1), (1, .iconst 0, 1), (2, .bipush 8, 2), (4, .invokestatic 111, 3), (7, .ifCond .ne 9, 3), (10, .aload_n 0, 1), (11, .iconst 1, 1), (12, .invokevirtual 119, 3), (15, .ireturn, 1), (16, .aload_n 0, 1), (17, .iload_n 1, 1), (18, .aload_n 0, 1), (19, .getfield 37, 3), (22, .aload_n 0, 1), (23, .getfield 132, 3), (26, .aload_n 0, 1), (27, .getfield 135, 3), (30, .invokevirtual 210, 3), (33, .aload_n 0, 1), (34, .aload_n 0, 1), (35, .getfield 207, 3), (38, .putfield 214, 3), (41, .iconst 0, 1), (42, .istore_n 2, 1), (43, .iload_n 2, 1), (44, .aload_n 0, 1), (45, .getfield 214, 3), (48, .if_icmp .ge 21, 3), (51, .aload_n 0, 1), (52, .getfield 56, 3), (55, .iload_n 2, 1), (56, .aload_n 0, 1), (57, .getfield 71, 3), (60, .iload_n 2, 1), (61, .iaload, 1), (62, .iastore, 1), (63, .iinc 2 1, 3), (66, .goto (-23), 3), (69, .iconst 0, 1), (70, .istore_n 2, 1), (71, .iload_n 2, 1), (72, .aload_n 0, 1), (73, .getfield 108, 3), (76, .if_icmp .ge 45, 3), (79, .aload_n 0, 1), (80, .getfield 59, 3), (83, .iload_n 2, 1), (84, .aload_n 0, 1), (85, .getfield 77, 3), (88, .iload_n 2, 1), (89, .iaload, 1), (90, .iastore, 1), (91, .aload_n 0, 1), (92, .getfield 62, 3), (95, .iload_n 2, 1), (96, .aload_n 0, 1), (97, .getfield 80, 3), (100, .iload_n 2, 1), (101, .iaload, 1), (102, .iastore, 1), (103, .aload_n 0, 1), (104, .getfield 65, 3), (107, .iload_n 2, 1), (108, .aload_n 0, 1), (109, .getfield 83, 3), (112, .iload_n 2, 1), (113, .iaload, 1), (114, .iastore, 1), (115, .iinc 2 1, 3), (118, .goto (-47), 3), (121, .aload_n 0, 1), (122, .iload_n 1, 1), (123, .putfield 68, 3), (126, .aload_n 0, 1), (127, .aload_n 0, 1), (128, .getfield 214, 3), (131, .invokevirtual 115, 3), (134, .ireturn, 1)]
theorem dt_X12_run : dkA cX12_run tb_X12_run = true := by decide +kernel
abbrev tb_X12_isRun : List (Nat × Instr × Nat) := [(0, .aload_n 0, 1), (1, .getfield 68, 3), (4, .iconst (-1), 1), (5, .if_icmp .eq 7, 3), (8, .iconst 1, 1), (9, .goto 4, 3), (12, .iconst 0, 1), (13, .ireturn, 1)]
theorem dt_X12_isRun : dkA cX12_isRun tb_X12_isRun = true := by decide +kernel
abbrev tb_X12_atMoment : List (Nat × Instr × Nat) := [(0, .iload_n 1, 1), (1, .aload_n 0, 1), (2, .getfield 214, 3), (5, .if_icmp .ge 12, 3), (8, .aload_n 0, 1), (9, .getfield 56, 3), (12, .iload_n 1, 1), (13, .iaload, 1), (14, .goto 4, 3), (17, .iconst (-1), 1), (18, .ireturn, 1)]
theorem dt_X12_atMoment : dkA cX12_atMoment tb_X12_atMoment = true := by decide +kernel
abbrev tb_X12_running : List (Nat × Instr × Nat) := [(0, .iload_n 1, 1), (1, .ifCond .ge 9, 3), (4, .aload_n 0, 1), (5, .iconst 1, 1), (6, .invokevirtual 119, 3), (9, .ireturn, 1), (10, .aload_n 0, 1), (11, .invokevirtual 217, 3), (14, .ifCond .eq 15, 3), (17, .aload_n 0, 1), (18, .aload_n 0, 1), (19, .iload_n 1, 1), (20, .invokevirtual 221, 3), (23, .invokevirtual 115, 3), (26, .goto 8, 3), (29, .aload_n 0, 1), (30, .iconst 2, 1), (31, .invokevirtual 119, 3), (34, .ireturn, 1)]
theorem dt_X12_running : dkA cX12_running tb_X12_running = true := by decide +kernel
abbrev tb_X12_leftOf : List (Nat × Instr × Nat) := [(0, .iconst 0, 1), (1, .istore_n 3, 1), (2, .iconst 0, 1), (3, .istore 4, 2), (5, .iload 4, 2), (7, .iload_n 2, 1), (8, .if_icmp .ge 37, 3), (11, .iload 4, 2), (13, .aload_n 0, 1), (14, .getfield 214, 3), (17, .if_icmp .ge 28, 3), (20, .iload_n 3, 1), (21, .aload_n 0, 1), (22, .getfield 56, 3), (25, .iload 4, 2), (27, .iaload, 1), (28, .iload_n 1, 1), (29, .if_icmp .ne 7, 3), (32, .iconst 1, 1), (33, .goto 4, 3), (36, .iconst 0, 1), (37, .iadd, 1), (38, .istore_n 3, 1), (39, .iinc 4 1, 3), (42, .goto (-37), 3), (45, .aload_n 0, 1), (46, .getfield 13, 3), (49, .iload_n 1, 1), (50, .iaload, 1), (51, .iload_n 3, 1), (52, .isub, 1), (53, .ireturn, 1)]
theorem dt_X12_leftOf : dkA cX12_leftOf tb_X12_leftOf = true := by decide +kernel
abbrev tb_X12_left : List (Nat × Instr × Nat) := [(0, .aload_n 0, 1), (1, .iload_n 1, 1), (2, .invokevirtual 125, 3), (5, .ifCond .ne 9, 3), (8, .aload_n 0, 1), (9, .iconst 1, 1), (10, .invokevirtual 119, 3), (13, .ireturn, 1), (14, .iload_n 2, 1), (15, .ifCond .ge 9, 3), (18, .aload_n 0, 1), (19, .iconst 2, 1), (20, .invokevirtual 119, 3), (23, .ireturn, 1), (24, .aload_n 0, 1), (25, .invokevirtual 217, 3), (28, .ifCond .eq 16, 3), (31, .aload_n 0, 1), (32, .aload_n 0, 1), (33, .iload_n 1, 1), (34, .iload_n 2, 1), (35, .invokevirtual 224, 3), (38, .invokevirtual 115, 3), (41, .goto 8, 3), (44, .aload_n 0, 1), (45, .iconst 3, 1), (46, .invokevirtual 119, 3), (49, .ireturn, 1)]
theorem dt_X12_left : dkA cX12_left tb_X12_left = true := by decide +kernel
abbrev tb_X12_work : List (Nat × Instr × Nat) := [(0, .iload_n 1, 1), (1, .ifCond .ge 9, 3), (4, .aload_n 0, 1), (5, .iconst 1, 1), (6, .invokevirtual 119, 3), (9, .ireturn, 1), (10, .aload_n 0, 1), (11, .invokevirtual 217, 3), (14, .ifCond .ne 9, 3), (17, .aload_n 0, 1), (18, .iconst 2, 1), (19, .invokevirtual 119, 3), (22, .ireturn, 1), (23, .iconst 0, 1), (24, .istore_n 2, 1), (25, .iconst 0, 1), (26, .istore_n 3, 1), (27, .iload_n 3, 1), (28, .aload_n 0, 1), (29, .getfield 108, 3), (32, .if_icmp .ge 32, 3), (35, .iload_n 2, 1), (36, .aload_n 0, 1), (37, .getfield 7, 3), (40, .iload_n 3, 1), (41, .iaload, 1), (42, .iload_n 1, 1), (43, .if_icmp .gt 12, 3), (46, .aload_n 0, 1), (47, .iload_n 3, 1), (48, .iload_n 1, 1), (49, .invokevirtual 224, 3), (52, .goto 4, 3), (55, .iconst 0, 1), (56, .iadd, 1), (57, .istore_n 2, 1), (58, .iinc 3 1, 3), (61, .goto (-34), 3), (64, .aload_n 0, 1), (65, .iload_n 2, 1), (66, .invokevirtual 115, 3), (69, .ireturn, 1)]
theorem dt_X12_work : dkA cX12_work tb_X12_work = true := by decide +kernel
abbrev tb_X12_end : List (Nat × Instr × Nat) := [(0, .aload_n 0, 1), (1, .iload_n 1, 1), (2, .invokevirtual 125, 3), (5, .ifCond .ne 9, 3), (8, .aload_n 0, 1), (9, .iconst 1, 1), (10, .invokevirtual 119, 3), (13, .ireturn, 1), (14, .aload_n 0, 1), (15, .invokevirtual 217, 3), (18, .ifCond .eq 16, 3), (21, .aload_n 0, 1), (22, .aload_n 0, 1), (23, .getfield 59, 3), (26, .iload_n 1, 1), (27, .iaload, 1), (28, .invokevirtual 115, 3), (31, .goto 8, 3), (34, .aload_n 0, 1), (35, .iconst 2, 1), (36, .invokevirtual 119, 3), (39, .ireturn, 1)]
theorem dt_X12_end : dkA cX12_end tb_X12_end = true := by decide +kernel
abbrev tb_X12_sumOf : List (Nat × Instr × Nat) := [(0, .iconst 0, 1), (1, .istore_n 1, 1), (2, .iconst 0, 1), (3, .istore_n 2, 1), (4, .iload_n 2, 1), (5, .aload_n 0, 1), (6, .getfield 108, 3), (9, .if_icmp .ge 18, 3), (12, .iload_n 1, 1), (13, .aload_n 0, 1), (14, .getfield 59, 3), (17, .iload_n 2, 1), (18, .iaload, 1), (19, .iadd, 1), (20, .istore_n 1, 1), (21, .iinc 2 1, 3), (24, .goto (-20), 3), (27, .iload_n 1, 1), (28, .ireturn, 1)]
theorem dt_X12_sumOf : dkA cX12_sumOf tb_X12_sumOf = true := by decide +kernel
abbrev tb_X12_sumOfEnds : List (Nat × Instr × Nat) := [(0, .aload_n 0, 1), (1, .invokevirtual 217, 3), (4, .ifCond .eq 14, 3), (7, .aload_n 0, 1), (8, .aload_n 0, 1), (9, .invokevirtual 228, 3), (12, .invokevirtual 115, 3), (15, .goto 8, 3), (18, .aload_n 0, 1), (19, .iconst 1, 1), (20, .invokevirtual 119, 3), (23, .ireturn, 1)]
theorem dt_X12_sumOfEnds : dkA cX12_sumOfEnds tb_X12_sumOfEnds = true := by decide +kernel
abbrev tb_X12_longest : List (Nat × Instr × Nat) := [(0, .iconst 0, 1), (1, .istore 4, 2), (3, .iload_n 3, 1), (4, .istore 5, 2), (6, .iload_n 3, 1), (7, .istore 6, 2), (9, .iload 6, 2), (11, .iload_n 1, 1), (12, .if_icmp .ge 45, 3), (15, .aload_n 0, 1), (16, .iload 6, 2), (18, .iaload, 1), (19, .iload_n 2, 1), (20, .if_icmp .ne 31, 3), (23, .iload 6, 2), (25, .iload 5, 2), (27, .isub, 1), (28, .iload 4, 2), (30, .if_icmp .le 11, 3), (33, .iload 6, 2), (35, .iload 5, 2), (37, .isub, 1), (38, .goto 5, 3), (41, .iload 4, 2), (43, .istore 4, 2), (45, .iload 6, 2), (47, .iconst 1, 1), (48, .iadd, 1), (49, .istore 5, 2), (51, .iinc 6 1, 3), (54, .goto (-45), 3), (57, .iload 4, 2), (59, .ireturn, 1)]
theorem dt_X12_longest : dkA cX12_longest tb_X12_longest = true := by decide +kernel
abbrev tb_X12_waits : List (Nat × Instr × Nat) := [(0, .aload_n 0, 1), (1, .iload_n 1, 1), (2, .invokevirtual 125, 3), (5, .ifCond .ne 9, 3), (8, .aload_n 0, 1), (9, .iconst 1, 1), (10, .invokevirtual 119, 3), (13, .ireturn, 1), (14, .aload_n 0, 1), (15, .invokevirtual 217, 3), (18, .ifCond .eq 28, 3), (21, .aload_n 0, 1), (22, .aload_n 0, 1), (23, .getfield 56, 3), (26, .aload_n 0, 1), (27, .getfield 214, 3), (30, .iload_n 1, 1), (31, .aload_n 0, 1), (32, .getfield 62, 3), (35, .iload_n 1, 1), (36, .iaload, 1), (37, .invokestatic 231, 3), (40, .invokevirtual 115, 3), (43, .goto 8, 3), (46, .aload_n 0, 1), (47, .iconst 2, 1), (48, .invokevirtual 119, 3), (51, .ireturn, 1)]
theorem dt_X12_waits : dkA cX12_waits tb_X12_waits = true := by decide +kernel
abbrev tb_X12_blocked : List (Nat × Instr × Nat) := [(0, .aload_n 0, 1), (1, .iload_n 1, 1), (2, .invokevirtual 125, 3), (5, .ifCond .ne 9, 3), (8, .aload_n 0, 1), (9, .iconst 1, 1), (10, .invokevirtual 119, 3), (13, .ireturn, 1), (14, .aload_n 0, 1), (15, .invokevirtual 217, 3), (18, .ifCond .eq 29, 3), (21, .aload_n 0, 1), (22, .aload_n 0, 1), (23, .getfield 68, 3), (26, .bipush 8, 2), (28, .if_icmp .ne 12, 3), (31, .aload_n 0, 1), (32, .getfield 65, 3), (35, .iload_n 1, 1), (36, .iaload, 1), (37, .goto 4, 3), (40, .iconst 0, 1), (41, .invokevirtual 115, 3), (44, .goto 8, 3), (47, .aload_n 0, 1), (48, .iconst 2, 1), (49, .invokevirtual 119, 3), (52, .ireturn, 1)]
theorem dt_X12_blocked : dkA cX12_blocked tb_X12_blocked = true := by decide +kernel
abbrev tb_X12_late : List (Nat × Instr × Nat) := [(0, .aload_n 0, 1), (1, .iload_n 1, 1), (2, .invokevirtual 125, 3), (5, .ifCond .ne 9, 3), (8, .aload_n 0, 1), (9, .iconst 1, 1), (10, .invokevirtual 119, 3), (13, .ireturn, 1), (14, .aload_n 0, 1), (15, .invokevirtual 217, 3), (18, .ifCond .ne 9, 3), (21, .aload_n 0, 1), (22, .iconst 2, 1), (23, .invokevirtual 119, 3), (26, .ireturn, 1), (27, .aload_n 0, 1), (28, .aload_n 0, 1), (29, .getfield 16, 3), (32, .iload_n 1, 1), (33, .iaload, 1), (34, .ifCond .eq 18, 3), (37, .aload_n 0, 1), (38, .getfield 59, 3), (41, .iload_n 1, 1), (42, .iaload, 1), (43, .aload_n 0, 1), (44, .getfield 16, 3), (47, .iload_n 1, 1), (48, .iaload, 1), (49, .if_icmp .gt 7, 3), (52, .iconst 0, 1), (53, .goto 16, 3), (56, .aload_n 0, 1), (57, .getfield 59, 3), (60, .iload_n 1, 1), (61, .iaload, 1), (62, .aload_n 0, 1), (63, .getfield 16, 3), (66, .iload_n 1, 1), (67, .iaload, 1), (68, .isub, 1), (69, .invokevirtual 115, 3), (72, .ireturn, 1)]
theorem dt_X12_late : dkA cX12_late tb_X12_late = true := by decide +kernel
abbrev tb_X12_common : List (Nat × Instr × Nat) := [(0, .lload_n 0, 1), (1, .lstore 4, 2), (3, .lload_n 2, 1), (4, .lstore 6, 2), (6, .lload 6, 2), (8, .lconst 0, 1), (9, .lcmp, 1), (10, .ifCond .eq 21, 3), (13, .lload 4, 2), (15, .lload 6, 2), (17, .lrem, 1), (18, .lstore 8, 2), (20, .lload 6, 2), (22, .lstore 4, 2), (24, .lload 8, 2), (26, .lstore 6, 2), (28, .goto (-22), 3), (31, .lload 4, 2), (33, .lreturn, 1)]
theorem dt_X12_common : dkA cX12_common tb_X12_common = true := by decide +kernel
abbrev tb_X12_slowest : List (Nat × Instr × Nat) := [(0, .aload_n 0, 1), (1, .invokevirtual 217, 3), (4, .ifCond .eq 10, 3), (7, .aload_n 0, 1), (8, .getfield 108, 3), (11, .ifCond .ne 9, 3), (14, .aload_n 0, 1), (15, .iconst 1, 1), (16, .invokevirtual 119, 3), (19, .ireturn, 1), (20, .iconst 0, 1), (21, .istore_n 2, 1), (22, .iconst 1, 1), (23, .istore_n 3, 1), (24, .iconst 0, 1), (25, .istore 4, 2), (27, .iload 4, 2), (29, .aload_n 0, 1), (30, .getfield 108, 3), (33, .if_icmp .ge 53, 3), (36, .aload_n 0, 1), (37, .getfield 59, 3), (40, .iload 4, 2), (42, .iaload, 1), (43, .aload_n 0, 1), (44, .getfield 7, 3), (47, .iload 4, 2), (49, .iaload, 1), (50, .isub, 1), (51, .istore 5, 2), (53, .iload 5, 2), (55, .iload_n 3, 1), (56, .imul, 1), (57, .iload_n 2, 1), (58, .aload_n 0, 1), (59, .getfield 13, 3), (62, .iload 4, 2), (64, .iaload, 1), (65, .imul, 1), (66, .if_icmp .le 14, 3), (69, .iload 5, 2), (71, .istore_n 2, 1), (72, .aload_n 0, 1), (73, .getfield 13, 3), (76, .iload 4, 2), (78, .iaload, 1), (79, .istore_n 3, 1), (80, .iinc 4 1, 3), (83, .goto (-56), 3), (86, .iload_n 2, 1), (87, .i2l, 1), (88, .iload_n 3, 1), (89, .i2l, 1), (90, .invokestatic 235, 3), (93, .l2i, 1), (94, .istore 4, 2), (96, .aload_n 0, 1), (97, .iload_n 1, 1), (98, .ifCond .eq 7, 3), (101, .iload_n 3, 1), (102, .goto 4, 3), (105, .iload_n 2, 1), (106, .iload 4, 2), (108, .idiv, 1), (109, .invokevirtual 115, 3), (112, .ireturn, 1)]
theorem dt_X12_slowest : dkA cX12_slowest tb_X12_slowest = true := by decide +kernel
abbrev tb_X12_busy : List (Nat × Instr × Nat) := [(0, .aload_n 0, 1), (1, .invokevirtual 217, 3), (4, .ifCond .ne 9, 3), (7, .aload_n 0, 1), (8, .iconst 1, 1), (9, .invokevirtual 119, 3), (12, .ireturn, 1), (13, .iconst 0, 1), (14, .istore_n 3, 1), (15, .iconst 0, 1), (16, .istore 4, 2), (18, .iload 4, 2), (20, .aload_n 0, 1), (21, .getfield 214, 3), (24, .if_icmp .ge 90, 3), (27, .aload_n 0, 1), (28, .getfield 56, 3), (31, .iload 4, 2), (33, .iaload, 1), (34, .iconst (-1), 1), (35, .if_icmp .eq 73, 3), (38, .iload 4, 2), (40, .ifCond .le 19, 3), (43, .aload_n 0, 1), (44, .getfield 56, 3), (47, .iload 4, 2), (49, .iconst 1, 1), (50, .isub, 1), (51, .iaload, 1), (52, .iconst (-1), 1), (53, .if_icmp .eq 6, 3), (56, .goto 52, 3), (59, .iload_n 3, 1), (60, .iload_n 1, 1), (61, .if_icmp .ne 44, 3), (64, .iload 4, 2), (66, .istore 5, 2), (68, .iload_n 2, 1), (69, .ifCond .eq 29, 3), (72, .iload 5, 2), (74, .aload_n 0, 1), (75, .getfield 214, 3), (78, .if_icmp .ge 20, 3), (81, .aload_n 0, 1), (82, .getfield 56, 3), (85, .iload 5, 2), (87, .iaload, 1), (88, .iconst (-1), 1), (89, .if_icmp .eq 9, 3), (92, .iinc 5 1, 3), (95, .goto (-27), 3), (98, .aload_n 0, 1), (99, .iload 5, 2), (101, .invokevirtual 115, 3), (104, .ireturn, 1), (105, .iinc 3 1, 3), (108, .iinc 4 1, 3), (111, .goto (-93), 3), (114, .iload_n 1, 1), (115, .iconst (-1), 1), (116, .if_icmp .ne 11, 3), (119, .aload_n 0, 1), (120, .iload_n 3, 1), (121, .invokevirtual 115, 3), (124, .goto 8, 3), (127, .aload_n 0, 1), (128, .iconst 2, 1), (129, .invokevirtual 119, 3), (132, .ireturn, 1)]
theorem dt_X12_busy : dkA cX12_busy tb_X12_busy = true := by decide +kernel
abbrev tb_X12_checksum : List (Nat × Instr × Nat) := [(0, .aload_n 0, 1), (1, .invokevirtual 217, 3), (4, .ifCond .ne 9, 3), (7, .aload_n 0, 1), (8, .iconst 1, 1), (9, .invokevirtual 119, 3), (12, .ireturn, 1), (13, .iconst 0, 1), (14, .istore_n 1, 1), (15, .iconst 0, 1), (16, .istore_n 2, 1), (17, .iload_n 2, 1), (18, .aload_n 0, 1), (19, .getfield 214, 3), (22, .if_icmp .ge 23, 3), (25, .bipush 31, 2), (27, .iload_n 1, 1), (28, .imul, 1), (29, .iconst 3, 1), (30, .iadd, 1), (31, .aload_n 0, 1), (32, .getfield 56, 3), (35, .iload_n 2, 1), (36, .iaload, 1), (37, .iadd, 1), (38, .istore_n 1, 1), (39, .iinc 2 1, 3), (42, .goto (-25), 3), (45, .aload_n 0, 1), (46, .iload_n 1, 1), (47, .invokevirtual 115, 3), (50, .ireturn, 1)]
theorem dt_X12_checksum : dkA cX12_checksum tb_X12_checksum = true := by decide +kernel
abbrev tb_X12_isLikeLatest : List (Nat × Instr × Nat) := [(0, .aload_n 0, 1), (1, .getfield 207, 3), (4, .aload_n 0, 1), (5, .getfield 214, 3), (8, .if_icmp .ne 7, 3), (11, .iconst 1, 1), (12, .goto 4, 3), (15, .iconst 0, 1), (16, .istore_n 1, 1), (17, .iconst 0, 1), (18, .istore_n 2, 1), (19, .iload_n 2, 1), (20, .aload_n 0, 1), (21, .getfield 214, 3), (24, .if_icmp .ge 34, 3), (27, .iload_n 1, 1), (28, .ifCond .eq 30, 3), (31, .aload_n 0, 1), (32, .getfield 71, 3), (35, .iload_n 2, 1), (36, .iaload, 1), (37, .aload_n 0, 1), (38, .getfield 56, 3), (41, .iload_n 2, 1), (42, .iaload, 1), (43, .if_icmp .ne 7, 3), (46, .iconst 1, 1), (47, .goto 4, 3), (50, .iconst 0, 1), (51, .istore_n 1, 1), (52, .iinc 2 1, 3), (55, .goto (-36), 3), (58, .iload_n 1, 1), (59, .ireturn, 1)]
theorem dt_X12_isLikeLatest : dkA cX12_isLikeLatest tb_X12_isLikeLatest = true := by decide +kernel
abbrev tb_X12_which : List (Nat × Instr × Nat) := [(0, .aload_n 0, 1), (1, .invokevirtual 217, 3), (4, .ifCond .ne 9, 3), (7, .aload_n 0, 1), (8, .iconst 1, 1), (9, .invokevirtual 119, 3), (12, .ireturn, 1), (13, .iconst 0, 1), (14, .istore_n 1, 1), (15, .iconst 0, 1), (16, .istore_n 2, 1), (17, .iload_n 2, 1), (18, .bipush 9, 2), (20, .if_icmp .ge 43, 3), (23, .aload_n 0, 1), (24, .iload_n 2, 1), (25, .aload_n 0, 1), (26, .getfield 37, 3), (29, .aload_n 0, 1), (30, .getfield 132, 3), (33, .aload_n 0, 1), (34, .getfield 135, 3), (37, .invokevirtual 210, 3), (40, .iload_n 1, 1), (41, .aload_n 0, 1), (42, .invokevirtual 239, 3), (45, .ifCond .eq 9, 3), (48, .iconst 1, 1), (49, .iload_n 2, 1), (50, .ishl, 1), (51, .goto 4, 3), (54, .iconst 0, 1), (55, .ior, 1), (56, .istore_n 1, 1), (57, .iinc 2 1, 3), (60, .goto (-43), 3), (63, .aload_n 0, 1), (64, .iload_n 1, 1), (65, .invokevirtual 115, 3), (68, .ireturn, 1)]
theorem dt_X12_which : dkA cX12_which tb_X12_which = true := by decide +kernel
abbrev tb_X12_best : List (Nat × Instr × Nat) := [(0, .iconst 1, 1), (1, .istore_n 1, 1), (2, .iconst (-1), 1), (3, .istore_n 2, 1), (4, .iconst 1, 1), (5, .istore_n 3, 1), (6, .iload_n 3, 1), (7, .bipush 20, 2), (9, .if_icmp .gt 45, 3), (12, .aload_n 0, 1), (13, .iconst 0, 1), (14, .iload_n 3, 1), (15, .aload_n 0, 1), (16, .getfield 132, 3), (19, .aload_n 0, 1), (20, .getfield 135, 3), (23, .invokevirtual 210, 3), (26, .aload_n 0, 1), (27, .invokevirtual 242, 3), (30, .istore 4, 2), (32, .iload_n 2, 1), (33, .iconst (-1), 1), (34, .if_icmp .eq 9, 3), (37, .iload 4, 2), (39, .iload_n 2, 1), (40, .if_icmp .ge 8, 3), (43, .iload 4, 2), (45, .istore_n 2, 1), (46, .iload_n 3, 1), (47, .istore_n 1, 1), (48, .iinc 3 1, 3), (51, .goto (-45), 3), (54, .aload_n 0, 1), (55, .iload_n 1, 1), (56, .invokevirtual 115, 3), (59, .ireturn, 1)]
theorem dt_X12_best : dkA cX12_best tb_X12_best = true := by decide +kernel
abbrev tb_X12_two : List (Nat × Instr × Nat) := [(0, .iload_n 1, 1), (1, .ifCond .eq 7, 3), (4, .iconst 3, 1), (5, .goto 5, 3), (8, .bipush 6, 2), (10, .istore_n 3, 1), (11, .aload_n 0, 1), (12, .invokevirtual 187, 3), (15, .iconst 0, 1), (16, .istore 4, 2), (18, .aload_n 0, 1), (19, .getfield 184, 3), (22, .aload_n 0, 1), (23, .getfield 108, 3), (26, .if_icmp .ge 102, 3), (29, .aload_n 0, 1), (30, .iload_n 3, 1), (31, .iload 4, 2), (33, .invokevirtual 193, 3), (36, .aload_n 0, 1), (37, .iload_n 3, 1), (38, .iconst 0, 1), (39, .invokevirtual 196, 3), (42, .istore 5, 2), (44, .iload 5, 2), (46, .iconst (-1), 1), (47, .if_icmp .ne 7, 3), (50, .iconst 0, 1), (51, .goto 10, 3), (54, .aload_n 0, 1), (55, .getfield 74, 3), (58, .iload 5, 2), (60, .iaload, 1), (61, .istore 6, 2), (63, .iload 5, 2), (65, .iconst (-1), 1), (66, .if_icmp .eq 11, 3), (69, .aload_n 0, 1), (70, .getfield 74, 3), (73, .iload 5, 2), (75, .iconst 0, 1), (76, .iastore, 1), (77, .aload_n 0, 1), (78, .iload_n 3, 1), (79, .iconst 0, 1), (80, .invokevirtual 196, 3), (83, .istore 7, 2), (85, .iload 5, 2), (87, .iconst (-1), 1), (88, .if_icmp .eq 20, 3), (91, .aload_n 0, 1), (92, .getfield 74, 3), (95, .iload 5, 2), (97, .iload 6, 2), (99, .iastore, 1), (100, .aload_n 0, 1), (101, .iload 5, 2), (103, .iload 4, 2), (105, .invokevirtual 245, 3), (108, .iload 7, 2), (110, .iconst (-1), 1), (111, .if_icmp .eq 11, 3), (114, .aload_n 0, 1), (115, .iload 7, 2), (117, .iload 4, 2), (119, .invokevirtual 245, 3), (122, .iinc 4 1, 3), (125, .goto (-107), 3), (128, .iconst 0, 1), (129, .istore 4, 2), (131, .iconst 0, 1), (132, .istore 5, 2), (134, .iload 5, 2), (136, .aload_n 0, 1), (137, .getfield 108, 3), (140, .if_icmp .ge 60, 3), (143, .iload 4, 2), (145, .iload_n 2, 1), (146, .ifCond .ne 13, 3), (149, .aload_n 0, 1), (150, .getfield 77, 3), (153, .iload 5, 2), (155, .iaload, 1), (156, .goto 35, 3), (159, .aload_n 0, 1), (160, .getfield 16, 3), (163, .iload 5, 2), (165, .iaload, 1), (166, .ifCond .le 24, 3), (169, .aload_n 0, 1), (170, .getfield 77, 3), (173, .iload 5, 2), (175, .iaload, 1), (176, .aload_n 0, 1), (177, .getfield 16, 3), (180, .iload 5, 2), (182, .iaload, 1), (183, .if_icmp .le 7, 3), (186, .iconst 1, 1), (187, .goto 4, 3), (190, .iconst 0, 1), (191, .iadd, 1), (192, .istore 4, 2), (194, .iinc 5 1, 3), (197, .goto (-63), 3), (200, .aload_n 0, 1), (201, .iload 4, 2), (203, .invokevirtual 115, 3), (206, .ireturn, 1)]
theorem dt_X12_two : dkA cX12_two tb_X12_two = true := by decide +kernel
abbrev tb_X12_works : List (Nat × Instr × Nat) := [(0, .aload_n 0, 1), (1, .getfield 74, 3), (4, .iload_n 1, 1), (5, .dup2, 1), (6, .iaload, 1), (7, .iconst 1, 1), (8, .isub, 1), (9, .iastore, 1), (10, .aload_n 0, 1), (11, .getfield 74, 3), (14, .iload_n 1, 1), (15, .iaload, 1), (16, .ifCond .ne 22, 3), (19, .aload_n 0, 1), (20, .getfield 77, 3), (23, .iload_n 1, 1), (24, .iload_n 2, 1), (25, .iconst 1, 1), (26, .iadd, 1), (27, .iastore, 1), (28, .aload_n 0, 1), (29, .dup, 1), (30, .getfield 184, 3), (33, .iconst 1, 1), (34, .iadd, 1), (35, .putfield 184, 3), (38, .return_, 1)]
theorem dt_X12_works : dkA cX12_works tb_X12_works = true := by decide +kernel
abbrev tb_X12_isAnyWaiting : List (Nat × Instr × Nat) := [(0, .iconst 0, 1), (1, .istore_n 1, 1), (2, .iconst 0, 1), (3, .istore_n 2, 1), (4, .iload_n 2, 1), (5, .aload_n 0, 1), (6, .getfield 108, 3), (9, .if_icmp .ge 28, 3), (12, .iload_n 1, 1), (13, .ifCond .ne 12, 3), (16, .aload_n 0, 1), (17, .getfield 22, 3), (20, .iload_n 2, 1), (21, .iaload, 1), (22, .ifCond .eq 7, 3), (25, .iconst 1, 1), (26, .goto 4, 3), (29, .iconst 0, 1), (30, .istore_n 1, 1), (31, .iinc 2 1, 3), (34, .goto (-30), 3), (37, .iload_n 1, 1), (38, .ireturn, 1)]
theorem dt_X12_isAnyWaiting : dkA cX12_isAnyWaiting tb_X12_isAnyWaiting = true := by decide +kernel
abbrev tb_X12_areKept : List (Nat × Instr × Nat) := [(0, .iconst 1, 1), (1, .istore_n 1, 1), (2, .iconst 0, 1), (3, .istore_n 2, 1), (4, .iload_n 2, 1), (5, .aload_n 0, 1), (6, .getfield 108, 3), (9, .if_icmp .ge 43, 3), (12, .iload_n 1, 1), (13, .ifCond .eq 31, 3), (16, .aload_n 0, 1), (17, .getfield 16, 3), (20, .iload_n 2, 1), (21, .iaload, 1), (22, .ifCond .eq 18, 3), (25, .aload_n 0, 1), (26, .getfield 77, 3), (29, .iload_n 2, 1), (30, .iaload, 1), (31, .aload_n 0, 1), (32, .getfield 16, 3), (35, .iload_n 2, 1), (36, .iaload, 1), (37, .if_icmp .gt 7, 3), (40, .iconst 1, 1), (41, .goto 4, 3), (44, .iconst 0, 1), (45, .istore_n 1, 1), (46, .iinc 2 1, 3), (49, .goto (-45), 3), (52, .iload_n 1, 1), (53, .ireturn, 1)]
theorem dt_X12_areKept : dkA cX12_areKept tb_X12_areKept = true := by decide +kernel
abbrev tb_X12_isFeasible : List (Nat × Instr × Nat) := [(0, .aload_n 0, 1), (1, .invokevirtual 248, 3), (4, .ifCond .eq 9, 3), (7, .aload_n 0, 1), (8, .iconst 1, 1), (9, .invokevirtual 251, 3), (12, .ireturn, 1), (13, .aload_n 0, 1), (14, .iconst 0, 1), (15, .putfield 105, 3), (18, .aload_n 0, 1), (19, .bipush 6, 2), (21, .aload_n 0, 1), (22, .getfield 37, 3), (25, .iconst 0, 1), (26, .aload_n 0, 1), (27, .getfield 135, 3), (30, .invokevirtual 210, 3), (33, .aload_n 0, 1), (34, .invokevirtual 254, 3), (37, .ireturn, 1)]
theorem dt_X12_isFeasible : dkA cX12_isFeasible tb_X12_isFeasible = true := by decide +kernel
abbrev tb_X12_workWithin : List (Nat × Instr × Nat) := [(0, .iconst 0, 1), (1, .istore_n 3, 1), (2, .iconst 0, 1), (3, .istore 4, 2), (5, .iload 4, 2), (7, .aload_n 0, 1), (8, .getfield 108, 3), (11, .if_icmp .ge 55, 3), (14, .iload_n 3, 1), (15, .aload_n 0, 1), (16, .getfield 7, 3), (19, .iload 4, 2), (21, .iaload, 1), (22, .iload_n 1, 1), (23, .if_icmp .lt 34, 3), (26, .aload_n 0, 1), (27, .getfield 16, 3), (30, .iload 4, 2), (32, .iaload, 1), (33, .ifCond .le 24, 3), (36, .aload_n 0, 1), (37, .getfield 16, 3), (40, .iload 4, 2), (42, .iaload, 1), (43, .iload_n 2, 1), (44, .if_icmp .gt 13, 3), (47, .aload_n 0, 1), (48, .getfield 13, 3), (51, .iload 4, 2), (53, .iaload, 1), (54, .goto 4, 3), (57, .iconst 0, 1), (58, .iadd, 1), (59, .istore_n 3, 1), (60, .iinc 4 1, 3), (63, .goto (-58), 3), (66, .iload_n 3, 1), (67, .ireturn, 1)]
theorem dt_X12_workWithin : dkA cX12_workWithin tb_X12_workWithin = true := by decide +kernel
abbrev tb_X12_isAnyFull : List (Nat × Instr × Nat) := [(0, .iconst 0, 1), (1, .istore_n 1, 1), (2, .iload_n 1, 1), (3, .sipush 400, 3), (6, .if_icmp .gt 48, 3), (9, .iload_n 1, 1), (10, .istore_n 2, 1), (11, .iload_n 2, 1), (12, .sipush 400, 3), (15, .if_icmp .gt 33, 3), (18, .aload_n 0, 1), (19, .iload_n 1, 1), (20, .iload_n 2, 1), (21, .invokevirtual 257, 3), (24, .iload_n 2, 1), (25, .iload_n 1, 1), (26, .isub, 1), (27, .if_icmp .le 15, 3), (30, .aload_n 0, 1), (31, .iload_n 1, 1), (32, .putfield 260, 3), (35, .aload_n 0, 1), (36, .iload_n 2, 1), (37, .putfield 263, 3), (40, .iconst 1, 1), (41, .ireturn, 1), (42, .iinc 2 1, 3), (45, .goto (-34), 3), (48, .iinc 1 1, 3), (51, .goto (-49), 3), (54, .iconst 0, 1), (55, .ireturn, 1)]
theorem dt_X12_isAnyFull : dkA cX12_isAnyFull tb_X12_isAnyFull = true := by decide +kernel
abbrev tb_X12_full : List (Nat × Instr × Nat) := [(0, .iload_n 1, 1), (1, .iconst 0, 1), (2, .iconst 2, 1), (3, .invokestatic 111, 3), (6, .ifCond .ne 9, 3), (9, .aload_n 0, 1), (10, .iconst 1, 1), (11, .invokevirtual 119, 3), (14, .ireturn, 1), (15, .aload_n 0, 1), (16, .invokevirtual 266, 3), (19, .ifCond .ne 9, 3), (22, .aload_n 0, 1), (23, .iconst (-1), 1), (24, .invokevirtual 115, 3), (27, .ireturn, 1), (28, .aload_n 0, 1), (29, .iload_n 1, 1), (30, .ifCond .ne 10, 3), (33, .aload_n 0, 1), (34, .getfield 260, 3), (37, .goto 27, 3), (40, .iload_n 1, 1), (41, .iconst 1, 1), (42, .if_icmp .ne 10, 3), (45, .aload_n 0, 1), (46, .getfield 263, 3), (49, .goto 15, 3), (52, .aload_n 0, 1), (53, .aload_n 0, 1), (54, .getfield 260, 3), (57, .aload_n 0, 1), (58, .getfield 263, 3), (61, .invokevirtual 257, 3), (64, .invokevirtual 115, 3), (67, .ireturn, 1)]
theorem dt_X12_full : dkA cX12_full tb_X12_full = true := by decide +kernel
abbrev tb_X12_task : List (Nat × Instr × Nat) := [(0, .iload_n 1, 1), (1, .iconst 1, 1), (2, .bipush 60, 2), (4, .invokestatic 111, 3), (7, .ifCond .eq 27, 3), (10, .iload_n 2, 1), (11, .iconst 1, 1), (12, .bipush 30, 2), (14, .invokestatic 111, 3), (17, .ifCond .eq 17, 3), (20, .iload_n 2, 1), (21, .iload_n 1, 1), (22, .if_icmp .gt 12, 3), (25, .iload_n 3, 1), (26, .iload_n 2, 1), (27, .iload_n 1, 1), (28, .invokestatic 111, 3), (31, .ifCond .ne 9, 3), (34, .aload_n 0, 1), (35, .iconst 1, 1), (36, .invokevirtual 119, 3), (39, .ireturn, 1), (40, .aload_n 0, 1), (41, .getfield 269, 3), (44, .iconst 5, 1), (45, .if_icmp .ne 9, 3), (48, .aload_n 0, 1), (49, .iconst 2, 1), (50, .invokevirtual 119, 3), (53, .ireturn, 1), (54, .aload_n 0, 1), (55, .getfield 47, 3), (58, .aload_n 0, 1), (59, .getfield 269, 3), (62, .iload_n 1, 1), (63, .iastore, 1), (64, .aload_n 0, 1), (65, .getfield 50, 3), (68, .aload_n 0, 1), (69, .getfield 269, 3), (72, .iload_n 2, 1), (73, .iastore, 1), (74, .aload_n 0, 1), (75, .getfield 53, 3), (78, .aload_n 0, 1), (79, .getfield 269, 3), (82, .iload_n 3, 1), (83, .iastore, 1), (84, .aload_n 0, 1), (85, .dup, 1), (86, .getfield 269, 3), (89, .iconst 1, 1), (90, .iadd, 1), (91, .putfield 269, 3), (94, .aload_n 0, 1), (95, .aload_n 0, 1), (96, .getfield 269, 3), (99, .iconst 1, 1), (100, .isub, 1), (101, .invokevirtual 115, 3), (104, .ireturn, 1)]
theorem dt_X12_task : dkA cX12_task tb_X12_task = true := by decide +kernel
abbrev tb_X12_load : List (Nat × Instr × Nat) := [(0, .aload_n 0, 1), (1, .iconst 0, 1), (2, .putfield 105, 3), (5, .lconst 0, 1), (6, .lstore_n 2, 1), (7, .lconst 1, 1), (8, .lstore 4, 2), (10, .iconst 0, 1), (11, .istore 6, 2), (13, .iload 6, 2), (15, .aload_n 0, 1), (16, .getfield 269, 3), (19, .if_icmp .ge 45, 3), (22, .lload_n 2, 1), (23, .aload_n 0, 1), (24, .getfield 47, 3), (27, .iload 6, 2), (29, .iaload, 1), (30, .i2l, 1), (31, .lmul, 1), (32, .lload 4, 2), (34, .aload_n 0, 1), (35, .getfield 50, 3), (38, .iload 6, 2), (40, .iaload, 1), (41, .i2l, 1), (42, .lmul, 1), (43, .ladd, 1), (44, .lstore_n 2, 1), (45, .lload 4, 2), (47, .aload_n 0, 1), (48, .getfield 47, 3), (51, .iload 6, 2), (53, .iaload, 1), (54, .i2l, 1), (55, .lmul, 1), (56, .lstore 4, 2), (58, .iinc 6 1, 3), (61, .goto (-48), 3), (64, .lload_n 2, 1), (65, .lload 4, 2), (67, .invokestatic 235, 3), (70, .lstore 6, 2), (72, .iload_n 1, 1), (73, .ifCond .eq 8, 3), (76, .lload 4, 2), (78, .goto 4, 3), (81, .lload_n 2, 1), (82, .lload 6, 2), (84, .ldiv, 1), (85, .lreturn, 1)]
theorem dt_X12_load : dkA cX12_load tb_X12_load = true := by decide +kernel
abbrev tb_X12_response : List (Nat × Instr × Nat) := [(0, .iload_n 1, 1), (1, .iconst 0, 1), (2, .aload_n 0, 1), (3, .getfield 269, 3), (6, .iconst 1, 1), (7, .isub, 1), (8, .invokestatic 111, 3), (11, .ifCond .ne 9, 3), (14, .aload_n 0, 1), (15, .iconst 1, 1), (16, .invokevirtual 119, 3), (19, .ireturn, 1), (20, .iconst 1, 1), (21, .istore_n 2, 1), (22, .iload_n 2, 1), (23, .aload_n 0, 1), (24, .getfield 53, 3), (27, .iload_n 1, 1), (28, .iaload, 1), (29, .if_icmp .gt 129, 3), (32, .aload_n 0, 1), (33, .getfield 50, 3), (36, .iload_n 1, 1), (37, .iaload, 1), (38, .istore_n 3, 1), (39, .iconst 0, 1), (40, .istore 4, 2), (42, .iload 4, 2), (44, .aload_n 0, 1), (45, .getfield 269, 3), (48, .if_icmp .ge 93, 3), (51, .aload_n 0, 1), (52, .getfield 53, 3), (55, .iload 4, 2), (57, .iaload, 1), (58, .aload_n 0, 1), (59, .getfield 53, 3), (62, .iload_n 1, 1), (63, .iaload, 1), (64, .if_icmp .lt 25, 3), (67, .aload_n 0, 1), (68, .getfield 53, 3), (71, .iload 4, 2), (73, .iaload, 1), (74, .aload_n 0, 1), (75, .getfield 53, 3), (78, .iload_n 1, 1), (79, .iaload, 1), (80, .if_icmp .ne 13, 3), (83, .iload 4, 2), (85, .iload_n 1, 1), (86, .if_icmp .ge 7, 3), (89, .iconst 1, 1), (90, .goto 4, 3), (93, .iconst 0, 1), (94, .istore 5, 2), (96, .iload_n 3, 1), (97, .iload 5, 2), (99, .ifCond .eq 33, 3), (102, .aload_n 0, 1), (103, .getfield 50, 3), (106, .iload 4, 2), (108, .iaload, 1), (109, .iload_n 2, 1), (110, .aload_n 0, 1), (111, .getfield 47, 3), (114, .iload 4, 2), (116, .iaload, 1), (117, .iadd, 1), (118, .iconst 1, 1), (119, .isub, 1), (120, .aload_n 0, 1), (121, .getfield 47, 3), (124, .iload 4, 2), (126, .iaload, 1), (127, .idiv, 1), (128, .imul, 1), (129, .goto 4, 3), (132, .iconst 0, 1), (133, .iadd, 1), (134, .istore_n 3, 1), (135, .iinc 4 1, 3), (138, .goto (-96), 3), (141, .iload_n 3, 1), (142, .iload_n 2, 1), (143, .if_icmp .ne 9, 3), (146, .aload_n 0, 1), (147, .iload_n 2, 1), (148, .invokevirtual 115, 3), (151, .ireturn, 1), (152, .iinc 2 1, 3), (155, .goto (-133), 3), (158, .aload_n 0, 1), (159, .iconst (-1), 1), (160, .invokevirtual 115, 3), (163, .ireturn, 1)]
theorem dt_X12_response : dkA cX12_response tb_X12_response = true := by decide +kernel
abbrev tb_X12_meanEnd : List (Nat × Instr × Nat) := [(0, .aload_n 0, 1), (1, .aload_n 0, 1), (2, .invokevirtual 217, 3), (5, .ifCond .eq 7, 3), (8, .iconst 0, 1), (9, .goto 4, 3), (12, .iconst 1, 1), (13, .putfield 105, 3), (16, .aload_n 0, 1), (17, .getfield 105, 3), (20, .ifCond .ne 10, 3), (23, .aload_n 0, 1), (24, .getfield 108, 3), (27, .ifCond .ne 7, 3), (30, .dconst 0, 1), (31, .goto 14, 3), (34, .aload_n 0, 1), (35, .invokevirtual 228, 3), (38, .i2d, 1), (39, .aload_n 0, 1), (40, .getfield 108, 3), (43, .i2d, 1), (44, .ddiv, 1), (45, .dreturn, 1)]
theorem dt_X12_meanEnd : dkA cX12_meanEnd tb_X12_meanEnd = true := by decide +kernel
abbrev tb_X12_workShare : List (Nat × Instr × Nat) := [(0, .aload_n 0, 1), (1, .aload_n 0, 1), (2, .invokevirtual 217, 3), (5, .ifCond .eq 7, 3), (8, .iconst 0, 1), (9, .goto 4, 3), (12, .iconst 1, 1), (13, .putfield 105, 3), (16, .iconst 0, 1), (17, .istore_n 1, 1), (18, .iconst 0, 1), (19, .istore_n 2, 1), (20, .aload_n 0, 1), (21, .getfield 105, 3), (24, .ifCond .ne 34, 3), (27, .iload_n 2, 1), (28, .aload_n 0, 1), (29, .getfield 214, 3), (32, .if_icmp .ge 26, 3), (35, .iload_n 1, 1), (36, .aload_n 0, 1), (37, .getfield 56, 3), (40, .iload_n 2, 1), (41, .iaload, 1), (42, .ifCond .lt 7, 3), (45, .iconst 1, 1), (46, .goto 4, 3), (49, .iconst 0, 1), (50, .iadd, 1), (51, .istore_n 1, 1), (52, .iinc 2 1, 3), (55, .goto (-35), 3), (58, .aload_n 0, 1), (59, .getfield 105, 3), (62, .ifCond .ne 10, 3), (65, .aload_n 0, 1), (66, .getfield 214, 3), (69, .ifCond .ne 7, 3), (72, .fconst 0, 1), (73, .goto 11, 3), (76, .iload_n 1, 1), (77, .i2f, 1), (78, .aload_n 0, 1), (79, .getfield 214, 3), (82, .i2f, 1), (83, .fdiv, 1), (84, .freturn, 1)]
theorem dt_X12_workShare : dkA cX12_workShare tb_X12_workShare = true := by decide +kernel
abbrev tb_X12_isLikeBusy : List (Nat × Instr × Nat) := [(0, .aload_n 0, 1), (1, .getfield 207, 3), (4, .aload_n 0, 1), (5, .getfield 272, 3), (8, .if_icmp .ne 7, 3), (11, .iconst 1, 1), (12, .goto 4, 3), (15, .iconst 0, 1), (16, .istore_n 1, 1), (17, .iconst 0, 1), (18, .istore_n 2, 1), (19, .iload_n 2, 1), (20, .aload_n 0, 1), (21, .getfield 207, 3), (24, .if_icmp .ge 43, 3), (27, .iload_n 1, 1), (28, .ifCond .eq 39, 3), (31, .aload_n 0, 1), (32, .getfield 71, 3), (35, .iload_n 2, 1), (36, .iaload, 1), (37, .iconst (-1), 1), (38, .if_icmp .eq 7, 3), (41, .iconst 1, 1), (42, .goto 4, 3), (45, .iconst 0, 1), (46, .aload_n 0, 1), (47, .getfield 102, 3), (50, .iload_n 2, 1), (51, .baload, 1), (52, .if_icmp .ne 7, 3), (55, .iconst 1, 1), (56, .goto 4, 3), (59, .iconst 0, 1), (60, .istore_n 1, 1), (61, .iinc 2 1, 3), (64, .goto (-45), 3), (67, .iload_n 1, 1), (68, .ireturn, 1)]
theorem dt_X12_isLikeBusy : dkA cX12_isLikeBusy tb_X12_isLikeBusy = true := by decide +kernel
abbrev tb_X12_longestFor : List (Nat × Instr × Nat) := [(0, .iconst 0, 1), (1, .istore_n 3, 1), (2, .iconst 0, 1), (3, .istore 4, 2), (5, .iload 4, 2), (7, .aload_n 0, 1), (8, .getfield 108, 3), (11, .if_icmp .ge 85, 3), (14, .iconst 3, 1), (15, .iload 4, 2), (17, .imul, 1), (18, .istore 5, 2), (20, .iload 5, 2), (22, .iconst 3, 1), (23, .iload 4, 2), (25, .imul, 1), (26, .aload_n 0, 1), (27, .getfield 25, 3), (30, .iload 4, 2), (32, .iaload, 1), (33, .iadd, 1), (34, .if_icmp .ge 56, 3), (37, .aload_n 0, 1), (38, .getfield 34, 3), (41, .iload 5, 2), (43, .iaload, 1), (44, .aload_n 0, 1), (45, .getfield 31, 3), (48, .iload 5, 2), (50, .iaload, 1), (51, .isub, 1), (52, .istore 6, 2), (54, .iload 4, 2), (56, .iload_n 2, 1), (57, .if_icmp .eq 25, 3), (60, .aload_n 0, 1), (61, .getfield 28, 3), (64, .iload 5, 2), (66, .iaload, 1), (67, .iload_n 1, 1), (68, .if_icmp .ne 14, 3), (71, .iload 6, 2), (73, .iload_n 3, 1), (74, .if_icmp .le 8, 3), (77, .iload 6, 2), (79, .goto 4, 3), (82, .iload_n 3, 1), (83, .istore_n 3, 1), (84, .iinc 5 1, 3), (87, .goto (-67), 3), (90, .iinc 4 1, 3), (93, .goto (-88), 3), (96, .iload_n 3, 1), (97, .ireturn, 1)]
theorem dt_X12_longestFor : dkA cX12_longestFor tb_X12_longestFor = true := by decide +kernel
abbrev tb_X12_lentErrors : List (Nat × Instr × Nat) := [(0, .iconst 0, 1), (1, .istore_n 1, 1), (2, .aload_n 0, 1), (3, .bipush 8, 2), (5, .aload_n 0, 1), (6, .getfield 37, 3), (9, .iconst 0, 1), (10, .iconst 1, 1), (11, .invokevirtual 210, 3), (14, .iconst 0, 1), (15, .istore_n 2, 1), (16, .iload_n 2, 1), (17, .aload_n 0, 1), (18, .getfield 108, 3), (21, .if_icmp .ge 130, 3), (24, .iconst 1, 1), (25, .istore_n 3, 1), (26, .iconst 0, 1), (27, .istore 4, 2), (29, .iload 4, 2), (31, .aload_n 0, 1), (32, .getfield 108, 3), (35, .if_icmp .ge 41, 3), (38, .iload_n 3, 1), (39, .ifCond .eq 29, 3), (42, .iload 4, 2), (44, .iload_n 2, 1), (45, .if_icmp .eq 19, 3), (48, .aload_n 0, 1), (49, .getfield 19, 3), (52, .iload 4, 2), (54, .iaload, 1), (55, .aload_n 0, 1), (56, .getfield 19, 3), (59, .iload_n 2, 1), (60, .iaload, 1), (61, .if_icmp .ge 7, 3), (64, .iconst 1, 1), (65, .goto 4, 3), (68, .iconst 0, 1), (69, .istore_n 3, 1), (70, .iinc 4 1, 3), (73, .goto (-44), 3), (76, .iconst 0, 1), (77, .istore 4, 2), (79, .iconst 3, 1), (80, .iload_n 2, 1), (81, .imul, 1), (82, .istore 5, 2), (84, .iload 5, 2), (86, .iconst 3, 1), (87, .iload_n 2, 1), (88, .imul, 1), (89, .aload_n 0, 1), (90, .getfield 25, 3), (93, .iload_n 2, 1), (94, .iaload, 1), (95, .iadd, 1), (96, .if_icmp .ge 26, 3), (99, .iload 4, 2), (101, .aload_n 0, 1), (102, .aload_n 0, 1), (103, .getfield 28, 3), (106, .iload 5, 2), (108, .iaload, 1), (109, .iload_n 2, 1), (110, .invokevirtual 275, 3), (113, .iadd, 1), (114, .istore 4, 2), (116, .iinc 5 1, 3), (119, .goto (-35), 3), (122, .iload_n 1, 1), (123, .iload_n 3, 1), (124, .ifCond .eq 18, 3), (127, .aload_n 0, 1), (128, .getfield 83, 3), (131, .iload_n 2, 1), (132, .iaload, 1), (133, .iload 4, 2), (135, .if_icmp .le 7, 3), (138, .iconst 1, 1), (139, .goto 4, 3), (142, .iconst 0, 1), (143, .iadd, 1), (144, .istore_n 1, 1), (145, .iinc 2 1, 3), (148, .goto (-132), 3), (151, .iload_n 1, 1), (152, .ireturn, 1)]
theorem dt_X12_lentErrors : dkA cX12_lentErrors tb_X12_lentErrors = true := by decide +kernel
abbrev tb_X12_errors : List (Nat × Instr × Nat) := [(0, .iconst 0, 1), (1, .istore_n 1, 1), (2, .aload_n 0, 1), (3, .invokevirtual 248, 3), (6, .ifCond .ne 7, 3), (9, .iconst 1, 1), (10, .goto 4, 3), (13, .iconst 0, 1), (14, .istore_n 2, 1), (15, .aload_n 0, 1), (16, .iconst 3, 1), (17, .aload_n 0, 1), (18, .getfield 37, 3), (21, .iconst 0, 1), (22, .aload_n 0, 1), (23, .getfield 135, 3), (26, .invokevirtual 210, 3), (29, .aload_n 0, 1), (30, .invokevirtual 242, 3), (33, .istore_n 3, 1), (34, .aload_n 0, 1), (35, .aload_n 0, 1), (36, .getfield 207, 3), (39, .putfield 272, 3), (42, .iconst 0, 1), (43, .istore 4, 2), (45, .iload 4, 2), (47, .aload_n 0, 1), (48, .getfield 207, 3), (51, .if_icmp .ge 32, 3), (54, .aload_n 0, 1), (55, .getfield 102, 3), (58, .iload 4, 2), (60, .aload_n 0, 1), (61, .getfield 71, 3), (64, .iload 4, 2), (66, .iaload, 1), (67, .iconst (-1), 1), (68, .if_icmp .eq 7, 3), (71, .iconst 1, 1), (72, .goto 4, 3), (75, .iconst 0, 1), (76, .bastore, 1), (77, .iinc 4 1, 3), (80, .goto (-35), 3), (83, .iconst 0, 1), (84, .istore 4, 2), (86, .iconst 0, 1), (87, .istore 5, 2), (89, .iconst 0, 1), (90, .istore 6, 2), (92, .iload 6, 2), (94, .bipush 9, 2), (96, .if_icmp .ge 177, 3), (99, .aload_n 0, 1), (100, .iload 6, 2), (102, .aload_n 0, 1), (103, .getfield 37, 3), (106, .iconst 0, 1), (107, .aload_n 0, 1), (108, .getfield 135, 3), (111, .invokevirtual 210, 3), (114, .iload_n 1, 1), (115, .aload_n 0, 1), (116, .invokevirtual 278, 3), (119, .ifCond .eq 7, 3), (122, .iconst 0, 1), (123, .goto 4, 3), (126, .iconst 1, 1), (127, .iadd, 1), (128, .istore_n 1, 1), (129, .iload_n 1, 1), (130, .iload_n 2, 1), (131, .ifCond .eq 15, 3), (134, .aload_n 0, 1), (135, .invokevirtual 242, 3), (138, .iload_n 3, 1), (139, .if_icmp .ge 7, 3), (142, .iconst 1, 1), (143, .goto 4, 3), (146, .iconst 0, 1), (147, .iadd, 1), (148, .istore_n 1, 1), (149, .iload 4, 2), (151, .ifCond .ne 10, 3), (154, .aload_n 0, 1), (155, .invokevirtual 254, 3), (158, .ifCond .eq 7, 3), (161, .iconst 1, 1), (162, .goto 4, 3), (165, .iconst 0, 1), (166, .istore 4, 2), (168, .iload 6, 2), (170, .bipush 6, 2), (172, .if_icmp .ne 10, 3), (175, .aload_n 0, 1), (176, .invokevirtual 254, 3), (179, .goto 5, 3), (182, .iload 5, 2), (184, .istore 5, 2), (186, .iconst 0, 1), (187, .istore 7, 2), (189, .iload 7, 2), (191, .aload_n 0, 1), (192, .getfield 108, 3), (195, .if_icmp .ge 72, 3), (198, .iload 6, 2), (200, .ifCond .ne 67, 3), (203, .iconst 0, 1), (204, .istore 8, 2), (206, .aload_n 0, 1), (207, .getfield 71, 3), (210, .iload 8, 2), (212, .iaload, 1), (213, .iload 7, 2), (215, .if_icmp .eq 9, 3), (218, .iinc 8 1, 3), (221, .goto (-15), 3), (224, .iload_n 1, 1), (225, .aload_n 0, 1), (226, .getfield 71, 3), (229, .aload_n 0, 1), (230, .getfield 207, 3), (233, .iload 7, 2), (235, .iload 8, 2), (237, .invokestatic 231, 3), (240, .aload_n 0, 1), (241, .getfield 108, 3), (244, .iconst 1, 1), (245, .isub, 1), (246, .aload_n 0, 1), (247, .getfield 37, 3), (250, .imul, 1), (251, .if_icmp .le 7, 3), (254, .iconst 1, 1), (255, .goto 4, 3), (258, .iconst 0, 1), (259, .iadd, 1), (260, .istore_n 1, 1), (261, .iinc 7 1, 3), (264, .goto (-75), 3), (267, .iinc 6 1, 3), (270, .goto (-178), 3), (273, .iload_n 1, 1), (274, .iload_n 2, 1), (275, .ifCond .eq 17, 3), (278, .iload 4, 2), (280, .ifCond .eq 12, 3), (283, .iload 5, 2), (285, .ifCond .ne 7, 3), (288, .iconst 1, 1), (289, .goto 4, 3), (292, .iconst 0, 1), (293, .iadd, 1), (294, .istore_n 1, 1), (295, .iload_n 1, 1), (296, .iload_n 2, 1), (297, .ifCond .eq 16, 3), (300, .iload 5, 2), (302, .aload_n 0, 1), (303, .invokevirtual 266, 3), (306, .if_icmp .ne 7, 3), (309, .iconst 1, 1), (310, .goto 4, 3), (313, .iconst 0, 1), (314, .iadd, 1), (315, .istore_n 1, 1), (316, .aload_n 0, 1), (317, .iload_n 1, 1), (318, .aload_n 0, 1), (319, .invokevirtual 281, 3), (322, .iadd, 1), (323, .invokevirtual 115, 3), (326, .ireturn, 1)]
theorem dt_X12_errors : dkA cX12_errors tb_X12_errors = true := by decide +kernel
abbrev tb_L_job : List (Nat × Instr × Nat) := [(0, .aload 5, 2), (2, .iconst 0, 1), (3, .aload_n 0, 1), (4, .iload_n 1, 1), (5, .iload_n 2, 1), (6, .iload_n 3, 1), (7, .iload 4, 2), (9, .invokevirtual 7, 3), (12, .i2l, 1), (13, .lastore, 1), (14, .goto 11, 3), (17, .astore 6, 2), (19, .iconst 1, 1), (20, .ireturn, 1), (21, .astore 6, 2), (23, .iconst 2, 1), (24, .ireturn, 1), (25, .iconst 0, 1), (26, .ireturn, 1)]
theorem dt_L_job : dkA cL_job tb_L_job = true := by decide +kernel
abbrev tb_L_after : List (Nat × Instr × Nat) := [(0, .aload_n 3, 1), (1, .iconst 0, 1), (2, .aload_n 0, 1), (3, .iload_n 1, 1), (4, .iload_n 2, 1), (5, .invokevirtual 17, 3), (8, .i2l, 1), (9, .lastore, 1), (10, .goto 11, 3), (13, .astore 4, 2), (15, .iconst 1, 1), (16, .ireturn, 1), (17, .astore 4, 2), (19, .iconst 2, 1), (20, .ireturn, 1), (21, .iconst 0, 1), (22, .ireturn, 1)]
theorem dt_L_after : dkA cL_after tb_L_after = true := by decide +kernel
abbrev tb_L_lock : List (Nat × Instr × Nat) := [(0, .aload 5, 2), (2, .iconst 0, 1), (3, .aload_n 0, 1), (4, .iload_n 1, 1), (5, .iload_n 2, 1), (6, .iload_n 3, 1), (7, .iload 4, 2), (9, .invokevirtual 23, 3), (12, .i2l, 1), (13, .lastore, 1), (14, .goto 15, 3), (17, .astore 6, 2), (19, .iconst 1, 1), (20, .ireturn, 1), (21, .astore 6, 2), (23, .iconst 2, 1), (24, .ireturn, 1), (25, .astore 6, 2), (27, .iconst 3, 1), (28, .ireturn, 1), (29, .iconst 0, 1), (30, .ireturn, 1)]
theorem dt_L_lock : dkA cL_lock tb_L_lock = true := by decide +kernel
abbrev tb_L_turns : List (Nat × Instr × Nat) := [(0, .aload 6, 2), (2, .iconst 0, 1), (3, .aload_n 0, 1), (4, .iload_n 1, 1), (5, .iload_n 2, 1), (6, .iload_n 3, 1), (7, .iload 4, 2), (9, .iload 5, 2), (11, .invokevirtual 26, 3), (14, .i2l, 1), (15, .lastore, 1), (16, .goto 7, 3), (19, .astore 7, 2), (21, .iconst 1, 1), (22, .ireturn, 1), (23, .iconst 0, 1), (24, .ireturn, 1)]
theorem dt_L_turns : dkA cL_turns tb_L_turns = true := by decide +kernel
abbrev tb_L_run : List (Nat × Instr × Nat) := [(0, .aload_n 2, 1), (1, .iconst 0, 1), (2, .aload_n 0, 1), (3, .iload_n 1, 1), (4, .invokevirtual 30, 3), (7, .i2l, 1), (8, .lastore, 1), (9, .goto 6, 3), (12, .astore_n 3, 1), (13, .iconst 1, 1), (14, .ireturn, 1), (15, .iconst 0, 1), (16, .ireturn, 1)]
theorem dt_L_run : dkA cL_run tb_L_run = true := by decide +kernel
abbrev tb_L_running : List (Nat × Instr × Nat) := [(0, .aload_n 2, 1), (1, .iconst 0, 1), (2, .aload_n 0, 1), (3, .iload_n 1, 1), (4, .invokevirtual 34, 3), (7, .i2l, 1), (8, .lastore, 1), (9, .goto 9, 3), (12, .astore_n 3, 1), (13, .iconst 1, 1), (14, .ireturn, 1), (15, .astore_n 3, 1), (16, .iconst 2, 1), (17, .ireturn, 1), (18, .iconst 0, 1), (19, .ireturn, 1)]
theorem dt_L_running : dkA cL_running tb_L_running = true := by decide +kernel
abbrev tb_L_left : List (Nat × Instr × Nat) := [(0, .aload_n 3, 1), (1, .iconst 0, 1), (2, .aload_n 0, 1), (3, .iload_n 1, 1), (4, .iload_n 2, 1), (5, .invokevirtual 37, 3), (8, .i2l, 1), (9, .lastore, 1), (10, .goto 15, 3), (13, .astore 4, 2), (15, .iconst 1, 1), (16, .ireturn, 1), (17, .astore 4, 2), (19, .iconst 2, 1), (20, .ireturn, 1), (21, .astore 4, 2), (23, .iconst 3, 1), (24, .ireturn, 1), (25, .iconst 0, 1), (26, .ireturn, 1)]
theorem dt_L_left : dkA cL_left tb_L_left = true := by decide +kernel
abbrev tb_L_work : List (Nat × Instr × Nat) := [(0, .aload_n 2, 1), (1, .iconst 0, 1), (2, .aload_n 0, 1), (3, .iload_n 1, 1), (4, .invokevirtual 40, 3), (7, .i2l, 1), (8, .lastore, 1), (9, .goto 9, 3), (12, .astore_n 3, 1), (13, .iconst 1, 1), (14, .ireturn, 1), (15, .astore_n 3, 1), (16, .iconst 2, 1), (17, .ireturn, 1), (18, .iconst 0, 1), (19, .ireturn, 1)]
theorem dt_L_work : dkA cL_work tb_L_work = true := by decide +kernel
abbrev tb_L_end : List (Nat × Instr × Nat) := [(0, .aload_n 2, 1), (1, .iconst 0, 1), (2, .aload_n 0, 1), (3, .iload_n 1, 1), (4, .invokevirtual 43, 3), (7, .i2l, 1), (8, .lastore, 1), (9, .goto 9, 3), (12, .astore_n 3, 1), (13, .iconst 1, 1), (14, .ireturn, 1), (15, .astore_n 3, 1), (16, .iconst 2, 1), (17, .ireturn, 1), (18, .iconst 0, 1), (19, .ireturn, 1)]
theorem dt_L_end : dkA cL_end tb_L_end = true := by decide +kernel
abbrev tb_L_sumOfEnds : List (Nat × Instr × Nat) := [(0, .aload_n 1, 1), (1, .iconst 0, 1), (2, .aload_n 0, 1), (3, .invokevirtual 46, 3), (6, .i2l, 1), (7, .lastore, 1), (8, .goto 6, 3), (11, .astore_n 2, 1), (12, .iconst 1, 1), (13, .ireturn, 1), (14, .iconst 0, 1), (15, .ireturn, 1)]
theorem dt_L_sumOfEnds : dkA cL_sumOfEnds tb_L_sumOfEnds = true := by decide +kernel
abbrev tb_L_waits : List (Nat × Instr × Nat) := [(0, .aload_n 2, 1), (1, .iconst 0, 1), (2, .aload_n 0, 1), (3, .iload_n 1, 1), (4, .invokevirtual 50, 3), (7, .i2l, 1), (8, .lastore, 1), (9, .goto 9, 3), (12, .astore_n 3, 1), (13, .iconst 1, 1), (14, .ireturn, 1), (15, .astore_n 3, 1), (16, .iconst 2, 1), (17, .ireturn, 1), (18, .iconst 0, 1), (19, .ireturn, 1)]
theorem dt_L_waits : dkA cL_waits tb_L_waits = true := by decide +kernel
abbrev tb_L_blocked : List (Nat × Instr × Nat) := [(0, .aload_n 2, 1), (1, .iconst 0, 1), (2, .aload_n 0, 1), (3, .iload_n 1, 1), (4, .invokevirtual 53, 3), (7, .i2l, 1), (8, .lastore, 1), (9, .goto 9, 3), (12, .astore_n 3, 1), (13, .iconst 1, 1), (14, .ireturn, 1), (15, .astore_n 3, 1), (16, .iconst 2, 1), (17, .ireturn, 1), (18, .iconst 0, 1), (19, .ireturn, 1)]
theorem dt_L_blocked : dkA cL_blocked tb_L_blocked = true := by decide +kernel
abbrev tb_L_late : List (Nat × Instr × Nat) := [(0, .aload_n 2, 1), (1, .iconst 0, 1), (2, .aload_n 0, 1), (3, .iload_n 1, 1), (4, .invokevirtual 56, 3), (7, .i2l, 1), (8, .lastore, 1), (9, .goto 9, 3), (12, .astore_n 3, 1), (13, .iconst 1, 1), (14, .ireturn, 1), (15, .astore_n 3, 1), (16, .iconst 2, 1), (17, .ireturn, 1), (18, .iconst 0, 1), (19, .ireturn, 1)]
theorem dt_L_late : dkA cL_late tb_L_late = true := by decide +kernel
abbrev tb_L_slowest : List (Nat × Instr × Nat) := [(0, .aload_n 2, 1), (1, .iconst 0, 1), (2, .aload_n 0, 1), (3, .iload_n 1, 1), (4, .invokevirtual 59, 3), (7, .i2l, 1), (8, .lastore, 1), (9, .goto 6, 3), (12, .astore_n 3, 1), (13, .iconst 1, 1), (14, .ireturn, 1), (15, .iconst 0, 1), (16, .ireturn, 1)]
theorem dt_L_slowest : dkA cL_slowest tb_L_slowest = true := by decide +kernel
abbrev tb_L_busy : List (Nat × Instr × Nat) := [(0, .aload_n 3, 1), (1, .iconst 0, 1), (2, .aload_n 0, 1), (3, .iload_n 1, 1), (4, .iload_n 2, 1), (5, .invokevirtual 63, 3), (8, .i2l, 1), (9, .lastore, 1), (10, .goto 11, 3), (13, .astore 4, 2), (15, .iconst 1, 1), (16, .ireturn, 1), (17, .astore 4, 2), (19, .iconst 2, 1), (20, .ireturn, 1), (21, .iconst 0, 1), (22, .ireturn, 1)]
theorem dt_L_busy : dkA cL_busy tb_L_busy = true := by decide +kernel
abbrev tb_L_checksum : List (Nat × Instr × Nat) := [(0, .aload_n 1, 1), (1, .iconst 0, 1), (2, .aload_n 0, 1), (3, .invokevirtual 69, 3), (6, .i2l, 1), (7, .lastore, 1), (8, .goto 6, 3), (11, .astore_n 2, 1), (12, .iconst 1, 1), (13, .ireturn, 1), (14, .iconst 0, 1), (15, .ireturn, 1)]
theorem dt_L_checksum : dkA cL_checksum tb_L_checksum = true := by decide +kernel
abbrev tb_L_which : List (Nat × Instr × Nat) := [(0, .aload_n 1, 1), (1, .iconst 0, 1), (2, .aload_n 0, 1), (3, .invokevirtual 72, 3), (6, .i2l, 1), (7, .lastore, 1), (8, .goto 6, 3), (11, .astore_n 2, 1), (12, .iconst 1, 1), (13, .ireturn, 1), (14, .iconst 0, 1), (15, .ireturn, 1)]
theorem dt_L_which : dkA cL_which tb_L_which = true := by decide +kernel
abbrev tb_L_isFeasible : List (Nat × Instr × Nat) := [(0, .aload_n 1, 1), (1, .iconst 0, 1), (2, .aload_n 0, 1), (3, .invokevirtual 75, 3), (6, .ifCond .eq 7, 3), (9, .lconst 1, 1), (10, .goto 4, 3), (13, .lconst 0, 1), (14, .lastore, 1), (15, .goto 6, 3), (18, .astore_n 2, 1), (19, .iconst 1, 1), (20, .ireturn, 1), (21, .iconst 0, 1), (22, .ireturn, 1)]
theorem dt_L_isFeasible : dkA cL_isFeasible tb_L_isFeasible = true := by decide +kernel
abbrev tb_L_full : List (Nat × Instr × Nat) := [(0, .aload_n 2, 1), (1, .iconst 0, 1), (2, .aload_n 0, 1), (3, .iload_n 1, 1), (4, .invokevirtual 79, 3), (7, .i2l, 1), (8, .lastore, 1), (9, .goto 6, 3), (12, .astore_n 3, 1), (13, .iconst 1, 1), (14, .ireturn, 1), (15, .iconst 0, 1), (16, .ireturn, 1)]
theorem dt_L_full : dkA cL_full tb_L_full = true := by decide +kernel
abbrev tb_L_task : List (Nat × Instr × Nat) := [(0, .aload 4, 2), (2, .iconst 0, 1), (3, .aload_n 0, 1), (4, .iload_n 1, 1), (5, .iload_n 2, 1), (6, .iload_n 3, 1), (7, .invokevirtual 82, 3), (10, .i2l, 1), (11, .lastore, 1), (12, .goto 11, 3), (15, .astore 5, 2), (17, .iconst 1, 1), (18, .ireturn, 1), (19, .astore 5, 2), (21, .iconst 2, 1), (22, .ireturn, 1), (23, .iconst 0, 1), (24, .ireturn, 1)]
theorem dt_L_task : dkA cL_task tb_L_task = true := by decide +kernel
abbrev tb_L_response : List (Nat × Instr × Nat) := [(0, .aload_n 2, 1), (1, .iconst 0, 1), (2, .aload_n 0, 1), (3, .iload_n 1, 1), (4, .invokevirtual 86, 3), (7, .i2l, 1), (8, .lastore, 1), (9, .goto 6, 3), (12, .astore_n 3, 1), (13, .iconst 1, 1), (14, .ireturn, 1), (15, .iconst 0, 1), (16, .ireturn, 1)]
theorem dt_L_response : dkA cL_response tb_L_response = true := by decide +kernel
abbrev tb_L_meanEnd : List (Nat × Instr × Nat) := [(0, .aload_n 1, 1), (1, .iconst 0, 1), (2, .aload_n 0, 1), (3, .invokevirtual 89, 3), (6, .dastore, 1), (7, .goto 6, 3), (10, .astore_n 2, 1), (11, .iconst 1, 1), (12, .ireturn, 1), (13, .iconst 0, 1), (14, .ireturn, 1)]
theorem dt_L_meanEnd : dkA cL_meanEnd tb_L_meanEnd = true := by decide +kernel
abbrev tb_L_workShare : List (Nat × Instr × Nat) := [(0, .aload_n 1, 1), (1, .iconst 0, 1), (2, .aload_n 0, 1), (3, .invokevirtual 93, 3), (6, .f2d, 1), (7, .dastore, 1), (8, .goto 6, 3), (11, .astore_n 2, 1), (12, .iconst 1, 1), (13, .ireturn, 1), (14, .iconst 0, 1), (15, .ireturn, 1)]
theorem dt_L_workShare : dkA cL_workShare tb_L_workShare = true := by decide +kernel
end
section
theorem wI_L : Cond.initialized RL ∈ TS := tsm 66 (by decide +kernel) rfl
theorem wI_X11 : Cond.initialized RX11 ∈ TS := tsm 67 (by decide +kernel) rfl
theorem wI_X1 : Cond.initialized RX1 ∈ TS := tsm 68 (by decide +kernel) rfl
theorem wI_X7 : Cond.initialized RX7 ∈ TS := tsm 69 (by decide +kernel) rfl
theorem wI_X8 : Cond.initialized RX8 ∈ TS := tsm 70 (by decide +kernel) rfl
theorem wI_X9 : Cond.initialized RX9 ∈ TS := tsm 71 (by decide +kernel) rfl
theorem wI_X10 : Cond.initialized RX10 ∈ TS := tsm 72 (by decide +kernel) rfl
theorem wI_X2 : Cond.initialized RX2 ∈ TS := tsm 73 (by decide +kernel) rfl
theorem wI_X3 : Cond.initialized RX3 ∈ TS := tsm 74 (by decide +kernel) rfl
theorem wI_X6 : Cond.initialized RX6 ∈ TS := tsm 75 (by decide +kernel) rfl
theorem wI_X0 : Cond.initialized RX0 ∈ TS := tsm 76 (by decide +kernel) rfl
theorem wI_X4 : Cond.initialized RX4 ∈ TS := tsm 77 (by decide +kernel) rfl
theorem wI_X5 : Cond.initialized RX5 ∈ TS := tsm 78 (by decide +kernel) rfl
theorem wI_X12 : Cond.initialized RX12 ∈ TS := tsm 79 (by decide +kernel) rfl
theorem wL_L_8 : Cond.classLink RL 8 "Slicehouse" ∈ TS := tsm 89 (by decide +kernel) rfl
theorem wM_L_97 : Cond.methodLink RL 97 yX11_init ∈ TS := tsm 91 (by decide +kernel) rfl
theorem wM_X11_1 : Cond.methodLink RX11 1 ⟨"java/lang/Object", "<init>", "()V"⟩ ∈ TS := tsm 94 (by decide +kernel) rfl
theorem wL_X11_7 : Cond.classLink RX11 7 "Slicehouse$Jobs" ∈ TS := tsm 97 (by decide +kernel) rfl
theorem wM_X1_3 : Cond.methodLink RX1 3 ⟨"java/lang/Object", "<init>", "()V"⟩ ∈ TS := tsm 102 (by decide +kernel) rfl
theorem wL_X1_9 : Cond.classLink RX1 9 "Slicehouse$Row" ∈ TS := tsm 103 (by decide +kernel) rfl
theorem wM_X1_11 : Cond.methodLink RX1 11 yX7_init ∈ TS := tsm 105 (by decide +kernel) rfl
theorem wM_X7_1 : Cond.methodLink RX7 1 ⟨"java/lang/Object", "<init>", "()V"⟩ ∈ TS := tsm 108 (by decide +kernel) rfl
theorem wF_X7_7 : Cond.fieldLink RX7 7 "Slicehouse$Row" "cells" "[I" ∈ TS := tsm 109 (by decide +kernel) rfl
theorem wF_X1_14 : Cond.fieldLink RX1 14 "Slicehouse$Jobs" "comes" "LSlicehouse$Row;" ∈ TS := tsm 114 (by decide +kernel) rfl
theorem wF_X6_56 : Cond.fieldLink RX6 56 "Slicehouse$Jobs" "comes" "LSlicehouse$Row;" ∈ TS := tsm 115 (by decide +kernel) rfl
theorem wF_X11_146 : Cond.fieldLink RX11 146 "Slicehouse$Jobs" "comes" "LSlicehouse$Row;" ∈ TS := tsm 116 (by decide +kernel) rfl
theorem wF_X10_212 : Cond.fieldLink RX10 212 "Slicehouse$Jobs" "comes" "LSlicehouse$Row;" ∈ TS := tsm 117 (by decide +kernel) rfl
theorem wF_X1_20 : Cond.fieldLink RX1 20 "Slicehouse$Jobs" "lengths" "LSlicehouse$Row;" ∈ TS := tsm 118 (by decide +kernel) rfl
theorem wF_X6_45 : Cond.fieldLink RX6 45 "Slicehouse$Jobs" "lengths" "LSlicehouse$Row;" ∈ TS := tsm 119 (by decide +kernel) rfl
theorem wF_X0_36 : Cond.fieldLink RX0 36 "Slicehouse$Jobs" "lengths" "LSlicehouse$Row;" ∈ TS := tsm 120 (by decide +kernel) rfl
theorem wF_X11_87 : Cond.fieldLink RX11 87 "Slicehouse$Jobs" "lengths" "LSlicehouse$Row;" ∈ TS := tsm 121 (by decide +kernel) rfl
theorem wF_X10_215 : Cond.fieldLink RX10 215 "Slicehouse$Jobs" "lengths" "LSlicehouse$Row;" ∈ TS := tsm 122 (by decide +kernel) rfl
theorem wF_X1_23 : Cond.fieldLink RX1 23 "Slicehouse$Jobs" "deadlines" "LSlicehouse$Row;" ∈ TS := tsm 123 (by decide +kernel) rfl
theorem wF_X6_65 : Cond.fieldLink RX6 65 "Slicehouse$Jobs" "deadlines" "LSlicehouse$Row;" ∈ TS := tsm 124 (by decide +kernel) rfl
theorem wF_X1_26 : Cond.fieldLink RX1 26 "Slicehouse$Jobs" "deadlineKeys" "LSlicehouse$Row;" ∈ TS := tsm 125 (by decide +kernel) rfl
theorem wF_X5_62 : Cond.fieldLink RX5 62 "Slicehouse$Jobs" "deadlineKeys" "LSlicehouse$Row;" ∈ TS := tsm 126 (by decide +kernel) rfl
theorem wF_X10_218 : Cond.fieldLink RX10 218 "Slicehouse$Jobs" "deadlineKeys" "LSlicehouse$Row;" ∈ TS := tsm 127 (by decide +kernel) rfl
theorem wF_X1_29 : Cond.fieldLink RX1 29 "Slicehouse$Jobs" "weights" "LSlicehouse$Row;" ∈ TS := tsm 128 (by decide +kernel) rfl
theorem wF_X4_57 : Cond.fieldLink RX4 57 "Slicehouse$Jobs" "weights" "LSlicehouse$Row;" ∈ TS := tsm 129 (by decide +kernel) rfl
theorem wF_X10_205 : Cond.fieldLink RX10 205 "Slicehouse$Jobs" "weights" "LSlicehouse$Row;" ∈ TS := tsm 130 (by decide +kernel) rfl
theorem wF_X1_32 : Cond.fieldLink RX1 32 "Slicehouse$Jobs" "waitsFor" "LSlicehouse$Row;" ∈ TS := tsm 131 (by decide +kernel) rfl
theorem wF_X6_59 : Cond.fieldLink RX6 59 "Slicehouse$Jobs" "waitsFor" "LSlicehouse$Row;" ∈ TS := tsm 132 (by decide +kernel) rfl
theorem wF_X1_35 : Cond.fieldLink RX1 35 "Slicehouse$Jobs" "stretchCounts" "LSlicehouse$Row;" ∈ TS := tsm 133 (by decide +kernel) rfl
theorem wF_X11_100 : Cond.fieldLink RX11 100 "Slicehouse$Jobs" "stretchCounts" "LSlicehouse$Row;" ∈ TS := tsm 134 (by decide +kernel) rfl
theorem wF_X1_38 : Cond.fieldLink RX1 38 "Slicehouse$Jobs" "stretchLocks" "LSlicehouse$Row;" ∈ TS := tsm 135 (by decide +kernel) rfl
theorem wF_X1_41 : Cond.fieldLink RX1 41 "Slicehouse$Jobs" "stretchFroms" "LSlicehouse$Row;" ∈ TS := tsm 136 (by decide +kernel) rfl
theorem wF_X1_44 : Cond.fieldLink RX1 44 "Slicehouse$Jobs" "stretchTos" "LSlicehouse$Row;" ∈ TS := tsm 137 (by decide +kernel) rfl
theorem wF_X1_47 : Cond.fieldLink RX1 47 "Slicehouse$Jobs" "count" "I" ∈ TS := tsm 138 (by decide +kernel) rfl
theorem wF_X4_37 : Cond.fieldLink RX4 37 "Slicehouse$Jobs" "count" "I" ∈ TS := tsm 139 (by decide +kernel) rfl
theorem wF_X6_40 : Cond.fieldLink RX6 40 "Slicehouse$Jobs" "count" "I" ∈ TS := tsm 140 (by decide +kernel) rfl
theorem wF_X11_65 : Cond.fieldLink RX11 65 "Slicehouse$Jobs" "count" "I" ∈ TS := tsm 141 (by decide +kernel) rfl
theorem wF_X5_43 : Cond.fieldLink RX5 43 "Slicehouse$Jobs" "count" "I" ∈ TS := tsm 142 (by decide +kernel) rfl
theorem wF_X10_150 : Cond.fieldLink RX10 150 "Slicehouse$Jobs" "count" "I" ∈ TS := tsm 143 (by decide +kernel) rfl
theorem wL_X11_16 : Cond.classLink RX11 16 "Slicehouse$Tasks" ∈ TS := tsm 167 (by decide +kernel) rfl
theorem wM_X8_3 : Cond.methodLink RX8 3 ⟨"java/lang/Object", "<init>", "()V"⟩ ∈ TS := tsm 172 (by decide +kernel) rfl
theorem wL_X8_9 : Cond.classLink RX8 9 "Slicehouse$Row" ∈ TS := tsm 173 (by decide +kernel) rfl
theorem wM_X8_11 : Cond.methodLink RX8 11 yX7_init ∈ TS := tsm 174 (by decide +kernel) rfl
theorem wF_X8_14 : Cond.fieldLink RX8 14 "Slicehouse$Tasks" "periods" "LSlicehouse$Row;" ∈ TS := tsm 175 (by decide +kernel) rfl
theorem wF_X11_216 : Cond.fieldLink RX11 216 "Slicehouse$Tasks" "periods" "LSlicehouse$Row;" ∈ TS := tsm 176 (by decide +kernel) rfl
theorem wF_X8_20 : Cond.fieldLink RX8 20 "Slicehouse$Tasks" "lengths" "LSlicehouse$Row;" ∈ TS := tsm 177 (by decide +kernel) rfl
theorem wF_X11_219 : Cond.fieldLink RX11 219 "Slicehouse$Tasks" "lengths" "LSlicehouse$Row;" ∈ TS := tsm 178 (by decide +kernel) rfl
theorem wF_X8_23 : Cond.fieldLink RX8 23 "Slicehouse$Tasks" "deadlines" "LSlicehouse$Row;" ∈ TS := tsm 179 (by decide +kernel) rfl
theorem wF_X11_220 : Cond.fieldLink RX11 220 "Slicehouse$Tasks" "deadlines" "LSlicehouse$Row;" ∈ TS := tsm 180 (by decide +kernel) rfl
theorem wF_X8_26 : Cond.fieldLink RX8 26 "Slicehouse$Tasks" "count" "I" ∈ TS := tsm 181 (by decide +kernel) rfl
theorem wF_X11_212 : Cond.fieldLink RX11 212 "Slicehouse$Tasks" "count" "I" ∈ TS := tsm 182 (by decide +kernel) rfl
theorem wL_X11_23 : Cond.classLink RX11 23 "Slicehouse$Ways" ∈ TS := tsm 192 (by decide +kernel) rfl
theorem wM_X9_1 : Cond.methodLink RX9 1 ⟨"java/lang/Object", "<init>", "()V"⟩ ∈ TS := tsm 197 (by decide +kernel) rfl
theorem wF_X9_7 : Cond.fieldLink RX9 7 "Slicehouse$Ways" "slice" "I" ∈ TS := tsm 198 (by decide +kernel) rfl
theorem wF_X11_106 : Cond.fieldLink RX11 106 "Slicehouse$Ways" "slice" "I" ∈ TS := tsm 199 (by decide +kernel) rfl
theorem wF_X9_13 : Cond.fieldLink RX9 13 "Slicehouse$Ways" "change" "I" ∈ TS := tsm 200 (by decide +kernel) rfl
theorem wF_X11_109 : Cond.fieldLink RX11 109 "Slicehouse$Ways" "change" "I" ∈ TS := tsm 201 (by decide +kernel) rfl
theorem wF_X9_16 : Cond.fieldLink RX9 16 "Slicehouse$Ways" "rise" "I" ∈ TS := tsm 202 (by decide +kernel) rfl
theorem wF_X10_124 : Cond.fieldLink RX10 124 "Slicehouse$Ways" "rise" "I" ∈ TS := tsm 203 (by decide +kernel) rfl
theorem wF_X11_112 : Cond.fieldLink RX11 112 "Slicehouse$Ways" "rise" "I" ∈ TS := tsm 204 (by decide +kernel) rfl
theorem wF_X9_19 : Cond.fieldLink RX9 19 "Slicehouse$Ways" "seed" "I" ∈ TS := tsm 205 (by decide +kernel) rfl
theorem wF_X10_121 : Cond.fieldLink RX10 121 "Slicehouse$Ways" "seed" "I" ∈ TS := tsm 206 (by decide +kernel) rfl
theorem wF_X11_115 : Cond.fieldLink RX11 115 "Slicehouse$Ways" "seed" "I" ∈ TS := tsm 207 (by decide +kernel) rfl
theorem wF_X9_22 : Cond.fieldLink RX9 22 "Slicehouse$Ways" "lending" "Z" ∈ TS := tsm 208 (by decide +kernel) rfl
theorem wF_X11_118 : Cond.fieldLink RX11 118 "Slicehouse$Ways" "lending" "Z" ∈ TS := tsm 209 (by decide +kernel) rfl
theorem wL_X11_30 : Cond.classLink RX11 30 "Slicehouse$Worker" ∈ TS := tsm 221 (by decide +kernel) rfl
theorem wM_X11_32 : Cond.methodLink RX11 32 yX10_init ∈ TS := tsm 223 (by decide +kernel) rfl
theorem wM_X10_3 : Cond.methodLink RX10 3 ⟨"java/lang/Object", "<init>", "()V"⟩ ∈ TS := tsm 226 (by decide +kernel) rfl
theorem wL_X10_9 : Cond.classLink RX10 9 "Slicehouse$Row" ∈ TS := tsm 227 (by decide +kernel) rfl
theorem wM_X10_11 : Cond.methodLink RX10 11 yX7_init ∈ TS := tsm 228 (by decide +kernel) rfl
theorem wL_X10_20 : Cond.classLink RX10 20 "Slicehouse$Levels" ∈ TS := tsm 229 (by decide +kernel) rfl
theorem wM_X2_1 : Cond.methodLink RX2 1 ⟨"java/lang/Object", "<init>", "()V"⟩ ∈ TS := tsm 234 (by decide +kernel) rfl
theorem wL_X2_7 : Cond.classLink RX2 7 "Slicehouse$Line" ∈ TS := tsm 235 (by decide +kernel) rfl
theorem wM_X3_3 : Cond.methodLink RX3 3 ⟨"java/lang/Object", "<init>", "()V"⟩ ∈ TS := tsm 240 (by decide +kernel) rfl
theorem wF_X3_9 : Cond.fieldLink RX3 9 "Slicehouse$Line" "places" "[I" ∈ TS := tsm 241 (by decide +kernel) rfl
theorem wF_X3_15 : Cond.fieldLink RX3 15 "Slicehouse$Line" "size" "I" ∈ TS := tsm 242 (by decide +kernel) rfl
theorem wF_X2_10 : Cond.fieldLink RX2 10 "Slicehouse$Levels" "low" "LSlicehouse$Line;" ∈ TS := tsm 248 (by decide +kernel) rfl
theorem wF_X2_16 : Cond.fieldLink RX2 16 "Slicehouse$Levels" "middle" "LSlicehouse$Line;" ∈ TS := tsm 249 (by decide +kernel) rfl
theorem wF_X2_19 : Cond.fieldLink RX2 19 "Slicehouse$Levels" "high" "LSlicehouse$Line;" ∈ TS := tsm 250 (by decide +kernel) rfl
theorem wL_X10_70 : Cond.classLink RX10 70 "Slicehouse$Progress" ∈ TS := tsm 258 (by decide +kernel) rfl
theorem wM_X10_72 : Cond.methodLink RX10 72 yX6_init ∈ TS := tsm 260 (by decide +kernel) rfl
theorem wM_X6_3 : Cond.methodLink RX6 3 ⟨"java/lang/Object", "<init>", "()V"⟩ ∈ TS := tsm 263 (by decide +kernel) rfl
theorem wL_X6_9 : Cond.classLink RX6 9 "Slicehouse$Row" ∈ TS := tsm 264 (by decide +kernel) rfl
theorem wM_X6_11 : Cond.methodLink RX6 11 yX7_init ∈ TS := tsm 265 (by decide +kernel) rfl
theorem wF_X6_14 : Cond.fieldLink RX6 14 "Slicehouse$Progress" "lefts" "LSlicehouse$Row;" ∈ TS := tsm 266 (by decide +kernel) rfl
theorem wF_X5_53 : Cond.fieldLink RX5 53 "Slicehouse$Progress" "lefts" "LSlicehouse$Row;" ∈ TS := tsm 267 (by decide +kernel) rfl
theorem wF_X10_198 : Cond.fieldLink RX10 198 "Slicehouse$Progress" "lefts" "LSlicehouse$Row;" ∈ TS := tsm 268 (by decide +kernel) rfl
theorem wF_X6_20 : Cond.fieldLink RX6 20 "Slicehouse$Progress" "ends" "LSlicehouse$Row;" ∈ TS := tsm 269 (by decide +kernel) rfl
theorem wF_X11_153 : Cond.fieldLink RX11 153 "Slicehouse$Progress" "ends" "LSlicehouse$Row;" ∈ TS := tsm 270 (by decide +kernel) rfl
theorem wF_X6_23 : Cond.fieldLink RX6 23 "Slicehouse$Progress" "readySince" "LSlicehouse$Row;" ∈ TS := tsm 271 (by decide +kernel) rfl
theorem wF_X11_162 : Cond.fieldLink RX11 162 "Slicehouse$Progress" "readySince" "LSlicehouse$Row;" ∈ TS := tsm 272 (by decide +kernel) rfl
theorem wF_X6_26 : Cond.fieldLink RX6 26 "Slicehouse$Progress" "ready" "I" ∈ TS := tsm 273 (by decide +kernel) rfl
theorem wF_X10_129 : Cond.fieldLink RX10 129 "Slicehouse$Progress" "ready" "I" ∈ TS := tsm 274 (by decide +kernel) rfl
theorem wF_X6_36 : Cond.fieldLink RX6 36 "Slicehouse$Progress" "jobs" "LSlicehouse$Jobs;" ∈ TS := tsm 275 (by decide +kernel) rfl
theorem wF_X6_30 : Cond.fieldLink RX6 30 "Slicehouse$Progress" "ended" "I" ∈ TS := tsm 276 (by decide +kernel) rfl
theorem wF_X6_33 : Cond.fieldLink RX6 33 "Slicehouse$Progress" "all" "I" ∈ TS := tsm 277 (by decide +kernel) rfl
theorem wL_X10_79 : Cond.classLink RX10 79 "Slicehouse$Course" ∈ TS := tsm 293 (by decide +kernel) rfl
theorem wM_X10_81 : Cond.methodLink RX10 81 yX0_init ∈ TS := tsm 295 (by decide +kernel) rfl
theorem wM_X0_3 : Cond.methodLink RX0 3 ⟨"java/lang/Object", "<init>", "()V"⟩ ∈ TS := tsm 298 (by decide +kernel) rfl
theorem wL_X0_15 : Cond.classLink RX0 15 "Slicehouse$Row" ∈ TS := tsm 299 (by decide +kernel) rfl
theorem wM_X0_17 : Cond.methodLink RX0 17 yX7_init ∈ TS := tsm 300 (by decide +kernel) rfl
theorem wF_X0_9 : Cond.fieldLink RX0 9 "Slicehouse$Course" "length" "I" ∈ TS := tsm 301 (by decide +kernel) rfl
theorem wF_X10_112 : Cond.fieldLink RX10 112 "Slicehouse$Course" "length" "I" ∈ TS := tsm 302 (by decide +kernel) rfl
theorem wF_X11_129 : Cond.fieldLink RX11 129 "Slicehouse$Course" "length" "I" ∈ TS := tsm 303 (by decide +kernel) rfl
theorem wF_X0_20 : Cond.fieldLink RX0 20 "Slicehouse$Course" "doings" "LSlicehouse$Row;" ∈ TS := tsm 304 (by decide +kernel) rfl
theorem wF_X0_24 : Cond.fieldLink RX0 24 "Slicehouse$Course" "jobs" "LSlicehouse$Jobs;" ∈ TS := tsm 305 (by decide +kernel) rfl
theorem wL_X10_86 : Cond.classLink RX10 86 "Slicehouse$Locks" ∈ TS := tsm 313 (by decide +kernel) rfl
theorem wM_X10_88 : Cond.methodLink RX10 88 yX4_init ∈ TS := tsm 315 (by decide +kernel) rfl
theorem wM_X4_3 : Cond.methodLink RX4 3 ⟨"java/lang/Object", "<init>", "()V"⟩ ∈ TS := tsm 318 (by decide +kernel) rfl
theorem wL_X4_9 : Cond.classLink RX4 9 "Slicehouse$Row" ∈ TS := tsm 319 (by decide +kernel) rfl
theorem wM_X4_11 : Cond.methodLink RX4 11 yX7_init ∈ TS := tsm 320 (by decide +kernel) rfl
theorem wF_X4_26 : Cond.fieldLink RX4 26 "Slicehouse$Locks" "jobs" "LSlicehouse$Jobs;" ∈ TS := tsm 321 (by decide +kernel) rfl
theorem wF_X4_30 : Cond.fieldLink RX4 30 "Slicehouse$Locks" "progress" "LSlicehouse$Progress;" ∈ TS := tsm 322 (by decide +kernel) rfl
theorem wF_X4_14 : Cond.fieldLink RX4 14 "Slicehouse$Locks" "holders" "LSlicehouse$Row;" ∈ TS := tsm 323 (by decide +kernel) rfl
theorem wF_X4_20 : Cond.fieldLink RX4 20 "Slicehouse$Locks" "blockers" "LSlicehouse$Row;" ∈ TS := tsm 324 (by decide +kernel) rfl
theorem wF_X4_23 : Cond.fieldLink RX4 23 "Slicehouse$Locks" "ranks" "LSlicehouse$Row;" ∈ TS := tsm 325 (by decide +kernel) rfl
theorem wF_X10_75 : Cond.fieldLink RX10 75 "Slicehouse$Worker" "progress" "LSlicehouse$Progress;" ∈ TS := tsm 337 (by decide +kernel) rfl
theorem wF_X11_149 : Cond.fieldLink RX11 149 "Slicehouse$Worker" "progress" "LSlicehouse$Progress;" ∈ TS := tsm 338 (by decide +kernel) rfl
theorem wF_X10_82 : Cond.fieldLink RX10 82 "Slicehouse$Worker" "course" "LSlicehouse$Course;" ∈ TS := tsm 339 (by decide +kernel) rfl
theorem wF_X11_125 : Cond.fieldLink RX11 125 "Slicehouse$Worker" "course" "LSlicehouse$Course;" ∈ TS := tsm 340 (by decide +kernel) rfl
theorem wF_X10_14 : Cond.fieldLink RX10 14 "Slicehouse$Worker" "keptWaiting" "LSlicehouse$Row;" ∈ TS := tsm 341 (by decide +kernel) rfl
theorem wF_X11_168 : Cond.fieldLink RX11 168 "Slicehouse$Worker" "keptWaiting" "LSlicehouse$Row;" ∈ TS := tsm 342 (by decide +kernel) rfl
theorem wF_X10_62 : Cond.fieldLink RX10 62 "Slicehouse$Worker" "jobs" "LSlicehouse$Jobs;" ∈ TS := tsm 343 (by decide +kernel) rfl
theorem wF_X10_66 : Cond.fieldLink RX10 66 "Slicehouse$Worker" "ways" "LSlicehouse$Ways;" ∈ TS := tsm 344 (by decide +kernel) rfl
theorem wF_X10_23 : Cond.fieldLink RX10 23 "Slicehouse$Worker" "levels" "LSlicehouse$Levels;" ∈ TS := tsm 345 (by decide +kernel) rfl
theorem wF_X10_27 : Cond.fieldLink RX10 27 "Slicehouse$Worker" "counts" "LSlicehouse$Row;" ∈ TS := tsm 346 (by decide +kernel) rfl
theorem wF_X10_91 : Cond.fieldLink RX10 91 "Slicehouse$Worker" "locks" "LSlicehouse$Locks;" ∈ TS := tsm 347 (by decide +kernel) rfl
theorem wF_X10_30 : Cond.fieldLink RX10 30 "Slicehouse$Worker" "rule" "I" ∈ TS := tsm 348 (by decide +kernel) rfl
theorem wF_X10_34 : Cond.fieldLink RX10 34 "Slicehouse$Worker" "slice" "I" ∈ TS := tsm 349 (by decide +kernel) rfl
theorem wF_X10_37 : Cond.fieldLink RX10 37 "Slicehouse$Worker" "change" "I" ∈ TS := tsm 350 (by decide +kernel) rfl
theorem wF_X10_40 : Cond.fieldLink RX10 40 "Slicehouse$Worker" "lending" "Z" ∈ TS := tsm 351 (by decide +kernel) rfl
theorem wF_X10_44 : Cond.fieldLink RX10 44 "Slicehouse$Worker" "seed" "I" ∈ TS := tsm 352 (by decide +kernel) rfl
theorem wF_X10_47 : Cond.fieldLink RX10 47 "Slicehouse$Worker" "chosen" "I" ∈ TS := tsm 353 (by decide +kernel) rfl
theorem wF_X10_50 : Cond.fieldLink RX10 50 "Slicehouse$Worker" "level" "I" ∈ TS := tsm 354 (by decide +kernel) rfl
theorem wF_X10_53 : Cond.fieldLink RX10 53 "Slicehouse$Worker" "turnLeft" "I" ∈ TS := tsm 355 (by decide +kernel) rfl
theorem wF_X10_56 : Cond.fieldLink RX10 56 "Slicehouse$Worker" "changesLeft" "I" ∈ TS := tsm 356 (by decide +kernel) rfl
theorem wF_X10_59 : Cond.fieldLink RX10 59 "Slicehouse$Worker" "lastWorked" "I" ∈ TS := tsm 357 (by decide +kernel) rfl
theorem wL_X11_45 : Cond.classLink RX11 45 "Slicehouse$Pair" ∈ TS := tsm 395 (by decide +kernel) rfl
theorem wM_X11_47 : Cond.methodLink RX11 47 yX5_init ∈ TS := tsm 397 (by decide +kernel) rfl
theorem wM_X5_3 : Cond.methodLink RX5 3 ⟨"java/lang/Object", "<init>", "()V"⟩ ∈ TS := tsm 400 (by decide +kernel) rfl
theorem wL_X5_15 : Cond.classLink RX5 15 "Slicehouse$Progress" ∈ TS := tsm 401 (by decide +kernel) rfl
theorem wM_X5_17 : Cond.methodLink RX5 17 yX6_init ∈ TS := tsm 402 (by decide +kernel) rfl
theorem wF_X5_20 : Cond.fieldLink RX5 20 "Slicehouse$Pair" "progress" "LSlicehouse$Progress;" ∈ TS := tsm 403 (by decide +kernel) rfl
theorem wF_X11_198 : Cond.fieldLink RX11 198 "Slicehouse$Pair" "progress" "LSlicehouse$Progress;" ∈ TS := tsm 404 (by decide +kernel) rfl
theorem wF_X5_9 : Cond.fieldLink RX5 9 "Slicehouse$Pair" "jobs" "LSlicehouse$Jobs;" ∈ TS := tsm 405 (by decide +kernel) rfl
theorem wF_X11_10 : Cond.fieldLink RX11 10 "Slicehouse" "jobs" "LSlicehouse$Jobs;" ∈ TS := tsm 411 (by decide +kernel) rfl
theorem wF_X11_19 : Cond.fieldLink RX11 19 "Slicehouse" "tasks" "LSlicehouse$Tasks;" ∈ TS := tsm 412 (by decide +kernel) rfl
theorem wF_X11_26 : Cond.fieldLink RX11 26 "Slicehouse" "ways" "LSlicehouse$Ways;" ∈ TS := tsm 413 (by decide +kernel) rfl
theorem wF_X11_35 : Cond.fieldLink RX11 35 "Slicehouse" "worker" "LSlicehouse$Worker;" ∈ TS := tsm 414 (by decide +kernel) rfl
theorem wF_X11_39 : Cond.fieldLink RX11 39 "Slicehouse" "trial" "LSlicehouse$Worker;" ∈ TS := tsm 415 (by decide +kernel) rfl
theorem wF_X11_42 : Cond.fieldLink RX11 42 "Slicehouse" "model" "LSlicehouse$Worker;" ∈ TS := tsm 416 (by decide +kernel) rfl
theorem wF_X11_50 : Cond.fieldLink RX11 50 "Slicehouse" "pair" "LSlicehouse$Pair;" ∈ TS := tsm 417 (by decide +kernel) rfl
theorem wF_X11_54 : Cond.fieldLink RX11 54 "Slicehouse" "hasRun" "Z" ∈ TS := tsm 418 (by decide +kernel) rfl
theorem wM_L_121 : Cond.methodLink RL 121 yX11_clear ∈ TS := tsm 436 (by decide +kernel) rfl
theorem wM_L_168 : Cond.methodLink RL 168 yX11_best ∈ TS := tsm 440 (by decide +kernel) rfl
theorem wM_X11_121 : Cond.methodLink RX11 121 yX10_follow ∈ TS := tsm 444 (by decide +kernel) rfl
theorem wM_X10_95 : Cond.methodLink RX10 95 yX10_begin ∈ TS := tsm 448 (by decide +kernel) rfl
theorem wM_X10_111 : Cond.methodLink RX10 111 yX6_begin ∈ TS := tsm 452 (by decide +kernel) rfl
theorem wM_X6_48 : Cond.methodLink RX6 48 yX7_at ∈ TS := tsm 456 (by decide +kernel) rfl
theorem wM_X6_52 : Cond.methodLink RX6 52 yX7_put ∈ TS := tsm 460 (by decide +kernel) rfl
theorem wM_X10_115 : Cond.methodLink RX10 115 yX2_empty ∈ TS := tsm 464 (by decide +kernel) rfl
theorem wM_X2_22 : Cond.methodLink RX2 22 yX3_empty ∈ TS := tsm 468 (by decide +kernel) rfl
theorem wM_X10_118 : Cond.methodLink RX10 118 yX7_fill ∈ TS := tsm 472 (by decide +kernel) rfl
theorem wM_X10_98 : Cond.methodLink RX10 98 yX6_isOver ∈ TS := tsm 476 (by decide +kernel) rfl
theorem wM_X10_102 : Cond.methodLink RX10 102 yX10_beginMoment ∈ TS := tsm 480 (by decide +kernel) rfl
theorem wM_X10_127 : Cond.methodLink RX10 127 yX2_rise ∈ TS := tsm 484 (by decide +kernel) rfl
theorem wM_X2_25 : Cond.methodLink RX2 25 yX3_moveTo ∈ TS := tsm 488 (by decide +kernel) rfl
theorem wM_X3_19 : Cond.methodLink RX3 19 yX3_join ∈ TS := tsm 492 (by decide +kernel) rfl
theorem wM_X10_132 : Cond.methodLink RX10 132 yX6_admit ∈ TS := tsm 496 (by decide +kernel) rfl
theorem wM_X10_136 : Cond.methodLink RX10 136 yX10_leastCount ∈ TS := tsm 500 (by decide +kernel) rfl
theorem wM_X10_170 : Cond.methodLink RX10 170 yX7_at ∈ TS := tsm 504 (by decide +kernel) rfl
theorem wM_X10_139 : Cond.methodLink RX10 139 yX10_welcome ∈ TS := tsm 505 (by decide +kernel) rfl
theorem wM_X10_155 : Cond.methodLink RX10 155 yX7_put ∈ TS := tsm 509 (by decide +kernel) rfl
theorem wM_X10_158 : Cond.methodLink RX10 158 yX10_usesLevels ∈ TS := tsm 510 (by decide +kernel) rfl
theorem wM_X10_161 : Cond.methodLink RX10 161 yX2_lineOf ∈ TS := tsm 514 (by decide +kernel) rfl
theorem wM_X10_165 : Cond.methodLink RX10 165 yX3_join ∈ TS := tsm 518 (by decide +kernel) rfl
theorem wM_X10_143 : Cond.methodLink RX10 143 yX10_endSlice ∈ TS := tsm 519 (by decide +kernel) rfl
theorem wM_X10_173 : Cond.methodLink RX10 173 ⟨"java/lang/Math", "min", "(II)I"⟩ ∈ TS := tsm 523 (by decide +kernel) rfl
theorem wM_X10_146 : Cond.methodLink RX10 146 yX4_look ∈ TS := tsm 526 (by decide +kernel) rfl
theorem wM_X4_34 : Cond.methodLink RX4 34 yX7_fill ∈ TS := tsm 530 (by decide +kernel) rfl
theorem wM_X4_43 : Cond.methodLink RX4 43 yX6_done ∈ TS := tsm 531 (by decide +kernel) rfl
theorem wM_X4_49 : Cond.methodLink RX4 49 yX1_lockAt ∈ TS := tsm 535 (by decide +kernel) rfl
theorem wM_X1_55 : Cond.methodLink RX1 55 yX7_at ∈ TS := tsm 539 (by decide +kernel) rfl
theorem wM_X4_53 : Cond.methodLink RX4 53 yX7_put ∈ TS := tsm 540 (by decide +kernel) rfl
theorem wM_X4_60 : Cond.methodLink RX4 60 yX7_at ∈ TS := tsm 541 (by decide +kernel) rfl
theorem wM_X4_63 : Cond.methodLink RX4 63 yX6_isReady ∈ TS := tsm 542 (by decide +kernel) rfl
theorem wM_X4_67 : Cond.methodLink RX4 67 yX4_isBlocked ∈ TS := tsm 546 (by decide +kernel) rfl
theorem wM_X4_70 : Cond.methodLink RX4 70 ⟨"java/lang/Math", "max", "(II)I"⟩ ∈ TS := tsm 550 (by decide +kernel) rfl
theorem wM_X10_105 : Cond.methodLink RX10 105 yX10_choose ∈ TS := tsm 553 (by decide +kernel) rfl
theorem wM_X10_179 : Cond.methodLink RX10 179 yX2_lowest ∈ TS := tsm 557 (by decide +kernel) rfl
theorem wM_X2_29 : Cond.methodLink RX2 29 yX3_isEmpty ∈ TS := tsm 561 (by decide +kernel) rfl
theorem wM_X10_183 : Cond.methodLink RX10 183 yX3_takeFirst ∈ TS := tsm 565 (by decide +kernel) rfl
theorem wM_X10_186 : Cond.methodLink RX10 186 yX10_drawn ∈ TS := tsm 569 (by decide +kernel) rfl
theorem wM_X10_201 : Cond.methodLink RX10 201 yX6_isReady ∈ TS := tsm 573 (by decide +kernel) rfl
theorem wK_X10_208 : Cond.constant RX10 208 (Int32.ofInt 1103515245) ∈ TS := tsm 574 (by decide +kernel) rfl
theorem wM_X10_189 : Cond.methodLink RX10 189 yX4_greatest ∈ TS := tsm 575 (by decide +kernel) rfl
theorem wM_X10_192 : Cond.methodLink RX10 192 yX10_leastByKey ∈ TS := tsm 579 (by decide +kernel) rfl
theorem wM_X10_209 : Cond.methodLink RX10 209 yX10_keyOf ∈ TS := tsm 583 (by decide +kernel) rfl
theorem wM_X10_195 : Cond.methodLink RX10 195 yX10_turnOf ∈ TS := tsm 587 (by decide +kernel) rfl
theorem wM_X10_108 : Cond.methodLink RX10 108 yX10_pass ∈ TS := tsm 591 (by decide +kernel) rfl
theorem wM_X10_221 : Cond.methodLink RX10 221 yX0_note ∈ TS := tsm 595 (by decide +kernel) rfl
theorem wM_X0_28 : Cond.methodLink RX0 28 yX7_put ∈ TS := tsm 599 (by decide +kernel) rfl
theorem wM_X10_224 : Cond.methodLink RX10 224 yX10_countKept ∈ TS := tsm 600 (by decide +kernel) rfl
theorem wM_X10_236 : Cond.methodLink RX10 236 yX4_isBlocked ∈ TS := tsm 604 (by decide +kernel) rfl
theorem wM_X10_230 : Cond.methodLink RX10 230 yX7_add ∈ TS := tsm 605 (by decide +kernel) rfl
theorem wM_X10_227 : Cond.methodLink RX10 227 yX10_workAtChosen ∈ TS := tsm 609 (by decide +kernel) rfl
theorem wM_X10_233 : Cond.methodLink RX10 233 yX6_spendOn ∈ TS := tsm 613 (by decide +kernel) rfl
theorem wM_X6_62 : Cond.methodLink RX6 62 yX7_add ∈ TS := tsm 617 (by decide +kernel) rfl
theorem wM_X11_158 : Cond.methodLink RX11 158 yX6_endsTogether ∈ TS := tsm 618 (by decide +kernel) rfl
theorem wM_L_172 : Cond.methodLink RL 172 yX11_two ∈ TS := tsm 622 (by decide +kernel) rfl
theorem wM_X11_194 : Cond.methodLink RX11 194 yX5_workBy ∈ TS := tsm 626 (by decide +kernel) rfl
theorem wM_X5_24 : Cond.methodLink RX5 24 yX6_begin ∈ TS := tsm 630 (by decide +kernel) rfl
theorem wM_X5_27 : Cond.methodLink RX5 27 yX6_isOver ∈ TS := tsm 631 (by decide +kernel) rfl
theorem wM_X5_31 : Cond.methodLink RX5 31 yX6_admit ∈ TS := tsm 632 (by decide +kernel) rfl
theorem wM_X5_35 : Cond.methodLink RX5 35 yX5_least ∈ TS := tsm 633 (by decide +kernel) rfl
theorem wM_X5_49 : Cond.methodLink RX5 49 yX6_isReady ∈ TS := tsm 637 (by decide +kernel) rfl
theorem wM_X5_57 : Cond.methodLink RX5 57 yX7_at ∈ TS := tsm 638 (by decide +kernel) rfl
theorem wM_X5_39 : Cond.methodLink RX5 39 yX6_spendOn ∈ TS := tsm 639 (by decide +kernel) rfl
theorem wM_X11_199 : Cond.methodLink RX11 199 yX6_countLate ∈ TS := tsm 640 (by decide +kernel) rfl
theorem wM_X6_74 : Cond.methodLink RX6 74 yX6_lateness ∈ TS := tsm 644 (by decide +kernel) rfl
theorem wM_X6_68 : Cond.methodLink RX6 68 ⟨"java/lang/Math", "max", "(II)I"⟩ ∈ TS := tsm 648 (by decide +kernel) rfl
theorem wM_L_187 : Cond.methodLink RL 187 yX11_load ∈ TS := tsm 649 (by decide +kernel) rfl
theorem wM_X11_91 : Cond.methodLink RX11 91 yX7_at ∈ TS := tsm 653 (by decide +kernel) rfl
theorem wM_X11_174 : Cond.methodLink RX11 174 yX11_reduced ∈ TS := tsm 654 (by decide +kernel) rfl
theorem wM_L_202 : Cond.methodLink RL 202 yX11_errors ∈ TS := tsm 657 (by decide +kernel) rfl
theorem wM_X11_229 : Cond.methodLink RX11 229 yX11_haveRulesSameBusyTime ∈ TS := tsm 661 (by decide +kernel) rfl
theorem wM_X11_251 : Cond.methodLink RX11 251 yX0_isAsBusyAs ∈ TS := tsm 665 (by decide +kernel) rfl
theorem wM_X0_41 : Cond.methodLink RX0 41 ⟨"java/lang/Math", "max", "(II)I"⟩ ∈ TS := tsm 669 (by decide +kernel) rfl
theorem wM_X0_51 : Cond.methodLink RX0 51 yX0_doingAt ∈ TS := tsm 670 (by decide +kernel) rfl
theorem wM_X0_32 : Cond.methodLink RX0 32 yX7_at ∈ TS := tsm 674 (by decide +kernel) rfl
theorem wM_X11_202 : Cond.methodLink RX11 202 yX1_someWait ∈ TS := tsm 675 (by decide +kernel) rfl
theorem wM_X11_232 : Cond.methodLink RX11 232 yX11_keepsDeadlines ∈ TS := tsm 679 (by decide +kernel) rfl
theorem wM_X11_236 : Cond.methodLink RX11 236 yX11_hasLeastLeftLeastEnds ∈ TS := tsm 683 (by decide +kernel) rfl
theorem wM_X11_239 : Cond.methodLink RX11 239 yX11_doesSomeRuleKeepDeadlines ∈ TS := tsm 687 (by decide +kernel) rfl
theorem wM_X11_242 : Cond.methodLink RX11 242 yX11_full ∈ TS := tsm 691 (by decide +kernel) rfl
theorem wM_X11_58 : Cond.methodLink RX11 58 yX11_isOutside ∈ TS := tsm 695 (by decide +kernel) rfl
theorem wL_X11_62 : Cond.classLink RX11 62 "java/lang/IllegalArgumentException" ∈ TS := tsm 698 (by decide +kernel) rfl
theorem wM_X11_64 : Cond.methodLink RX11 64 ⟨"java/lang/IllegalArgumentException", "<init>", "()V"⟩ ∈ TS := tsm 740 (by decide +kernel) rfl
theorem wM_X11_206 : Cond.methodLink RX11 206 yX1_fullEnd ∈ TS := tsm 762 (by decide +kernel) rfl
theorem wM_X1_68 : Cond.methodLink RX1 68 ⟨"java/lang/Math", "max", "(II)I"⟩ ∈ TS := tsm 766 (by decide +kernel) rfl
theorem wM_X1_73 : Cond.methodLink RX1 73 yX1_workBetween ∈ TS := tsm 767 (by decide +kernel) rfl
theorem wM_X11_209 : Cond.methodLink RX11 209 yX1_workBetween ∈ TS := tsm 771 (by decide +kernel) rfl
theorem wM_X11_245 : Cond.methodLink RX11 245 yX11_isRingFair ∈ TS := tsm 772 (by decide +kernel) rfl
theorem wM_X11_254 : Cond.methodLink RX11 254 yX0_firstWork ∈ TS := tsm 776 (by decide +kernel) rfl
theorem wM_X11_165 : Cond.methodLink RX11 165 yX0_longestGap ∈ TS := tsm 780 (by decide +kernel) rfl
theorem wM_X11_248 : Cond.methodLink RX11 248 yX11_isHighestFreeInTime ∈ TS := tsm 784 (by decide +kernel) rfl
theorem wM_X11_257 : Cond.methodLink RX11 257 yX1_highest ∈ TS := tsm 788 (by decide +kernel) rfl
theorem wM_X11_260 : Cond.methodLink RX11 260 yX1_mostKept ∈ TS := tsm 792 (by decide +kernel) rfl
theorem wM_X1_64 : Cond.methodLink RX1 64 yX1_longestRest ∈ TS := tsm 796 (by decide +kernel) rfl
theorem wM_L_101 : Cond.methodLink RL 101 yL_job ∈ TS := tsm 800 (by decide +kernel) rfl
theorem wL_L_13 : Cond.classLink RL 13 "java/lang/IllegalArgumentException" ∈ TS := tsm 803 (by decide +kernel) rfl
theorem wL_L_15 : Cond.classLink RL 15 "java/lang/IllegalStateException" ∈ TS := tsm 804 (by decide +kernel) rfl
theorem wM_L_7 : Cond.methodLink RL 7 yX11_job ∈ TS := tsm 805 (by decide +kernel) rfl
theorem wL_X11_69 : Cond.classLink RX11 69 "java/lang/IllegalStateException" ∈ TS := tsm 809 (by decide +kernel) rfl
theorem wM_X11_71 : Cond.methodLink RX11 71 ⟨"java/lang/IllegalStateException", "<init>", "()V"⟩ ∈ TS := tsm 818 (by decide +kernel) rfl
theorem wM_X11_72 : Cond.methodLink RX11 72 yX1_tell ∈ TS := tsm 824 (by decide +kernel) rfl
theorem wM_X1_51 : Cond.methodLink RX1 51 yX7_put ∈ TS := tsm 828 (by decide +kernel) rfl
theorem wM_L_110 : Cond.methodLink RL 110 yL_after ∈ TS := tsm 829 (by decide +kernel) rfl
theorem wL_L_21 : Cond.classLink RL 21 "java/lang/IndexOutOfBoundsException" ∈ TS := tsm 832 (by decide +kernel) rfl
theorem wM_L_17 : Cond.methodLink RL 17 yX11_after ∈ TS := tsm 833 (by decide +kernel) rfl
theorem wM_X11_76 : Cond.methodLink RX11 76 yX11_needJob ∈ TS := tsm 837 (by decide +kernel) rfl
theorem wL_X11_84 : Cond.classLink RX11 84 "java/lang/IndexOutOfBoundsException" ∈ TS := tsm 841 (by decide +kernel) rfl
theorem wM_X11_86 : Cond.methodLink RX11 86 ⟨"java/lang/IndexOutOfBoundsException", "<init>", "()V"⟩ ∈ TS := tsm 850 (by decide +kernel) rfl
theorem wM_X11_80 : Cond.methodLink RX11 80 yX1_letWait ∈ TS := tsm 856 (by decide +kernel) rfl
theorem wM_L_114 : Cond.methodLink RL 114 yL_lock ∈ TS := tsm 866 (by decide +kernel) rfl
theorem wM_L_23 : Cond.methodLink RL 23 yX11_lock ∈ TS := tsm 869 (by decide +kernel) rfl
theorem wM_X11_97 : Cond.methodLink RX11 97 yX1_overlaps ∈ TS := tsm 873 (by decide +kernel) rfl
theorem wM_X11_103 : Cond.methodLink RX11 103 yX1_addStretch ∈ TS := tsm 877 (by decide +kernel) rfl
theorem wM_L_117 : Cond.methodLink RL 117 yL_turns ∈ TS := tsm 881 (by decide +kernel) rfl
theorem wM_L_26 : Cond.methodLink RL 26 yX11_turns ∈ TS := tsm 884 (by decide +kernel) rfl
theorem wM_L_125 : Cond.methodLink RL 125 yL_run ∈ TS := tsm 888 (by decide +kernel) rfl
theorem wM_L_30 : Cond.methodLink RL 30 yX11_run ∈ TS := tsm 891 (by decide +kernel) rfl
theorem wM_L_129 : Cond.methodLink RL 129 yL_running ∈ TS := tsm 895 (by decide +kernel) rfl
theorem wM_L_34 : Cond.methodLink RL 34 yX11_running ∈ TS := tsm 898 (by decide +kernel) rfl
theorem wM_X11_134 : Cond.methodLink RX11 134 yX11_needMoment ∈ TS := tsm 902 (by decide +kernel) rfl
theorem wM_X11_137 : Cond.methodLink RX11 137 yX11_needRun ∈ TS := tsm 906 (by decide +kernel) rfl
theorem wM_X11_140 : Cond.methodLink RX11 140 yX0_doingAt ∈ TS := tsm 910 (by decide +kernel) rfl
theorem wM_L_132 : Cond.methodLink RL 132 yL_left ∈ TS := tsm 911 (by decide +kernel) rfl
theorem wM_L_37 : Cond.methodLink RL 37 yX11_left ∈ TS := tsm 914 (by decide +kernel) rfl
theorem wM_X11_143 : Cond.methodLink RX11 143 yX0_leftOf ∈ TS := tsm 918 (by decide +kernel) rfl
theorem wM_L_135 : Cond.methodLink RL 135 yL_work ∈ TS := tsm 922 (by decide +kernel) rfl
theorem wM_L_40 : Cond.methodLink RL 40 yX11_work ∈ TS := tsm 925 (by decide +kernel) rfl
theorem wM_L_138 : Cond.methodLink RL 138 yL_end ∈ TS := tsm 929 (by decide +kernel) rfl
theorem wM_L_43 : Cond.methodLink RL 43 yX11_end ∈ TS := tsm 932 (by decide +kernel) rfl
theorem wM_L_141 : Cond.methodLink RL 141 yL_sumOfEnds ∈ TS := tsm 936 (by decide +kernel) rfl
theorem wM_L_46 : Cond.methodLink RL 46 yX11_sumOfEnds ∈ TS := tsm 939 (by decide +kernel) rfl
theorem wM_L_145 : Cond.methodLink RL 145 yL_waits ∈ TS := tsm 943 (by decide +kernel) rfl
theorem wM_L_50 : Cond.methodLink RL 50 yX11_waits ∈ TS := tsm 946 (by decide +kernel) rfl
theorem wM_L_148 : Cond.methodLink RL 148 yL_blocked ∈ TS := tsm 950 (by decide +kernel) rfl
theorem wM_L_53 : Cond.methodLink RL 53 yX11_blocked ∈ TS := tsm 953 (by decide +kernel) rfl
theorem wM_L_151 : Cond.methodLink RL 151 yL_late ∈ TS := tsm 957 (by decide +kernel) rfl
theorem wM_L_56 : Cond.methodLink RL 56 yX11_late ∈ TS := tsm 960 (by decide +kernel) rfl
theorem wM_X11_171 : Cond.methodLink RX11 171 yX6_lateness ∈ TS := tsm 964 (by decide +kernel) rfl
theorem wM_L_154 : Cond.methodLink RL 154 yL_slowest ∈ TS := tsm 965 (by decide +kernel) rfl
theorem wM_L_59 : Cond.methodLink RL 59 yX11_slowest ∈ TS := tsm 968 (by decide +kernel) rfl
theorem wM_L_158 : Cond.methodLink RL 158 yL_busy ∈ TS := tsm 972 (by decide +kernel) rfl
theorem wL_L_67 : Cond.classLink RL 67 "java/util/NoSuchElementException" ∈ TS := tsm 975 (by decide +kernel) rfl
theorem wM_L_63 : Cond.methodLink RL 63 yX11_busy ∈ TS := tsm 976 (by decide +kernel) rfl
theorem wM_X11_178 : Cond.methodLink RX11 178 yX0_countBusy ∈ TS := tsm 980 (by decide +kernel) rfl
theorem wM_X0_47 : Cond.methodLink RX0 47 yX0_beginsBusy ∈ TS := tsm 984 (by decide +kernel) rfl
theorem wM_X11_181 : Cond.methodLink RX11 181 yX0_busyBegin ∈ TS := tsm 988 (by decide +kernel) rfl
theorem wL_X11_184 : Cond.classLink RX11 184 "java/util/NoSuchElementException" ∈ TS := tsm 992 (by decide +kernel) rfl
theorem wM_X11_186 : Cond.methodLink RX11 186 ⟨"java/util/NoSuchElementException", "<init>", "()V"⟩ ∈ TS := tsm 1001 (by decide +kernel) rfl
theorem wM_X11_187 : Cond.methodLink RX11 187 yX0_busyEnd ∈ TS := tsm 1007 (by decide +kernel) rfl
theorem wM_L_162 : Cond.methodLink RL 162 yL_checksum ∈ TS := tsm 1011 (by decide +kernel) rfl
theorem wM_L_69 : Cond.methodLink RL 69 yX11_checksum ∈ TS := tsm 1014 (by decide +kernel) rfl
theorem wM_L_165 : Cond.methodLink RL 165 yL_which ∈ TS := tsm 1018 (by decide +kernel) rfl
theorem wM_L_72 : Cond.methodLink RL 72 yX11_which ∈ TS := tsm 1021 (by decide +kernel) rfl
theorem wM_X11_190 : Cond.methodLink RX11 190 yX0_isSameAs ∈ TS := tsm 1025 (by decide +kernel) rfl
theorem wM_L_177 : Cond.methodLink RL 177 yL_isFeasible ∈ TS := tsm 1029 (by decide +kernel) rfl
theorem wM_L_75 : Cond.methodLink RL 75 yX11_isFeasible ∈ TS := tsm 1032 (by decide +kernel) rfl
theorem wM_L_180 : Cond.methodLink RL 180 yL_full ∈ TS := tsm 1036 (by decide +kernel) rfl
theorem wM_L_79 : Cond.methodLink RL 79 yX11_full ∈ TS := tsm 1039 (by decide +kernel) rfl
theorem wM_L_183 : Cond.methodLink RL 183 yL_task ∈ TS := tsm 1040 (by decide +kernel) rfl
theorem wM_L_82 : Cond.methodLink RL 82 yX11_task ∈ TS := tsm 1043 (by decide +kernel) rfl
theorem wM_X11_213 : Cond.methodLink RX11 213 yX8_tell ∈ TS := tsm 1047 (by decide +kernel) rfl
theorem wM_X8_30 : Cond.methodLink RX8 30 yX7_put ∈ TS := tsm 1051 (by decide +kernel) rfl
theorem wM_L_192 : Cond.methodLink RL 192 yL_response ∈ TS := tsm 1052 (by decide +kernel) rfl
theorem wM_L_86 : Cond.methodLink RL 86 yX11_response ∈ TS := tsm 1055 (by decide +kernel) rfl
theorem wM_X11_223 : Cond.methodLink RX11 223 yX8_workAhead ∈ TS := tsm 1059 (by decide +kernel) rfl
theorem wM_X8_34 : Cond.methodLink RX8 34 yX7_at ∈ TS := tsm 1063 (by decide +kernel) rfl
theorem wM_X8_38 : Cond.methodLink RX8 38 yX8_goesAhead ∈ TS := tsm 1064 (by decide +kernel) rfl
theorem wM_L_195 : Cond.methodLink RL 195 yL_meanEnd ∈ TS := tsm 1068 (by decide +kernel) rfl
theorem wM_L_89 : Cond.methodLink RL 89 yX11_meanEnd ∈ TS := tsm 1071 (by decide +kernel) rfl
theorem wM_L_199 : Cond.methodLink RL 199 yL_workShare ∈ TS := tsm 1075 (by decide +kernel) rfl
theorem wM_L_93 : Cond.methodLink RL 93 yX11_workShare ∈ TS := tsm 1078 (by decide +kernel) rfl
theorem wM_X11_226 : Cond.methodLink RX11 226 yX0_countWork ∈ TS := tsm 1082 (by decide +kernel) rfl
theorem wL_L_98 : Cond.classLink RL 98 "SlicehouseModel" ∈ TS := tsm 1086 (by decide +kernel) rfl
theorem wM_L_100 : Cond.methodLink RL 100 yX12_init ∈ TS := tsm 1088 (by decide +kernel) rfl
theorem wM_X12_1 : Cond.methodLink RX12 1 ⟨"java/lang/Object", "<init>", "()V"⟩ ∈ TS := tsm 1091 (by decide +kernel) rfl
theorem wF_X12_7 : Cond.fieldLink RX12 7 "SlicehouseModel" "comes" "[I" ∈ TS := tsm 1092 (by decide +kernel) rfl
theorem wF_X12_13 : Cond.fieldLink RX12 13 "SlicehouseModel" "length" "[I" ∈ TS := tsm 1093 (by decide +kernel) rfl
theorem wF_X12_16 : Cond.fieldLink RX12 16 "SlicehouseModel" "deadline" "[I" ∈ TS := tsm 1094 (by decide +kernel) rfl
theorem wF_X12_19 : Cond.fieldLink RX12 19 "SlicehouseModel" "weight" "[I" ∈ TS := tsm 1095 (by decide +kernel) rfl
theorem wF_X12_22 : Cond.fieldLink RX12 22 "SlicehouseModel" "waitsFor" "[I" ∈ TS := tsm 1096 (by decide +kernel) rfl
theorem wF_X12_25 : Cond.fieldLink RX12 25 "SlicehouseModel" "lockMany" "[I" ∈ TS := tsm 1097 (by decide +kernel) rfl
theorem wF_X12_28 : Cond.fieldLink RX12 28 "SlicehouseModel" "lockOf" "[I" ∈ TS := tsm 1098 (by decide +kernel) rfl
theorem wF_X12_31 : Cond.fieldLink RX12 31 "SlicehouseModel" "lockFrom" "[I" ∈ TS := tsm 1099 (by decide +kernel) rfl
theorem wF_X12_34 : Cond.fieldLink RX12 34 "SlicehouseModel" "lockTo" "[I" ∈ TS := tsm 1100 (by decide +kernel) rfl
theorem wF_X12_108 : Cond.fieldLink RX12 108 "SlicehouseModel" "jobs" "I" ∈ TS := tsm 1101 (by decide +kernel) rfl
theorem wF_X12_37 : Cond.fieldLink RX12 37 "SlicehouseModel" "slice" "I" ∈ TS := tsm 1102 (by decide +kernel) rfl
theorem wF_X12_132 : Cond.fieldLink RX12 132 "SlicehouseModel" "change" "I" ∈ TS := tsm 1103 (by decide +kernel) rfl
theorem wF_X12_41 : Cond.fieldLink RX12 41 "SlicehouseModel" "rise" "I" ∈ TS := tsm 1104 (by decide +kernel) rfl
theorem wF_X12_44 : Cond.fieldLink RX12 44 "SlicehouseModel" "seed" "I" ∈ TS := tsm 1105 (by decide +kernel) rfl
theorem wF_X12_105 : Cond.fieldLink RX12 105 "SlicehouseModel" "thrown" "I" ∈ TS := tsm 1106 (by decide +kernel) rfl
theorem wF_X12_135 : Cond.fieldLink RX12 135 "SlicehouseModel" "isLending" "Z" ∈ TS := tsm 1107 (by decide +kernel) rfl
theorem wF_X12_47 : Cond.fieldLink RX12 47 "SlicehouseModel" "period" "[I" ∈ TS := tsm 1108 (by decide +kernel) rfl
theorem wF_X12_50 : Cond.fieldLink RX12 50 "SlicehouseModel" "taskLength" "[I" ∈ TS := tsm 1109 (by decide +kernel) rfl
theorem wF_X12_53 : Cond.fieldLink RX12 53 "SlicehouseModel" "taskDeadline" "[I" ∈ TS := tsm 1110 (by decide +kernel) rfl
theorem wF_X12_269 : Cond.fieldLink RX12 269 "SlicehouseModel" "tasks" "I" ∈ TS := tsm 1111 (by decide +kernel) rfl
theorem wF_X12_56 : Cond.fieldLink RX12 56 "SlicehouseModel" "log" "[I" ∈ TS := tsm 1112 (by decide +kernel) rfl
theorem wF_X12_59 : Cond.fieldLink RX12 59 "SlicehouseModel" "endOf" "[I" ∈ TS := tsm 1113 (by decide +kernel) rfl
theorem wF_X12_62 : Cond.fieldLink RX12 62 "SlicehouseModel" "readyOf" "[I" ∈ TS := tsm 1114 (by decide +kernel) rfl
theorem wF_X12_65 : Cond.fieldLink RX12 65 "SlicehouseModel" "blockedOf" "[I" ∈ TS := tsm 1115 (by decide +kernel) rfl
theorem wF_X12_214 : Cond.fieldLink RX12 214 "SlicehouseModel" "moments" "I" ∈ TS := tsm 1116 (by decide +kernel) rfl
theorem wF_X12_68 : Cond.fieldLink RX12 68 "SlicehouseModel" "latestRule" "I" ∈ TS := tsm 1117 (by decide +kernel) rfl
theorem wF_X12_71 : Cond.fieldLink RX12 71 "SlicehouseModel" "work" "[I" ∈ TS := tsm 1118 (by decide +kernel) rfl
theorem wF_X12_74 : Cond.fieldLink RX12 74 "SlicehouseModel" "left" "[I" ∈ TS := tsm 1119 (by decide +kernel) rfl
theorem wF_X12_77 : Cond.fieldLink RX12 77 "SlicehouseModel" "end" "[I" ∈ TS := tsm 1120 (by decide +kernel) rfl
theorem wF_X12_80 : Cond.fieldLink RX12 80 "SlicehouseModel" "ready" "[I" ∈ TS := tsm 1121 (by decide +kernel) rfl
theorem wF_X12_83 : Cond.fieldLink RX12 83 "SlicehouseModel" "kept" "[I" ∈ TS := tsm 1122 (by decide +kernel) rfl
theorem wF_X12_86 : Cond.fieldLink RX12 86 "SlicehouseModel" "count" "[I" ∈ TS := tsm 1123 (by decide +kernel) rfl
theorem wF_X12_89 : Cond.fieldLink RX12 89 "SlicehouseModel" "isReady" "[Z" ∈ TS := tsm 1124 (by decide +kernel) rfl
theorem wF_X12_207 : Cond.fieldLink RX12 207 "SlicehouseModel" "workMoments" "I" ∈ TS := tsm 1125 (by decide +kernel) rfl
theorem wF_X12_184 : Cond.fieldLink RX12 184 "SlicehouseModel" "ended" "I" ∈ TS := tsm 1126 (by decide +kernel) rfl
theorem wF_X12_165 : Cond.fieldLink RX12 165 "SlicehouseModel" "drawn" "I" ∈ TS := tsm 1127 (by decide +kernel) rfl
theorem wF_X12_93 : Cond.fieldLink RX12 93 "SlicehouseModel" "row" "[I" ∈ TS := tsm 1128 (by decide +kernel) rfl
theorem wF_X12_96 : Cond.fieldLink RX12 96 "SlicehouseModel" "rowMany" "[I" ∈ TS := tsm 1129 (by decide +kernel) rfl
theorem wF_X12_99 : Cond.fieldLink RX12 99 "SlicehouseModel" "levelOf" "[I" ∈ TS := tsm 1130 (by decide +kernel) rfl
theorem wF_X12_260 : Cond.fieldLink RX12 260 "SlicehouseModel" "fullFrom" "I" ∈ TS := tsm 1131 (by decide +kernel) rfl
theorem wF_X12_263 : Cond.fieldLink RX12 263 "SlicehouseModel" "fullTo" "I" ∈ TS := tsm 1132 (by decide +kernel) rfl
theorem wF_X12_102 : Cond.fieldLink RX12 102 "SlicehouseModel" "isBusy" "[Z" ∈ TS := tsm 1133 (by decide +kernel) rfl
theorem wF_X12_272 : Cond.fieldLink RX12 272 "SlicehouseModel" "busyMoments" "I" ∈ TS := tsm 1134 (by decide +kernel) rfl
theorem wM_L_107 : Cond.methodLink RL 107 yX12_thrown ∈ TS := tsm 1223 (by decide +kernel) rfl
theorem wM_L_106 : Cond.methodLink RL 106 yX12_job ∈ TS := tsm 1227 (by decide +kernel) rfl
theorem wM_X12_111 : Cond.methodLink RX12 111 yX12_in ∈ TS := tsm 1231 (by decide +kernel) rfl
theorem wM_X12_119 : Cond.methodLink RX12 119 yX12_refuse ∈ TS := tsm 1234 (by decide +kernel) rfl
theorem wM_X12_122 : Cond.methodLink RX12 122 yX12_changed ∈ TS := tsm 1238 (by decide +kernel) rfl
theorem wM_X12_115 : Cond.methodLink RX12 115 yX12_told ∈ TS := tsm 1242 (by decide +kernel) rfl
theorem wM_L_113 : Cond.methodLink RL 113 yX12_after ∈ TS := tsm 1246 (by decide +kernel) rfl
theorem wM_X12_125 : Cond.methodLink RX12 125 yX12_isJob ∈ TS := tsm 1250 (by decide +kernel) rfl
theorem wM_X12_129 : Cond.methodLink RX12 129 yX12_bits ∈ TS := tsm 1254 (by decide +kernel) rfl
theorem wM_L_116 : Cond.methodLink RL 116 yX12_lock ∈ TS := tsm 1257 (by decide +kernel) rfl
theorem wM_L_120 : Cond.methodLink RL 120 yX12_turns ∈ TS := tsm 1261 (by decide +kernel) rfl
theorem wM_L_124 : Cond.methodLink RL 124 yX12_clear ∈ TS := tsm 1265 (by decide +kernel) rfl
theorem wM_L_128 : Cond.methodLink RL 128 yX12_run ∈ TS := tsm 1269 (by decide +kernel) rfl
theorem wM_X12_210 : Cond.methodLink RX12 210 yX12_runs ∈ TS := tsm 1273 (by decide +kernel) rfl
theorem wM_X12_187 : Cond.methodLink RX12 187 yX12_begins ∈ TS := tsm 1277 (by decide +kernel) rfl
theorem wM_X12_190 : Cond.methodLink RX12 190 yX12_rises ∈ TS := tsm 1281 (by decide +kernel) rfl
theorem wM_X12_139 : Cond.methodLink RX12 139 yX12_takes ∈ TS := tsm 1285 (by decide +kernel) rfl
theorem wM_X12_142 : Cond.methodLink RX12 142 yX12_joins ∈ TS := tsm 1289 (by decide +kernel) rfl
theorem wM_X12_193 : Cond.methodLink RX12 193 yX12_becomesReady ∈ TS := tsm 1293 (by decide +kernel) rfl
theorem wM_X12_146 : Cond.methodLink RX12 146 yX12_canBegin ∈ TS := tsm 1297 (by decide +kernel) rfl
theorem wM_X12_150 : Cond.methodLink RX12 150 yX12_leastCount ∈ TS := tsm 1301 (by decide +kernel) rfl
theorem wM_X12_196 : Cond.methodLink RX12 196 yX12_chooses ∈ TS := tsm 1305 (by decide +kernel) rfl
theorem wM_X12_159 : Cond.methodLink RX12 159 yX12_isThere ∈ TS := tsm 1309 (by decide +kernel) rfl
theorem wM_X12_162 : Cond.methodLink RX12 162 yX12_keeper ∈ TS := tsm 1313 (by decide +kernel) rfl
theorem wM_X12_153 : Cond.methodLink RX12 153 yX12_needs ∈ TS := tsm 1317 (by decide +kernel) rfl
theorem wM_X12_156 : Cond.methodLink RX12 156 yX12_has ∈ TS := tsm 1321 (by decide +kernel) rfl
theorem wM_X12_176 : Cond.methodLink RX12 176 yX12_keyOf ∈ TS := tsm 1325 (by decide +kernel) rfl
theorem wM_X12_172 : Cond.methodLink RX12 172 yX12_rankOf ∈ TS := tsm 1329 (by decide +kernel) rfl
theorem wM_X12_180 : Cond.methodLink RX12 180 yX12_drawnJob ∈ TS := tsm 1333 (by decide +kernel) rfl
theorem wM_X12_169 : Cond.methodLink RX12 169 yX12_draws ∈ TS := tsm 1337 (by decide +kernel) rfl
theorem wK_X12_168 : Cond.constant RX12 168 (Int32.ofInt 1103515245) ∈ TS := tsm 1341 (by decide +kernel) rfl
theorem wM_X12_199 : Cond.methodLink RX12 199 yX12_turnOf ∈ TS := tsm 1342 (by decide +kernel) rfl
theorem wM_X12_203 : Cond.methodLink RX12 203 yX12_keepsWaiting ∈ TS := tsm 1346 (by decide +kernel) rfl
theorem wM_L_131 : Cond.methodLink RL 131 yX12_running ∈ TS := tsm 1350 (by decide +kernel) rfl
theorem wM_X12_217 : Cond.methodLink RX12 217 yX12_isRun ∈ TS := tsm 1354 (by decide +kernel) rfl
theorem wM_X12_221 : Cond.methodLink RX12 221 yX12_atMoment ∈ TS := tsm 1358 (by decide +kernel) rfl
theorem wM_L_134 : Cond.methodLink RL 134 yX12_left ∈ TS := tsm 1362 (by decide +kernel) rfl
theorem wM_X12_224 : Cond.methodLink RX12 224 yX12_leftOf ∈ TS := tsm 1366 (by decide +kernel) rfl
theorem wM_L_137 : Cond.methodLink RL 137 yX12_work ∈ TS := tsm 1370 (by decide +kernel) rfl
theorem wM_L_140 : Cond.methodLink RL 140 yX12_end ∈ TS := tsm 1374 (by decide +kernel) rfl
theorem wM_L_144 : Cond.methodLink RL 144 yX12_sumOfEnds ∈ TS := tsm 1378 (by decide +kernel) rfl
theorem wM_X12_228 : Cond.methodLink RX12 228 yX12_sumOf ∈ TS := tsm 1382 (by decide +kernel) rfl
theorem wM_L_147 : Cond.methodLink RL 147 yX12_waits ∈ TS := tsm 1386 (by decide +kernel) rfl
theorem wM_X12_231 : Cond.methodLink RX12 231 yX12_longest ∈ TS := tsm 1390 (by decide +kernel) rfl
theorem wM_L_150 : Cond.methodLink RL 150 yX12_blocked ∈ TS := tsm 1393 (by decide +kernel) rfl
theorem wM_L_153 : Cond.methodLink RL 153 yX12_late ∈ TS := tsm 1397 (by decide +kernel) rfl
theorem wM_L_157 : Cond.methodLink RL 157 yX12_slowest ∈ TS := tsm 1401 (by decide +kernel) rfl
theorem wM_X12_235 : Cond.methodLink RX12 235 yX12_common ∈ TS := tsm 1405 (by decide +kernel) rfl
theorem wM_L_161 : Cond.methodLink RL 161 yX12_busy ∈ TS := tsm 1408 (by decide +kernel) rfl
theorem wM_L_164 : Cond.methodLink RL 164 yX12_checksum ∈ TS := tsm 1412 (by decide +kernel) rfl
theorem wM_L_167 : Cond.methodLink RL 167 yX12_which ∈ TS := tsm 1416 (by decide +kernel) rfl
theorem wM_X12_239 : Cond.methodLink RX12 239 yX12_isLikeLatest ∈ TS := tsm 1420 (by decide +kernel) rfl
theorem wM_L_171 : Cond.methodLink RL 171 yX12_best ∈ TS := tsm 1424 (by decide +kernel) rfl
theorem wM_X12_242 : Cond.methodLink RX12 242 yX12_sumOfWork ∈ TS := tsm 1428 (by decide +kernel) rfl
theorem wM_L_176 : Cond.methodLink RL 176 yX12_two ∈ TS := tsm 1432 (by decide +kernel) rfl
theorem wM_X12_245 : Cond.methodLink RX12 245 yX12_works ∈ TS := tsm 1436 (by decide +kernel) rfl
theorem wM_L_179 : Cond.methodLink RL 179 yX12_isFeasible ∈ TS := tsm 1440 (by decide +kernel) rfl
theorem wM_X12_248 : Cond.methodLink RX12 248 yX12_isAnyWaiting ∈ TS := tsm 1444 (by decide +kernel) rfl
theorem wM_X12_251 : Cond.methodLink RX12 251 yX12_denies ∈ TS := tsm 1448 (by decide +kernel) rfl
theorem wM_X12_254 : Cond.methodLink RX12 254 yX12_areKept ∈ TS := tsm 1452 (by decide +kernel) rfl
theorem wM_L_182 : Cond.methodLink RL 182 yX12_full ∈ TS := tsm 1456 (by decide +kernel) rfl
theorem wM_X12_266 : Cond.methodLink RX12 266 yX12_isAnyFull ∈ TS := tsm 1460 (by decide +kernel) rfl
theorem wM_X12_257 : Cond.methodLink RX12 257 yX12_workWithin ∈ TS := tsm 1464 (by decide +kernel) rfl
theorem wM_L_186 : Cond.methodLink RL 186 yX12_task ∈ TS := tsm 1468 (by decide +kernel) rfl
theorem wM_L_191 : Cond.methodLink RL 191 yX12_load ∈ TS := tsm 1472 (by decide +kernel) rfl
theorem wM_L_194 : Cond.methodLink RL 194 yX12_response ∈ TS := tsm 1476 (by decide +kernel) rfl
theorem wM_L_198 : Cond.methodLink RL 198 yX12_meanEnd ∈ TS := tsm 1480 (by decide +kernel) rfl
theorem wM_L_201 : Cond.methodLink RL 201 yX12_workShare ∈ TS := tsm 1484 (by decide +kernel) rfl
theorem wM_L_205 : Cond.methodLink RL 205 yX12_errors ∈ TS := tsm 1488 (by decide +kernel) rfl
theorem wM_X12_278 : Cond.methodLink RX12 278 yX12_isLikeBusy ∈ TS := tsm 1492 (by decide +kernel) rfl
theorem wM_X12_281 : Cond.methodLink RX12 281 yX12_lentErrors ∈ TS := tsm 1496 (by decide +kernel) rfl
theorem wM_X12_275 : Cond.methodLink RX12 275 yX12_longestFor ∈ TS := tsm 1500 (by decide +kernel) rfl
theorem kv_X0_note : KV 0 RX0 TX0 3 yX0_note cX0_note 2 none 1 := ⟨rfl, ⟨tsm 596 (by decide +kernel) rfl, tsm 597 (by decide +kernel) rfl, wI_X0, tsm 598 (by decide +kernel) rfl⟩, by decide +kernel⟩
theorem kv_X0_doingAt : KV 0 RX0 TX0 3 yX0_doingAt cX0_doingAt 2 (some .int) 1 := ⟨rfl, ⟨tsm 671 (by decide +kernel) rfl, tsm 672 (by decide +kernel) rfl, wI_X0, tsm 673 (by decide +kernel) rfl⟩, by decide +kernel⟩
theorem kv_X0_leftOf : KV 0 RX0 TX0 3 yX0_leftOf cX0_leftOf 5 (some .int) 2 := ⟨rfl, ⟨tsm 919 (by decide +kernel) rfl, tsm 920 (by decide +kernel) rfl, wI_X0, tsm 921 (by decide +kernel) rfl⟩, by decide +kernel⟩
theorem kv_X0_firstWork : KV 0 RX0 TX0 3 yX0_firstWork cX0_firstWork 3 (some .int) 1 := ⟨rfl, ⟨tsm 777 (by decide +kernel) rfl, tsm 778 (by decide +kernel) rfl, wI_X0, tsm 779 (by decide +kernel) rfl⟩, by decide +kernel⟩
theorem kv_X0_longestGap : KV 0 RX0 TX0 3 yX0_longestGap cX0_longestGap 6 (some .int) 2 := ⟨rfl, ⟨tsm 781 (by decide +kernel) rfl, tsm 782 (by decide +kernel) rfl, wI_X0, tsm 783 (by decide +kernel) rfl⟩, by decide +kernel⟩
theorem kv_X0_countWork : KV 0 RX0 TX0 3 yX0_countWork cX0_countWork 3 (some .int) 0 := ⟨rfl, ⟨tsm 1083 (by decide +kernel) rfl, tsm 1084 (by decide +kernel) rfl, wI_X0, tsm 1085 (by decide +kernel) rfl⟩, by decide +kernel⟩
theorem kv_X0_countBusy : KV 0 RX0 TX0 3 yX0_countBusy cX0_countBusy 3 (some .int) 0 := ⟨rfl, ⟨tsm 981 (by decide +kernel) rfl, tsm 982 (by decide +kernel) rfl, wI_X0, tsm 983 (by decide +kernel) rfl⟩, by decide +kernel⟩
theorem kv_X0_busyBegin : KV 0 RX0 TX0 3 yX0_busyBegin cX0_busyBegin 4 (some .int) 1 := ⟨rfl, ⟨tsm 989 (by decide +kernel) rfl, tsm 990 (by decide +kernel) rfl, wI_X0, tsm 991 (by decide +kernel) rfl⟩, by decide +kernel⟩
theorem kv_X0_busyEnd : KV 0 RX0 TX0 3 yX0_busyEnd cX0_busyEnd 3 (some .int) 1 := ⟨rfl, ⟨tsm 1008 (by decide +kernel) rfl, tsm 1009 (by decide +kernel) rfl, wI_X0, tsm 1010 (by decide +kernel) rfl⟩, by decide +kernel⟩
theorem kv_X0_beginsBusy : KV 0 RX0 TX0 3 yX0_beginsBusy cX0_beginsBusy 2 (some .boolean) 1 := ⟨rfl, ⟨tsm 986 (by decide +kernel) rfl, tsm 26 (by decide +kernel) rfl, wI_X0, tsm 987 (by decide +kernel) rfl⟩, by decide +kernel⟩
theorem kv_X0_isSameAs : KV 0 RX0 TX0 3 yX0_isSameAs cX0_isSameAs 3 (some .boolean) 1 := ⟨rfl, ⟨tsm 1026 (by decide +kernel) rfl, tsm 1027 (by decide +kernel) rfl, wI_X0, tsm 1028 (by decide +kernel) rfl⟩, by decide +kernel⟩
theorem kv_X0_isAsBusyAs : KV 0 RX0 TX0 3 yX0_isAsBusyAs cX0_isAsBusyAs 6 (some .boolean) 1 := ⟨rfl, ⟨tsm 666 (by decide +kernel) rfl, tsm 667 (by decide +kernel) rfl, wI_X0, tsm 668 (by decide +kernel) rfl⟩, by decide +kernel⟩
theorem kv_X1_tell : KV 1 RX1 TX1 11 yX1_tell cX1_tell 6 (some .int) 4 := ⟨rfl, ⟨tsm 825 (by decide +kernel) rfl, tsm 826 (by decide +kernel) rfl, wI_X1, tsm 827 (by decide +kernel) rfl⟩, by decide +kernel⟩
theorem kv_X1_letWait : KV 1 RX1 TX1 11 yX1_letWait cX1_letWait 4 (some .int) 2 := ⟨rfl, ⟨tsm 857 (by decide +kernel) rfl, tsm 858 (by decide +kernel) rfl, wI_X1, tsm 859 (by decide +kernel) rfl⟩, by decide +kernel⟩
theorem kv_X1_someWait : KV 1 RX1 TX1 11 yX1_someWait cX1_someWait 2 (some .boolean) 0 := ⟨rfl, ⟨tsm 676 (by decide +kernel) rfl, tsm 677 (by decide +kernel) rfl, wI_X1, tsm 678 (by decide +kernel) rfl⟩, by decide +kernel⟩
theorem kv_X1_addStretch : KV 1 RX1 TX1 11 yX1_addStretch cX1_addStretch 7 (some .int) 4 := ⟨rfl, ⟨tsm 878 (by decide +kernel) rfl, tsm 879 (by decide +kernel) rfl, wI_X1, tsm 880 (by decide +kernel) rfl⟩, by decide +kernel⟩
theorem kv_X1_overlaps : KV 1 RX1 TX1 11 yX1_overlaps cX1_overlaps 6 (some .boolean) 3 := ⟨rfl, ⟨tsm 874 (by decide +kernel) rfl, tsm 875 (by decide +kernel) rfl, wI_X1, tsm 876 (by decide +kernel) rfl⟩, by decide +kernel⟩
theorem kv_X1_lockAt : KV 1 RX1 TX1 11 yX1_lockAt cX1_lockAt 7 (some .int) 3 := ⟨rfl, ⟨tsm 536 (by decide +kernel) rfl, tsm 537 (by decide +kernel) rfl, wI_X1, tsm 538 (by decide +kernel) rfl⟩, by decide +kernel⟩
theorem kv_X1_highest : KV 1 RX1 TX1 11 yX1_highest cX1_highest 5 (some .int) 0 := ⟨rfl, ⟨tsm 789 (by decide +kernel) rfl, tsm 790 (by decide +kernel) rfl, wI_X1, tsm 791 (by decide +kernel) rfl⟩, by decide +kernel⟩
theorem kv_X1_mostKept : KV 1 RX1 TX1 11 yX1_mostKept cX1_mostKept 5 (some .int) 1 := ⟨rfl, ⟨tsm 793 (by decide +kernel) rfl, tsm 794 (by decide +kernel) rfl, wI_X1, tsm 795 (by decide +kernel) rfl⟩, by decide +kernel⟩
theorem kv_X1_longestRest : KV 1 RX1 TX1 11 yX1_longestRest cX1_longestRest 7 (some .int) 2 := ⟨rfl, ⟨tsm 798 (by decide +kernel) rfl, tsm 22 (by decide +kernel) rfl, wI_X1, tsm 799 (by decide +kernel) rfl⟩, by decide +kernel⟩
theorem kv_X1_fullEnd : KV 1 RX1 TX1 11 yX1_fullEnd cX1_fullEnd 6 (some .int) 1 := ⟨rfl, ⟨tsm 763 (by decide +kernel) rfl, tsm 764 (by decide +kernel) rfl, wI_X1, tsm 765 (by decide +kernel) rfl⟩, by decide +kernel⟩
theorem kv_X1_workBetween : KV 1 RX1 TX1 11 yX1_workBetween cX1_workBetween 6 (some .int) 2 := ⟨rfl, ⟨tsm 768 (by decide +kernel) rfl, tsm 769 (by decide +kernel) rfl, wI_X1, tsm 770 (by decide +kernel) rfl⟩, by decide +kernel⟩
theorem kv_X2_empty : KV 2 RX2 TX2 3 yX2_empty cX2_empty 1 none 0 := ⟨rfl, ⟨tsm 465 (by decide +kernel) rfl, tsm 466 (by decide +kernel) rfl, wI_X2, tsm 467 (by decide +kernel) rfl⟩, by decide +kernel⟩
theorem kv_X2_lineOf : KV 2 RX2 TX2 3 yX2_lineOf cX2_lineOf 2 (some (.object "Slicehouse$Line")) 1 := ⟨rfl, ⟨tsm 515 (by decide +kernel) rfl, tsm 516 (by decide +kernel) rfl, wI_X2, tsm 517 (by decide +kernel) rfl⟩, by decide +kernel⟩
theorem kv_X2_rise : KV 2 RX2 TX2 3 yX2_rise cX2_rise 1 none 0 := ⟨rfl, ⟨tsm 485 (by decide +kernel) rfl, tsm 486 (by decide +kernel) rfl, wI_X2, tsm 487 (by decide +kernel) rfl⟩, by decide +kernel⟩
theorem kv_X2_lowest : KV 2 RX2 TX2 3 yX2_lowest cX2_lowest 1 (some .int) 0 := ⟨rfl, ⟨tsm 558 (by decide +kernel) rfl, tsm 559 (by decide +kernel) rfl, wI_X2, tsm 560 (by decide +kernel) rfl⟩, by decide +kernel⟩
theorem kv_X3_empty : KV 3 RX3 TX3 2 yX3_empty cX3_empty 1 none 0 := ⟨rfl, ⟨tsm 469 (by decide +kernel) rfl, tsm 470 (by decide +kernel) rfl, wI_X3, tsm 471 (by decide +kernel) rfl⟩, by decide +kernel⟩
theorem kv_X3_isEmpty : KV 3 RX3 TX3 2 yX3_isEmpty cX3_isEmpty 1 (some .boolean) 0 := ⟨rfl, ⟨tsm 562 (by decide +kernel) rfl, tsm 563 (by decide +kernel) rfl, wI_X3, tsm 564 (by decide +kernel) rfl⟩, by decide +kernel⟩
theorem kv_X3_join : KV 3 RX3 TX3 2 yX3_join cX3_join 2 none 1 := ⟨rfl, ⟨tsm 493 (by decide +kernel) rfl, tsm 494 (by decide +kernel) rfl, wI_X3, tsm 495 (by decide +kernel) rfl⟩, by decide +kernel⟩
theorem kv_X3_takeFirst : KV 3 RX3 TX3 2 yX3_takeFirst cX3_takeFirst 3 (some .int) 0 := ⟨rfl, ⟨tsm 566 (by decide +kernel) rfl, tsm 567 (by decide +kernel) rfl, wI_X3, tsm 568 (by decide +kernel) rfl⟩, by decide +kernel⟩
theorem kv_X3_moveTo : KV 3 RX3 TX3 2 yX3_moveTo cX3_moveTo 3 none 1 := ⟨rfl, ⟨tsm 489 (by decide +kernel) rfl, tsm 490 (by decide +kernel) rfl, wI_X3, tsm 491 (by decide +kernel) rfl⟩, by decide +kernel⟩
theorem kv_X4_look : KV 4 RX4 TX4 5 yX4_look cX4_look 5 none 1 := ⟨rfl, ⟨tsm 527 (by decide +kernel) rfl, tsm 528 (by decide +kernel) rfl, wI_X4, tsm 529 (by decide +kernel) rfl⟩, by decide +kernel⟩
theorem kv_X4_isBlocked : KV 4 RX4 TX4 5 yX4_isBlocked cX4_isBlocked 2 (some .boolean) 1 := ⟨rfl, ⟨tsm 547 (by decide +kernel) rfl, tsm 548 (by decide +kernel) rfl, wI_X4, tsm 549 (by decide +kernel) rfl⟩, by decide +kernel⟩
theorem kv_X4_greatest : KV 4 RX4 TX4 5 yX4_greatest cX4_greatest 4 (some .int) 0 := ⟨rfl, ⟨tsm 576 (by decide +kernel) rfl, tsm 577 (by decide +kernel) rfl, wI_X4, tsm 578 (by decide +kernel) rfl⟩, by decide +kernel⟩
theorem kv_X5_workBy : KV 5 RX5 TX5 2 yX5_workBy cX5_workBy 5 none 1 := ⟨rfl, ⟨tsm 627 (by decide +kernel) rfl, tsm 628 (by decide +kernel) rfl, wI_X5, tsm 629 (by decide +kernel) rfl⟩, by decide +kernel⟩
theorem kv_X5_least : KV 5 RX5 TX5 2 yX5_least cX5_least 7 (some .int) 2 := ⟨rfl, ⟨tsm 635 (by decide +kernel) rfl, tsm 14 (by decide +kernel) rfl, wI_X5, tsm 636 (by decide +kernel) rfl⟩, by decide +kernel⟩
theorem kv_X6_begin : KV 6 RX6 TX6 7 yX6_begin cX6_begin 2 none 0 := ⟨rfl, ⟨tsm 453 (by decide +kernel) rfl, tsm 454 (by decide +kernel) rfl, wI_X6, tsm 455 (by decide +kernel) rfl⟩, by decide +kernel⟩
theorem kv_X6_admit : KV 6 RX6 TX6 7 yX6_admit cX6_admit 6 (some .int) 1 := ⟨rfl, ⟨tsm 497 (by decide +kernel) rfl, tsm 498 (by decide +kernel) rfl, wI_X6, tsm 499 (by decide +kernel) rfl⟩, by decide +kernel⟩
theorem kv_X6_isReady : KV 6 RX6 TX6 7 yX6_isReady cX6_isReady 2 (some .boolean) 1 := ⟨rfl, ⟨tsm 543 (by decide +kernel) rfl, tsm 544 (by decide +kernel) rfl, wI_X6, tsm 545 (by decide +kernel) rfl⟩, by decide +kernel⟩
theorem kv_X6_isOver : KV 6 RX6 TX6 7 yX6_isOver cX6_isOver 1 (some .boolean) 0 := ⟨rfl, ⟨tsm 477 (by decide +kernel) rfl, tsm 478 (by decide +kernel) rfl, wI_X6, tsm 479 (by decide +kernel) rfl⟩, by decide +kernel⟩
theorem kv_X6_done : KV 6 RX6 TX6 7 yX6_done cX6_done 2 (some .int) 1 := ⟨rfl, ⟨tsm 532 (by decide +kernel) rfl, tsm 533 (by decide +kernel) rfl, wI_X6, tsm 534 (by decide +kernel) rfl⟩, by decide +kernel⟩
theorem kv_X6_spendOn : KV 6 RX6 TX6 7 yX6_spendOn cX6_spendOn 3 none 2 := ⟨rfl, ⟨tsm 614 (by decide +kernel) rfl, tsm 615 (by decide +kernel) rfl, wI_X6, tsm 616 (by decide +kernel) rfl⟩, by decide +kernel⟩
theorem kv_X6_endsTogether : KV 6 RX6 TX6 7 yX6_endsTogether cX6_endsTogether 3 (some .int) 0 := ⟨rfl, ⟨tsm 619 (by decide +kernel) rfl, tsm 620 (by decide +kernel) rfl, wI_X6, tsm 621 (by decide +kernel) rfl⟩, by decide +kernel⟩
theorem kv_X6_lateness : KV 6 RX6 TX6 7 yX6_lateness cX6_lateness 3 (some .int) 1 := ⟨rfl, ⟨tsm 645 (by decide +kernel) rfl, tsm 646 (by decide +kernel) rfl, wI_X6, tsm 647 (by decide +kernel) rfl⟩, by decide +kernel⟩
theorem kv_X6_countLate : KV 6 RX6 TX6 7 yX6_countLate cX6_countLate 3 (some .int) 0 := ⟨rfl, ⟨tsm 641 (by decide +kernel) rfl, tsm 642 (by decide +kernel) rfl, wI_X6, tsm 643 (by decide +kernel) rfl⟩, by decide +kernel⟩
theorem kv_X7_at : KV 7 RX7 TX7 1 yX7_at cX7_at 2 (some .int) 1 := ⟨rfl, ⟨tsm 457 (by decide +kernel) rfl, tsm 458 (by decide +kernel) rfl, wI_X7, tsm 459 (by decide +kernel) rfl⟩, by decide +kernel⟩
theorem kv_X7_put : KV 7 RX7 TX7 1 yX7_put cX7_put 3 none 2 := ⟨rfl, ⟨tsm 461 (by decide +kernel) rfl, tsm 462 (by decide +kernel) rfl, wI_X7, tsm 463 (by decide +kernel) rfl⟩, by decide +kernel⟩
theorem kv_X7_add : KV 7 RX7 TX7 1 yX7_add cX7_add 3 none 2 := ⟨rfl, ⟨tsm 606 (by decide +kernel) rfl, tsm 607 (by decide +kernel) rfl, wI_X7, tsm 608 (by decide +kernel) rfl⟩, by decide +kernel⟩
theorem kv_X7_fill : KV 7 RX7 TX7 1 yX7_fill cX7_fill 3 none 1 := ⟨rfl, ⟨tsm 473 (by decide +kernel) rfl, tsm 474 (by decide +kernel) rfl, wI_X7, tsm 475 (by decide +kernel) rfl⟩, by decide +kernel⟩
theorem kv_X8_tell : KV 8 RX8 TX8 4 yX8_tell cX8_tell 5 (some .int) 3 := ⟨rfl, ⟨tsm 1048 (by decide +kernel) rfl, tsm 1049 (by decide +kernel) rfl, wI_X8, tsm 1050 (by decide +kernel) rfl⟩, by decide +kernel⟩
theorem kv_X8_workAhead : KV 8 RX8 TX8 4 yX8_workAhead cX8_workAhead 6 (some .int) 2 := ⟨rfl, ⟨tsm 1060 (by decide +kernel) rfl, tsm 1061 (by decide +kernel) rfl, wI_X8, tsm 1062 (by decide +kernel) rfl⟩, by decide +kernel⟩
theorem kv_X8_goesAhead : KV 8 RX8 TX8 4 yX8_goesAhead cX8_goesAhead 4 (some .boolean) 2 := ⟨rfl, ⟨tsm 1066 (by decide +kernel) rfl, tsm 27 (by decide +kernel) rfl, wI_X8, tsm 1067 (by decide +kernel) rfl⟩, by decide +kernel⟩
theorem kv_X10_follow : KV 10 RX10 TX10 18 yX10_follow cX10_follow 6 none 4 := ⟨rfl, ⟨tsm 445 (by decide +kernel) rfl, tsm 446 (by decide +kernel) rfl, wI_X10, tsm 447 (by decide +kernel) rfl⟩, by decide +kernel⟩
theorem kv_X10_begin : KV 10 RX10 TX10 18 yX10_begin cX10_begin 1 none 0 := ⟨rfl, ⟨tsm 450 (by decide +kernel) rfl, tsm 0 (by decide +kernel) rfl, wI_X10, tsm 451 (by decide +kernel) rfl⟩, by decide +kernel⟩
theorem kv_X10_beginMoment : KV 10 RX10 TX10 18 yX10_beginMoment cX10_beginMoment 4 none 1 := ⟨rfl, ⟨tsm 482 (by decide +kernel) rfl, tsm 1 (by decide +kernel) rfl, wI_X10, tsm 483 (by decide +kernel) rfl⟩, by decide +kernel⟩
theorem kv_X10_welcome : KV 10 RX10 TX10 18 yX10_welcome cX10_welcome 4 none 2 := ⟨rfl, ⟨tsm 507 (by decide +kernel) rfl, tsm 3 (by decide +kernel) rfl, wI_X10, tsm 508 (by decide +kernel) rfl⟩, by decide +kernel⟩
theorem kv_X10_leastCount : KV 10 RX10 TX10 18 yX10_leastCount cX10_leastCount 4 (some .int) 1 := ⟨rfl, ⟨tsm 502 (by decide +kernel) rfl, tsm 2 (by decide +kernel) rfl, wI_X10, tsm 503 (by decide +kernel) rfl⟩, by decide +kernel⟩
theorem kv_X10_endSlice : KV 10 RX10 TX10 18 yX10_endSlice cX10_endSlice 2 none 0 := ⟨rfl, ⟨tsm 521 (by decide +kernel) rfl, tsm 5 (by decide +kernel) rfl, wI_X10, tsm 522 (by decide +kernel) rfl⟩, by decide +kernel⟩
theorem kv_X10_usesLevels : KV 10 RX10 TX10 18 yX10_usesLevels cX10_usesLevels 1 (some .boolean) 0 := ⟨rfl, ⟨tsm 512 (by decide +kernel) rfl, tsm 4 (by decide +kernel) rfl, wI_X10, tsm 513 (by decide +kernel) rfl⟩, by decide +kernel⟩
theorem kv_X10_choose : KV 10 RX10 TX10 18 yX10_choose cX10_choose 1 none 0 := ⟨rfl, ⟨tsm 555 (by decide +kernel) rfl, tsm 6 (by decide +kernel) rfl, wI_X10, tsm 556 (by decide +kernel) rfl⟩, by decide +kernel⟩
theorem kv_X10_turnOf : KV 10 RX10 TX10 18 yX10_turnOf cX10_turnOf 2 (some .int) 1 := ⟨rfl, ⟨tsm 589 (by decide +kernel) rfl, tsm 10 (by decide +kernel) rfl, wI_X10, tsm 590 (by decide +kernel) rfl⟩, by decide +kernel⟩
theorem kv_X10_drawn : KV 10 RX10 TX10 18 yX10_drawn cX10_drawn 4 (some .int) 0 := ⟨rfl, ⟨tsm 571 (by decide +kernel) rfl, tsm 7 (by decide +kernel) rfl, wI_X10, tsm 572 (by decide +kernel) rfl⟩, by decide +kernel⟩
theorem kv_X10_leastByKey : KV 10 RX10 TX10 18 yX10_leastByKey cX10_leastByKey 5 (some .int) 0 := ⟨rfl, ⟨tsm 581 (by decide +kernel) rfl, tsm 8 (by decide +kernel) rfl, wI_X10, tsm 582 (by decide +kernel) rfl⟩, by decide +kernel⟩
theorem kv_X10_keyOf : KV 10 RX10 TX10 18 yX10_keyOf cX10_keyOf 2 (some .int) 1 := ⟨rfl, ⟨tsm 585 (by decide +kernel) rfl, tsm 9 (by decide +kernel) rfl, wI_X10, tsm 586 (by decide +kernel) rfl⟩, by decide +kernel⟩
theorem kv_X10_pass : KV 10 RX10 TX10 18 yX10_pass cX10_pass 2 none 1 := ⟨rfl, ⟨tsm 593 (by decide +kernel) rfl, tsm 11 (by decide +kernel) rfl, wI_X10, tsm 594 (by decide +kernel) rfl⟩, by decide +kernel⟩
theorem kv_X10_workAtChosen : KV 10 RX10 TX10 18 yX10_workAtChosen cX10_workAtChosen 3 none 1 := ⟨rfl, ⟨tsm 611 (by decide +kernel) rfl, tsm 13 (by decide +kernel) rfl, wI_X10, tsm 612 (by decide +kernel) rfl⟩, by decide +kernel⟩
theorem kv_X10_countKept : KV 10 RX10 TX10 18 yX10_countKept cX10_countKept 3 none 0 := ⟨rfl, ⟨tsm 602 (by decide +kernel) rfl, tsm 12 (by decide +kernel) rfl, wI_X10, tsm 603 (by decide +kernel) rfl⟩, by decide +kernel⟩
theorem kv_X11_job : KV 11 RX11 TX11 8 yX11_job cX11_job 5 (some .int) 4 := ⟨rfl, ⟨tsm 806 (by decide +kernel) rfl, tsm 807 (by decide +kernel) rfl, wI_X11, tsm 808 (by decide +kernel) rfl⟩, by decide +kernel⟩
theorem kv_X11_after : KV 11 RX11 TX11 8 yX11_after cX11_after 3 (some .int) 2 := ⟨rfl, ⟨tsm 834 (by decide +kernel) rfl, tsm 835 (by decide +kernel) rfl, wI_X11, tsm 836 (by decide +kernel) rfl⟩, by decide +kernel⟩
theorem kv_X11_lock : KV 11 RX11 TX11 8 yX11_lock cX11_lock 5 (some .int) 4 := ⟨rfl, ⟨tsm 870 (by decide +kernel) rfl, tsm 871 (by decide +kernel) rfl, wI_X11, tsm 872 (by decide +kernel) rfl⟩, by decide +kernel⟩
theorem kv_X11_turns : KV 11 RX11 TX11 8 yX11_turns cX11_turns 7 (some .int) 5 := ⟨rfl, ⟨tsm 885 (by decide +kernel) rfl, tsm 886 (by decide +kernel) rfl, wI_X11, tsm 887 (by decide +kernel) rfl⟩, by decide +kernel⟩
theorem kv_X11_clear : KV 11 RX11 TX11 8 yX11_clear cX11_clear 2 (some .int) 0 := ⟨rfl, ⟨tsm 437 (by decide +kernel) rfl, tsm 438 (by decide +kernel) rfl, wI_X11, tsm 439 (by decide +kernel) rfl⟩, by decide +kernel⟩
theorem kv_X11_run : KV 11 RX11 TX11 8 yX11_run cX11_run 2 (some .int) 1 := ⟨rfl, ⟨tsm 892 (by decide +kernel) rfl, tsm 893 (by decide +kernel) rfl, wI_X11, tsm 894 (by decide +kernel) rfl⟩, by decide +kernel⟩
theorem kv_X11_running : KV 11 RX11 TX11 8 yX11_running cX11_running 2 (some .int) 1 := ⟨rfl, ⟨tsm 899 (by decide +kernel) rfl, tsm 900 (by decide +kernel) rfl, wI_X11, tsm 901 (by decide +kernel) rfl⟩, by decide +kernel⟩
theorem kv_X11_left : KV 11 RX11 TX11 8 yX11_left cX11_left 3 (some .int) 2 := ⟨rfl, ⟨tsm 915 (by decide +kernel) rfl, tsm 916 (by decide +kernel) rfl, wI_X11, tsm 917 (by decide +kernel) rfl⟩, by decide +kernel⟩
theorem kv_X11_work : KV 11 RX11 TX11 8 yX11_work cX11_work 4 (some .int) 1 := ⟨rfl, ⟨tsm 926 (by decide +kernel) rfl, tsm 927 (by decide +kernel) rfl, wI_X11, tsm 928 (by decide +kernel) rfl⟩, by decide +kernel⟩
theorem kv_X11_end : KV 11 RX11 TX11 8 yX11_end cX11_end 2 (some .int) 1 := ⟨rfl, ⟨tsm 933 (by decide +kernel) rfl, tsm 934 (by decide +kernel) rfl, wI_X11, tsm 935 (by decide +kernel) rfl⟩, by decide +kernel⟩
theorem kv_X11_sumOfEnds : KV 11 RX11 TX11 8 yX11_sumOfEnds cX11_sumOfEnds 1 (some .int) 0 := ⟨rfl, ⟨tsm 940 (by decide +kernel) rfl, tsm 941 (by decide +kernel) rfl, wI_X11, tsm 942 (by decide +kernel) rfl⟩, by decide +kernel⟩
theorem kv_X11_waits : KV 11 RX11 TX11 8 yX11_waits cX11_waits 2 (some .int) 1 := ⟨rfl, ⟨tsm 947 (by decide +kernel) rfl, tsm 948 (by decide +kernel) rfl, wI_X11, tsm 949 (by decide +kernel) rfl⟩, by decide +kernel⟩
theorem kv_X11_blocked : KV 11 RX11 TX11 8 yX11_blocked cX11_blocked 2 (some .int) 1 := ⟨rfl, ⟨tsm 954 (by decide +kernel) rfl, tsm 955 (by decide +kernel) rfl, wI_X11, tsm 956 (by decide +kernel) rfl⟩, by decide +kernel⟩
theorem kv_X11_late : KV 11 RX11 TX11 8 yX11_late cX11_late 2 (some .int) 1 := ⟨rfl, ⟨tsm 961 (by decide +kernel) rfl, tsm 962 (by decide +kernel) rfl, wI_X11, tsm 963 (by decide +kernel) rfl⟩, by decide +kernel⟩
theorem kv_X11_slowest : KV 11 RX11 TX11 8 yX11_slowest cX11_slowest 7 (some .int) 1 := ⟨rfl, ⟨tsm 969 (by decide +kernel) rfl, tsm 970 (by decide +kernel) rfl, wI_X11, tsm 971 (by decide +kernel) rfl⟩, by decide +kernel⟩
theorem kv_X11_busy : KV 11 RX11 TX11 8 yX11_busy cX11_busy 4 (some .int) 2 := ⟨rfl, ⟨tsm 977 (by decide +kernel) rfl, tsm 978 (by decide +kernel) rfl, wI_X11, tsm 979 (by decide +kernel) rfl⟩, by decide +kernel⟩
theorem kv_X11_checksum : KV 11 RX11 TX11 8 yX11_checksum cX11_checksum 3 (some .int) 0 := ⟨rfl, ⟨tsm 1015 (by decide +kernel) rfl, tsm 1016 (by decide +kernel) rfl, wI_X11, tsm 1017 (by decide +kernel) rfl⟩, by decide +kernel⟩
theorem kv_X11_which : KV 11 RX11 TX11 8 yX11_which cX11_which 3 (some .int) 0 := ⟨rfl, ⟨tsm 1022 (by decide +kernel) rfl, tsm 1023 (by decide +kernel) rfl, wI_X11, tsm 1024 (by decide +kernel) rfl⟩, by decide +kernel⟩
theorem kv_X11_best : KV 11 RX11 TX11 8 yX11_best cX11_best 5 (some .int) 0 := ⟨rfl, ⟨tsm 441 (by decide +kernel) rfl, tsm 442 (by decide +kernel) rfl, wI_X11, tsm 443 (by decide +kernel) rfl⟩, by decide +kernel⟩
theorem kv_X11_two : KV 11 RX11 TX11 8 yX11_two cX11_two 3 (some .int) 2 := ⟨rfl, ⟨tsm 623 (by decide +kernel) rfl, tsm 624 (by decide +kernel) rfl, wI_X11, tsm 625 (by decide +kernel) rfl⟩, by decide +kernel⟩
theorem kv_X11_isFeasible : KV 11 RX11 TX11 8 yX11_isFeasible cX11_isFeasible 1 (some .boolean) 0 := ⟨rfl, ⟨tsm 1033 (by decide +kernel) rfl, tsm 1034 (by decide +kernel) rfl, wI_X11, tsm 1035 (by decide +kernel) rfl⟩, by decide +kernel⟩
theorem kv_X11_full : KV 11 RX11 TX11 8 yX11_full cX11_full 4 (some .int) 1 := ⟨rfl, ⟨tsm 692 (by decide +kernel) rfl, tsm 693 (by decide +kernel) rfl, wI_X11, tsm 694 (by decide +kernel) rfl⟩, by decide +kernel⟩
theorem kv_X11_task : KV 11 RX11 TX11 8 yX11_task cX11_task 4 (some .int) 3 := ⟨rfl, ⟨tsm 1044 (by decide +kernel) rfl, tsm 1045 (by decide +kernel) rfl, wI_X11, tsm 1046 (by decide +kernel) rfl⟩, by decide +kernel⟩
theorem kv_X11_load : KV 11 RX11 TX11 8 yX11_load cX11_load 8 (some .long) 1 := ⟨rfl, ⟨tsm 650 (by decide +kernel) rfl, tsm 651 (by decide +kernel) rfl, wI_X11, tsm 652 (by decide +kernel) rfl⟩, by decide +kernel⟩
theorem kv_X11_response : KV 11 RX11 TX11 8 yX11_response cX11_response 3 (some .int) 1 := ⟨rfl, ⟨tsm 1056 (by decide +kernel) rfl, tsm 1057 (by decide +kernel) rfl, wI_X11, tsm 1058 (by decide +kernel) rfl⟩, by decide +kernel⟩
theorem kv_X11_meanEnd : KV 11 RX11 TX11 8 yX11_meanEnd cX11_meanEnd 1 (some .double) 0 := ⟨rfl, ⟨tsm 1072 (by decide +kernel) rfl, tsm 1073 (by decide +kernel) rfl, wI_X11, tsm 1074 (by decide +kernel) rfl⟩, by decide +kernel⟩
theorem kv_X11_workShare : KV 11 RX11 TX11 8 yX11_workShare cX11_workShare 1 (some .float) 0 := ⟨rfl, ⟨tsm 1079 (by decide +kernel) rfl, tsm 1080 (by decide +kernel) rfl, wI_X11, tsm 1081 (by decide +kernel) rfl⟩, by decide +kernel⟩
theorem kv_X11_errors : KV 11 RX11 TX11 8 yX11_errors cX11_errors 3 (some .int) 0 := ⟨rfl, ⟨tsm 658 (by decide +kernel) rfl, tsm 659 (by decide +kernel) rfl, wI_X11, tsm 660 (by decide +kernel) rfl⟩, by decide +kernel⟩
theorem kv_X11_haveRulesSameBusyTime : KV 11 RX11 TX11 8 yX11_haveRulesSameBusyTime cX11_haveRulesSameBusyTime 2 (some .boolean) 0 := ⟨rfl, ⟨tsm 663 (by decide +kernel) rfl, tsm 15 (by decide +kernel) rfl, wI_X11, tsm 664 (by decide +kernel) rfl⟩, by decide +kernel⟩
theorem kv_X11_hasLeastLeftLeastEnds : KV 11 RX11 TX11 8 yX11_hasLeastLeftLeastEnds cX11_hasLeastLeftLeastEnds 3 (some .boolean) 0 := ⟨rfl, ⟨tsm 685 (by decide +kernel) rfl, tsm 17 (by decide +kernel) rfl, wI_X11, tsm 686 (by decide +kernel) rfl⟩, by decide +kernel⟩
theorem kv_X11_keepsDeadlines : KV 11 RX11 TX11 8 yX11_keepsDeadlines cX11_keepsDeadlines 2 (some .boolean) 1 := ⟨rfl, ⟨tsm 681 (by decide +kernel) rfl, tsm 16 (by decide +kernel) rfl, wI_X11, tsm 682 (by decide +kernel) rfl⟩, by decide +kernel⟩
theorem kv_X11_doesSomeRuleKeepDeadlines : KV 11 RX11 TX11 8 yX11_doesSomeRuleKeepDeadlines cX11_doesSomeRuleKeepDeadlines 2 (some .boolean) 0 := ⟨rfl, ⟨tsm 689 (by decide +kernel) rfl, tsm 18 (by decide +kernel) rfl, wI_X11, tsm 690 (by decide +kernel) rfl⟩, by decide +kernel⟩
theorem kv_X11_isRingFair : KV 11 RX11 TX11 8 yX11_isRingFair cX11_isRingFair 3 (some .boolean) 0 := ⟨rfl, ⟨tsm 774 (by decide +kernel) rfl, tsm 20 (by decide +kernel) rfl, wI_X11, tsm 775 (by decide +kernel) rfl⟩, by decide +kernel⟩
theorem kv_X11_isHighestFreeInTime : KV 11 RX11 TX11 8 yX11_isHighestFreeInTime cX11_isHighestFreeInTime 2 (some .boolean) 0 := ⟨rfl, ⟨tsm 786 (by decide +kernel) rfl, tsm 21 (by decide +kernel) rfl, wI_X11, tsm 787 (by decide +kernel) rfl⟩, by decide +kernel⟩
theorem kv_X11_needJob : KV 11 RX11 TX11 8 yX11_needJob cX11_needJob 2 none 1 := ⟨rfl, ⟨tsm 839 (by decide +kernel) rfl, tsm 23 (by decide +kernel) rfl, wI_X11, tsm 840 (by decide +kernel) rfl⟩, by decide +kernel⟩
theorem kv_X11_needMoment : KV 11 RX11 TX11 8 yX11_needMoment cX11_needMoment 2 none 1 := ⟨rfl, ⟨tsm 904 (by decide +kernel) rfl, tsm 24 (by decide +kernel) rfl, wI_X11, tsm 905 (by decide +kernel) rfl⟩, by decide +kernel⟩
theorem kv_X11_needRun : KV 11 RX11 TX11 8 yX11_needRun cX11_needRun 1 none 0 := ⟨rfl, ⟨tsm 908 (by decide +kernel) rfl, tsm 25 (by decide +kernel) rfl, wI_X11, tsm 909 (by decide +kernel) rfl⟩, by decide +kernel⟩
theorem kv_X11_isOutside : KS RX11 yX11_isOutside cX11_isOutside 3 (some .boolean) 3 := ⟨⟨tsm 696 (by decide +kernel) rfl, wI_X11, tsm 697 (by decide +kernel) rfl⟩, by decide +kernel⟩
theorem kv_X11_reduced : KS RX11 yX11_reduced cX11_reduced 11 (some .long) 2 := ⟨⟨tsm 655 (by decide +kernel) rfl, wI_X11, tsm 656 (by decide +kernel) rfl⟩, by decide +kernel⟩
theorem kv_X12_thrown : KV 12 RX12 TX12 43 yX12_thrown cX12_thrown 1 (some .int) 0 := ⟨rfl, ⟨tsm 1224 (by decide +kernel) rfl, tsm 1225 (by decide +kernel) rfl, wI_X12, tsm 1226 (by decide +kernel) rfl⟩, by decide +kernel⟩
theorem kv_X12_in : KS RX12 yX12_in cX12_in 3 (some .boolean) 3 := ⟨⟨tsm 1232 (by decide +kernel) rfl, wI_X12, tsm 1233 (by decide +kernel) rfl⟩, by decide +kernel⟩
theorem kv_X12_isJob : KV 12 RX12 TX12 43 yX12_isJob cX12_isJob 2 (some .boolean) 1 := ⟨rfl, ⟨tsm 1252 (by decide +kernel) rfl, tsm 31 (by decide +kernel) rfl, wI_X12, tsm 1253 (by decide +kernel) rfl⟩, by decide +kernel⟩
theorem kv_X12_refuse : KV 12 RX12 TX12 43 yX12_refuse cX12_refuse 2 (some .int) 1 := ⟨rfl, ⟨tsm 1236 (by decide +kernel) rfl, tsm 28 (by decide +kernel) rfl, wI_X12, tsm 1237 (by decide +kernel) rfl⟩, by decide +kernel⟩
theorem kv_X12_told : KV 12 RX12 TX12 43 yX12_told cX12_told 2 (some .int) 1 := ⟨rfl, ⟨tsm 1244 (by decide +kernel) rfl, tsm 30 (by decide +kernel) rfl, wI_X12, tsm 1245 (by decide +kernel) rfl⟩, by decide +kernel⟩
theorem kv_X12_denies : KV 12 RX12 TX12 43 yX12_denies cX12_denies 2 (some .boolean) 1 := ⟨rfl, ⟨tsm 1450 (by decide +kernel) rfl, tsm 59 (by decide +kernel) rfl, wI_X12, tsm 1451 (by decide +kernel) rfl⟩, by decide +kernel⟩
theorem kv_X12_changed : KV 12 RX12 TX12 43 yX12_changed cX12_changed 2 (some .int) 1 := ⟨rfl, ⟨tsm 1240 (by decide +kernel) rfl, tsm 29 (by decide +kernel) rfl, wI_X12, tsm 1241 (by decide +kernel) rfl⟩, by decide +kernel⟩
theorem kv_X12_job : KV 12 RX12 TX12 43 yX12_job cX12_job 5 (some .int) 4 := ⟨rfl, ⟨tsm 1228 (by decide +kernel) rfl, tsm 1229 (by decide +kernel) rfl, wI_X12, tsm 1230 (by decide +kernel) rfl⟩, by decide +kernel⟩
theorem kv_X12_bits : KS RX12 yX12_bits cX12_bits 3 (some .int) 1 := ⟨⟨tsm 1255 (by decide +kernel) rfl, wI_X12, tsm 1256 (by decide +kernel) rfl⟩, by decide +kernel⟩
theorem kv_X12_after : KV 12 RX12 TX12 43 yX12_after cX12_after 3 (some .int) 2 := ⟨rfl, ⟨tsm 1247 (by decide +kernel) rfl, tsm 1248 (by decide +kernel) rfl, wI_X12, tsm 1249 (by decide +kernel) rfl⟩, by decide +kernel⟩
theorem kv_X12_lock : KV 12 RX12 TX12 43 yX12_lock cX12_lock 7 (some .int) 4 := ⟨rfl, ⟨tsm 1258 (by decide +kernel) rfl, tsm 1259 (by decide +kernel) rfl, wI_X12, tsm 1260 (by decide +kernel) rfl⟩, by decide +kernel⟩
theorem kv_X12_turns : KV 12 RX12 TX12 43 yX12_turns cX12_turns 7 (some .int) 5 := ⟨rfl, ⟨tsm 1262 (by decide +kernel) rfl, tsm 1263 (by decide +kernel) rfl, wI_X12, tsm 1264 (by decide +kernel) rfl⟩, by decide +kernel⟩
theorem kv_X12_clear : KV 12 RX12 TX12 43 yX12_clear cX12_clear 2 (some .int) 0 := ⟨rfl, ⟨tsm 1266 (by decide +kernel) rfl, tsm 1267 (by decide +kernel) rfl, wI_X12, tsm 1268 (by decide +kernel) rfl⟩, by decide +kernel⟩
theorem kv_X12_joins : KV 12 RX12 TX12 43 yX12_joins cX12_joins 3 none 2 := ⟨rfl, ⟨tsm 1291 (by decide +kernel) rfl, tsm 36 (by decide +kernel) rfl, wI_X12, tsm 1292 (by decide +kernel) rfl⟩, by decide +kernel⟩
theorem kv_X12_takes : KV 12 RX12 TX12 43 yX12_takes cX12_takes 4 (some .int) 1 := ⟨rfl, ⟨tsm 1287 (by decide +kernel) rfl, tsm 35 (by decide +kernel) rfl, wI_X12, tsm 1288 (by decide +kernel) rfl⟩, by decide +kernel⟩
theorem kv_X12_rises : KV 12 RX12 TX12 43 yX12_rises cX12_rises 2 none 0 := ⟨rfl, ⟨tsm 1283 (by decide +kernel) rfl, tsm 34 (by decide +kernel) rfl, wI_X12, tsm 1284 (by decide +kernel) rfl⟩, by decide +kernel⟩
theorem kv_X12_canBegin : KV 12 RX12 TX12 43 yX12_canBegin cX12_canBegin 5 (some .boolean) 2 := ⟨rfl, ⟨tsm 1299 (by decide +kernel) rfl, tsm 38 (by decide +kernel) rfl, wI_X12, tsm 1300 (by decide +kernel) rfl⟩, by decide +kernel⟩
theorem kv_X12_leastCount : KV 12 RX12 TX12 43 yX12_leastCount cX12_leastCount 4 (some .int) 1 := ⟨rfl, ⟨tsm 1303 (by decide +kernel) rfl, tsm 39 (by decide +kernel) rfl, wI_X12, tsm 1304 (by decide +kernel) rfl⟩, by decide +kernel⟩
theorem kv_X12_becomesReady : KV 12 RX12 TX12 43 yX12_becomesReady cX12_becomesReady 4 none 2 := ⟨rfl, ⟨tsm 1295 (by decide +kernel) rfl, tsm 37 (by decide +kernel) rfl, wI_X12, tsm 1296 (by decide +kernel) rfl⟩, by decide +kernel⟩
theorem kv_X12_isThere : KV 12 RX12 TX12 43 yX12_isThere cX12_isThere 2 (some .boolean) 1 := ⟨rfl, ⟨tsm 1311 (by decide +kernel) rfl, tsm 41 (by decide +kernel) rfl, wI_X12, tsm 1312 (by decide +kernel) rfl⟩, by decide +kernel⟩
theorem kv_X12_needs : KV 12 RX12 TX12 43 yX12_needs cX12_needs 4 (some .int) 1 := ⟨rfl, ⟨tsm 1319 (by decide +kernel) rfl, tsm 43 (by decide +kernel) rfl, wI_X12, tsm 1320 (by decide +kernel) rfl⟩, by decide +kernel⟩
theorem kv_X12_has : KV 12 RX12 TX12 43 yX12_has cX12_has 6 (some .boolean) 2 := ⟨rfl, ⟨tsm 1323 (by decide +kernel) rfl, tsm 44 (by decide +kernel) rfl, wI_X12, tsm 1324 (by decide +kernel) rfl⟩, by decide +kernel⟩
theorem kv_X12_keeper : KV 12 RX12 TX12 43 yX12_keeper cX12_keeper 4 (some .int) 1 := ⟨rfl, ⟨tsm 1315 (by decide +kernel) rfl, tsm 42 (by decide +kernel) rfl, wI_X12, tsm 1316 (by decide +kernel) rfl⟩, by decide +kernel⟩
theorem kv_X12_rankOf : KV 12 RX12 TX12 43 yX12_rankOf cX12_rankOf 5 (some .int) 2 := ⟨rfl, ⟨tsm 1331 (by decide +kernel) rfl, tsm 46 (by decide +kernel) rfl, wI_X12, tsm 1332 (by decide +kernel) rfl⟩, by decide +kernel⟩
theorem kv_X12_draws : KV 12 RX12 TX12 43 yX12_draws cX12_draws 2 (some .int) 1 := ⟨rfl, ⟨tsm 1339 (by decide +kernel) rfl, tsm 48 (by decide +kernel) rfl, wI_X12, tsm 1340 (by decide +kernel) rfl⟩, by decide +kernel⟩
theorem kv_X12_drawnJob : KV 12 RX12 TX12 43 yX12_drawnJob cX12_drawnJob 5 (some .int) 0 := ⟨rfl, ⟨tsm 1335 (by decide +kernel) rfl, tsm 47 (by decide +kernel) rfl, wI_X12, tsm 1336 (by decide +kernel) rfl⟩, by decide +kernel⟩
theorem kv_X12_keyOf : KV 12 RX12 TX12 43 yX12_keyOf cX12_keyOf 4 (some .int) 3 := ⟨rfl, ⟨tsm 1327 (by decide +kernel) rfl, tsm 45 (by decide +kernel) rfl, wI_X12, tsm 1328 (by decide +kernel) rfl⟩, by decide +kernel⟩
theorem kv_X12_chooses : KV 12 RX12 TX12 43 yX12_chooses cX12_chooses 6 (some .int) 2 := ⟨rfl, ⟨tsm 1307 (by decide +kernel) rfl, tsm 40 (by decide +kernel) rfl, wI_X12, tsm 1308 (by decide +kernel) rfl⟩, by decide +kernel⟩
theorem kv_X12_turnOf : KV 12 RX12 TX12 43 yX12_turnOf cX12_turnOf 4 (some .int) 3 := ⟨rfl, ⟨tsm 1344 (by decide +kernel) rfl, tsm 49 (by decide +kernel) rfl, wI_X12, tsm 1345 (by decide +kernel) rfl⟩, by decide +kernel⟩
theorem kv_X12_begins : KV 12 RX12 TX12 43 yX12_begins cX12_begins 2 none 0 := ⟨rfl, ⟨tsm 1279 (by decide +kernel) rfl, tsm 33 (by decide +kernel) rfl, wI_X12, tsm 1280 (by decide +kernel) rfl⟩, by decide +kernel⟩
theorem kv_X12_keepsWaiting : KV 12 RX12 TX12 43 yX12_keepsWaiting cX12_keepsWaiting 3 none 1 := ⟨rfl, ⟨tsm 1348 (by decide +kernel) rfl, tsm 50 (by decide +kernel) rfl, wI_X12, tsm 1349 (by decide +kernel) rfl⟩, by decide +kernel⟩
theorem kv_X12_runs : KV 12 RX12 TX12 43 yX12_runs cX12_runs 11 none 4 := ⟨rfl, ⟨tsm 1275 (by decide +kernel) rfl, tsm 32 (by decide +kernel) rfl, wI_X12, tsm 1276 (by decide +kernel) rfl⟩, by decide +kernel⟩
theorem kv_X12_sumOfWork : KV 12 RX12 TX12 43 yX12_sumOfWork cX12_sumOfWork 3 (some .int) 0 := ⟨rfl, ⟨tsm 1430 (by decide +kernel) rfl, tsm 56 (by decide +kernel) rfl, wI_X12, tsm 1431 (by decide +kernel) rfl⟩, by decide +kernel⟩
theorem kv_X12_run : KV 12 RX12 TX12 43 yX12_run cX12_run 3 (some .int) 1 := ⟨rfl, ⟨tsm 1270 (by decide +kernel) rfl, tsm 1271 (by decide +kernel) rfl, wI_X12, tsm 1272 (by decide +kernel) rfl⟩, by decide +kernel⟩
theorem kv_X12_isRun : KV 12 RX12 TX12 43 yX12_isRun cX12_isRun 1 (some .boolean) 0 := ⟨rfl, ⟨tsm 1356 (by decide +kernel) rfl, tsm 51 (by decide +kernel) rfl, wI_X12, tsm 1357 (by decide +kernel) rfl⟩, by decide +kernel⟩
theorem kv_X12_atMoment : KV 12 RX12 TX12 43 yX12_atMoment cX12_atMoment 2 (some .int) 1 := ⟨rfl, ⟨tsm 1360 (by decide +kernel) rfl, tsm 52 (by decide +kernel) rfl, wI_X12, tsm 1361 (by decide +kernel) rfl⟩, by decide +kernel⟩
theorem kv_X12_running : KV 12 RX12 TX12 43 yX12_running cX12_running 2 (some .int) 1 := ⟨rfl, ⟨tsm 1351 (by decide +kernel) rfl, tsm 1352 (by decide +kernel) rfl, wI_X12, tsm 1353 (by decide +kernel) rfl⟩, by decide +kernel⟩
theorem kv_X12_leftOf : KV 12 RX12 TX12 43 yX12_leftOf cX12_leftOf 5 (some .int) 2 := ⟨rfl, ⟨tsm 1368 (by decide +kernel) rfl, tsm 53 (by decide +kernel) rfl, wI_X12, tsm 1369 (by decide +kernel) rfl⟩, by decide +kernel⟩
theorem kv_X12_left : KV 12 RX12 TX12 43 yX12_left cX12_left 3 (some .int) 2 := ⟨rfl, ⟨tsm 1363 (by decide +kernel) rfl, tsm 1364 (by decide +kernel) rfl, wI_X12, tsm 1365 (by decide +kernel) rfl⟩, by decide +kernel⟩
theorem kv_X12_work : KV 12 RX12 TX12 43 yX12_work cX12_work 4 (some .int) 1 := ⟨rfl, ⟨tsm 1371 (by decide +kernel) rfl, tsm 1372 (by decide +kernel) rfl, wI_X12, tsm 1373 (by decide +kernel) rfl⟩, by decide +kernel⟩
theorem kv_X12_end : KV 12 RX12 TX12 43 yX12_end cX12_end 2 (some .int) 1 := ⟨rfl, ⟨tsm 1375 (by decide +kernel) rfl, tsm 1376 (by decide +kernel) rfl, wI_X12, tsm 1377 (by decide +kernel) rfl⟩, by decide +kernel⟩
theorem kv_X12_sumOf : KV 12 RX12 TX12 43 yX12_sumOf cX12_sumOf 3 (some .int) 0 := ⟨rfl, ⟨tsm 1384 (by decide +kernel) rfl, tsm 54 (by decide +kernel) rfl, wI_X12, tsm 1385 (by decide +kernel) rfl⟩, by decide +kernel⟩
theorem kv_X12_sumOfEnds : KV 12 RX12 TX12 43 yX12_sumOfEnds cX12_sumOfEnds 1 (some .int) 0 := ⟨rfl, ⟨tsm 1379 (by decide +kernel) rfl, tsm 1380 (by decide +kernel) rfl, wI_X12, tsm 1381 (by decide +kernel) rfl⟩, by decide +kernel⟩
theorem kv_X12_longest : KS RX12 yX12_longest cX12_longest 7 (some .int) 4 := ⟨⟨tsm 1391 (by decide +kernel) rfl, wI_X12, tsm 1392 (by decide +kernel) rfl⟩, by decide +kernel⟩
theorem kv_X12_waits : KV 12 RX12 TX12 43 yX12_waits cX12_waits 2 (some .int) 1 := ⟨rfl, ⟨tsm 1387 (by decide +kernel) rfl, tsm 1388 (by decide +kernel) rfl, wI_X12, tsm 1389 (by decide +kernel) rfl⟩, by decide +kernel⟩
theorem kv_X12_blocked : KV 12 RX12 TX12 43 yX12_blocked cX12_blocked 2 (some .int) 1 := ⟨rfl, ⟨tsm 1394 (by decide +kernel) rfl, tsm 1395 (by decide +kernel) rfl, wI_X12, tsm 1396 (by decide +kernel) rfl⟩, by decide +kernel⟩
theorem kv_X12_late : KV 12 RX12 TX12 43 yX12_late cX12_late 2 (some .int) 1 := ⟨rfl, ⟨tsm 1398 (by decide +kernel) rfl, tsm 1399 (by decide +kernel) rfl, wI_X12, tsm 1400 (by decide +kernel) rfl⟩, by decide +kernel⟩
theorem kv_X12_common : KS RX12 yX12_common cX12_common 10 (some .long) 2 := ⟨⟨tsm 1406 (by decide +kernel) rfl, wI_X12, tsm 1407 (by decide +kernel) rfl⟩, by decide +kernel⟩
theorem kv_X12_slowest : KV 12 RX12 TX12 43 yX12_slowest cX12_slowest 6 (some .int) 1 := ⟨rfl, ⟨tsm 1402 (by decide +kernel) rfl, tsm 1403 (by decide +kernel) rfl, wI_X12, tsm 1404 (by decide +kernel) rfl⟩, by decide +kernel⟩
theorem kv_X12_busy : KV 12 RX12 TX12 43 yX12_busy cX12_busy 6 (some .int) 2 := ⟨rfl, ⟨tsm 1409 (by decide +kernel) rfl, tsm 1410 (by decide +kernel) rfl, wI_X12, tsm 1411 (by decide +kernel) rfl⟩, by decide +kernel⟩
theorem kv_X12_checksum : KV 12 RX12 TX12 43 yX12_checksum cX12_checksum 3 (some .int) 0 := ⟨rfl, ⟨tsm 1413 (by decide +kernel) rfl, tsm 1414 (by decide +kernel) rfl, wI_X12, tsm 1415 (by decide +kernel) rfl⟩, by decide +kernel⟩
theorem kv_X12_isLikeLatest : KV 12 RX12 TX12 43 yX12_isLikeLatest cX12_isLikeLatest 3 (some .boolean) 0 := ⟨rfl, ⟨tsm 1422 (by decide +kernel) rfl, tsm 55 (by decide +kernel) rfl, wI_X12, tsm 1423 (by decide +kernel) rfl⟩, by decide +kernel⟩
theorem kv_X12_which : KV 12 RX12 TX12 43 yX12_which cX12_which 3 (some .int) 0 := ⟨rfl, ⟨tsm 1417 (by decide +kernel) rfl, tsm 1418 (by decide +kernel) rfl, wI_X12, tsm 1419 (by decide +kernel) rfl⟩, by decide +kernel⟩
theorem kv_X12_best : KV 12 RX12 TX12 43 yX12_best cX12_best 5 (some .int) 0 := ⟨rfl, ⟨tsm 1425 (by decide +kernel) rfl, tsm 1426 (by decide +kernel) rfl, wI_X12, tsm 1427 (by decide +kernel) rfl⟩, by decide +kernel⟩
theorem kv_X12_two : KV 12 RX12 TX12 43 yX12_two cX12_two 8 (some .int) 2 := ⟨rfl, ⟨tsm 1433 (by decide +kernel) rfl, tsm 1434 (by decide +kernel) rfl, wI_X12, tsm 1435 (by decide +kernel) rfl⟩, by decide +kernel⟩
theorem kv_X12_works : KV 12 RX12 TX12 43 yX12_works cX12_works 3 none 2 := ⟨rfl, ⟨tsm 1438 (by decide +kernel) rfl, tsm 57 (by decide +kernel) rfl, wI_X12, tsm 1439 (by decide +kernel) rfl⟩, by decide +kernel⟩
theorem kv_X12_isAnyWaiting : KV 12 RX12 TX12 43 yX12_isAnyWaiting cX12_isAnyWaiting 3 (some .boolean) 0 := ⟨rfl, ⟨tsm 1446 (by decide +kernel) rfl, tsm 58 (by decide +kernel) rfl, wI_X12, tsm 1447 (by decide +kernel) rfl⟩, by decide +kernel⟩
theorem kv_X12_areKept : KV 12 RX12 TX12 43 yX12_areKept cX12_areKept 3 (some .boolean) 0 := ⟨rfl, ⟨tsm 1454 (by decide +kernel) rfl, tsm 60 (by decide +kernel) rfl, wI_X12, tsm 1455 (by decide +kernel) rfl⟩, by decide +kernel⟩
theorem kv_X12_isFeasible : KV 12 RX12 TX12 43 yX12_isFeasible cX12_isFeasible 1 (some .boolean) 0 := ⟨rfl, ⟨tsm 1441 (by decide +kernel) rfl, tsm 1442 (by decide +kernel) rfl, wI_X12, tsm 1443 (by decide +kernel) rfl⟩, by decide +kernel⟩
theorem kv_X12_workWithin : KV 12 RX12 TX12 43 yX12_workWithin cX12_workWithin 5 (some .int) 2 := ⟨rfl, ⟨tsm 1466 (by decide +kernel) rfl, tsm 62 (by decide +kernel) rfl, wI_X12, tsm 1467 (by decide +kernel) rfl⟩, by decide +kernel⟩
theorem kv_X12_isAnyFull : KV 12 RX12 TX12 43 yX12_isAnyFull cX12_isAnyFull 3 (some .boolean) 0 := ⟨rfl, ⟨tsm 1462 (by decide +kernel) rfl, tsm 61 (by decide +kernel) rfl, wI_X12, tsm 1463 (by decide +kernel) rfl⟩, by decide +kernel⟩
theorem kv_X12_full : KV 12 RX12 TX12 43 yX12_full cX12_full 2 (some .int) 1 := ⟨rfl, ⟨tsm 1457 (by decide +kernel) rfl, tsm 1458 (by decide +kernel) rfl, wI_X12, tsm 1459 (by decide +kernel) rfl⟩, by decide +kernel⟩
theorem kv_X12_task : KV 12 RX12 TX12 43 yX12_task cX12_task 4 (some .int) 3 := ⟨rfl, ⟨tsm 1469 (by decide +kernel) rfl, tsm 1470 (by decide +kernel) rfl, wI_X12, tsm 1471 (by decide +kernel) rfl⟩, by decide +kernel⟩
theorem kv_X12_load : KV 12 RX12 TX12 43 yX12_load cX12_load 8 (some .long) 1 := ⟨rfl, ⟨tsm 1473 (by decide +kernel) rfl, tsm 1474 (by decide +kernel) rfl, wI_X12, tsm 1475 (by decide +kernel) rfl⟩, by decide +kernel⟩
theorem kv_X12_response : KV 12 RX12 TX12 43 yX12_response cX12_response 6 (some .int) 1 := ⟨rfl, ⟨tsm 1477 (by decide +kernel) rfl, tsm 1478 (by decide +kernel) rfl, wI_X12, tsm 1479 (by decide +kernel) rfl⟩, by decide +kernel⟩
theorem kv_X12_meanEnd : KV 12 RX12 TX12 43 yX12_meanEnd cX12_meanEnd 1 (some .double) 0 := ⟨rfl, ⟨tsm 1481 (by decide +kernel) rfl, tsm 1482 (by decide +kernel) rfl, wI_X12, tsm 1483 (by decide +kernel) rfl⟩, by decide +kernel⟩
theorem kv_X12_workShare : KV 12 RX12 TX12 43 yX12_workShare cX12_workShare 3 (some .float) 0 := ⟨rfl, ⟨tsm 1485 (by decide +kernel) rfl, tsm 1486 (by decide +kernel) rfl, wI_X12, tsm 1487 (by decide +kernel) rfl⟩, by decide +kernel⟩
theorem kv_X12_isLikeBusy : KV 12 RX12 TX12 43 yX12_isLikeBusy cX12_isLikeBusy 3 (some .boolean) 0 := ⟨rfl, ⟨tsm 1494 (by decide +kernel) rfl, tsm 63 (by decide +kernel) rfl, wI_X12, tsm 1495 (by decide +kernel) rfl⟩, by decide +kernel⟩
theorem kv_X12_longestFor : KV 12 RX12 TX12 43 yX12_longestFor cX12_longestFor 7 (some .int) 2 := ⟨rfl, ⟨tsm 1502 (by decide +kernel) rfl, tsm 65 (by decide +kernel) rfl, wI_X12, tsm 1503 (by decide +kernel) rfl⟩, by decide +kernel⟩
theorem kv_X12_lentErrors : KV 12 RX12 TX12 43 yX12_lentErrors cX12_lentErrors 6 (some .int) 0 := ⟨rfl, ⟨tsm 1498 (by decide +kernel) rfl, tsm 64 (by decide +kernel) rfl, wI_X12, tsm 1499 (by decide +kernel) rfl⟩, by decide +kernel⟩
theorem kv_X12_errors : KV 12 RX12 TX12 43 yX12_errors cX12_errors 9 (some .int) 0 := ⟨rfl, ⟨tsm 1489 (by decide +kernel) rfl, tsm 1490 (by decide +kernel) rfl, wI_X12, tsm 1491 (by decide +kernel) rfl⟩, by decide +kernel⟩
theorem km_max : KM Lib.Math.max.name Lib.Math.max.code := ⟨tsm 551 (by decide +kernel) rfl, tsm 87 (by decide +kernel) rfl, tsm 552 (by decide +kernel) rfl⟩
theorem km_min : KM Lib.Math.min.name Lib.Math.min.code := ⟨tsm 524 (by decide +kernel) rfl, tsm 87 (by decide +kernel) rfl, tsm 525 (by decide +kernel) rfl⟩
set_option maxRecDepth 20000 in
theorem kt_X11_62 : KT RX11 62 64 "java/lang/IllegalArgumentException" ["java/lang/RuntimeException", "java/lang/Exception"] := ⟨by decide +kernel, ⟨wL_X11_62, tsm 83 (by decide +kernel) rfl⟩, by decide +kernel, by decide +kernel, by decide +kernel, by decide +kernel⟩
set_option maxRecDepth 20000 in
theorem kt_X11_69 : KT RX11 69 71 "java/lang/IllegalStateException" ["java/lang/RuntimeException", "java/lang/Exception"] := ⟨by decide +kernel, ⟨wL_X11_69, tsm 84 (by decide +kernel) rfl⟩, by decide +kernel, by decide +kernel, by decide +kernel, by decide +kernel⟩
set_option maxRecDepth 20000 in
theorem kt_X11_84 : KT RX11 84 86 "java/lang/IndexOutOfBoundsException" ["java/lang/RuntimeException", "java/lang/Exception"] := ⟨by decide +kernel, ⟨wL_X11_84, tsm 85 (by decide +kernel) rfl⟩, by decide +kernel, by decide +kernel, by decide +kernel, by decide +kernel⟩
set_option maxRecDepth 20000 in
theorem kt_X11_184 : KT RX11 184 186 "java/util/NoSuchElementException" ["java/lang/RuntimeException", "java/lang/Exception"] := ⟨by decide +kernel, ⟨wL_X11_184, tsm 88 (by decide +kernel) rfl⟩, by decide +kernel, by decide +kernel, by decide +kernel, by decide +kernel⟩
abbrev rm_X0_init : Room := { frames := 2, cells := 0, slots := 0, locals := 41 }
abbrev rm_X0_note : Room := { frames := 1, cells := 0, slots := 0, locals := 22 }
abbrev rm_X0_doingAt : Room := { frames := 1, cells := 0, slots := 0, locals := 21 }
abbrev rm_X0_leftOf : Room := { frames := 1, cells := 0, slots := 0, locals := 21 }
abbrev rm_X0_firstWork : Room := { frames := 1, cells := 0, slots := 0, locals := 21 }
abbrev rm_X0_longestGap : Room := { frames := 1, cells := 0, slots := 0, locals := 21 }
abbrev rm_X0_countWork : Room := { frames := 1, cells := 0, slots := 0, locals := 21 }
abbrev rm_X0_countBusy : Room := { frames := 2, cells := 0, slots := 0, locals := 42 }
abbrev rm_X0_busyBegin : Room := { frames := 2, cells := 0, slots := 0, locals := 42 }
abbrev rm_X0_busyEnd : Room := { frames := 1, cells := 0, slots := 0, locals := 21 }
abbrev rm_X0_beginsBusy : Room := { frames := 1, cells := 0, slots := 0, locals := 21 }
abbrev rm_X0_isSameAs : Room := { frames := 1, cells := 0, slots := 0, locals := 21 }
abbrev rm_X0_isAsBusyAs : Room := { frames := 2, cells := 0, slots := 0, locals := 42 }
abbrev rm_X1_init : Room := { frames := 2, cells := 0, slots := 0, locals := 41 }
abbrev rm_X1_tell : Room := { frames := 1, cells := 0, slots := 0, locals := 22 }
abbrev rm_X1_letWait : Room := { frames := 1, cells := 0, slots := 0, locals := 22 }
abbrev rm_X1_someWait : Room := { frames := 1, cells := 0, slots := 0, locals := 21 }
abbrev rm_X1_addStretch : Room := { frames := 1, cells := 0, slots := 0, locals := 22 }
abbrev rm_X1_overlaps : Room := { frames := 1, cells := 0, slots := 0, locals := 21 }
abbrev rm_X1_lockAt : Room := { frames := 1, cells := 0, slots := 0, locals := 21 }
abbrev rm_X1_highest : Room := { frames := 1, cells := 0, slots := 0, locals := 21 }
abbrev rm_X1_mostKept : Room := { frames := 2, cells := 0, slots := 0, locals := 47 }
abbrev rm_X1_longestRest : Room := { frames := 1, cells := 0, slots := 0, locals := 21 }
abbrev rm_X1_fullEnd : Room := { frames := 2, cells := 0, slots := 0, locals := 46 }
abbrev rm_X1_workBetween : Room := { frames := 1, cells := 0, slots := 0, locals := 21 }
abbrev rm_X2_init : Room := { frames := 2, cells := 0, slots := 0, locals := 40 }
abbrev rm_X2_empty : Room := { frames := 1, cells := 0, slots := 0, locals := 20 }
abbrev rm_X2_lineOf : Room := { frames := 0, cells := 0, slots := 0, locals := 0 }
abbrev rm_X2_rise : Room := { frames := 2, cells := 0, slots := 0, locals := 43 }
abbrev rm_X2_lowest : Room := { frames := 1, cells := 0, slots := 0, locals := 20 }
abbrev rm_X3_init : Room := { frames := 1, cells := 0, slots := 0, locals := 20 }
abbrev rm_X3_empty : Room := { frames := 0, cells := 0, slots := 0, locals := 0 }
abbrev rm_X3_isEmpty : Room := { frames := 0, cells := 0, slots := 0, locals := 0 }
abbrev rm_X3_join : Room := { frames := 0, cells := 0, slots := 0, locals := 0 }
abbrev rm_X3_takeFirst : Room := { frames := 0, cells := 0, slots := 0, locals := 0 }
abbrev rm_X3_moveTo : Room := { frames := 1, cells := 0, slots := 0, locals := 21 }
abbrev rm_X4_init : Room := { frames := 2, cells := 0, slots := 0, locals := 41 }
abbrev rm_X4_look : Room := { frames := 2, cells := 0, slots := 0, locals := 47 }
abbrev rm_X4_isBlocked : Room := { frames := 1, cells := 0, slots := 0, locals := 21 }
abbrev rm_X4_greatest : Room := { frames := 2, cells := 0, slots := 0, locals := 42 }
abbrev rm_X5_init : Room := { frames := 3, cells := 0, slots := 0, locals := 62 }
abbrev rm_X5_workBy : Room := { frames := 2, cells := 0, slots := 0, locals := 47 }
abbrev rm_X5_least : Room := { frames := 1, cells := 0, slots := 0, locals := 21 }
abbrev rm_X6_init : Room := { frames := 2, cells := 0, slots := 0, locals := 41 }
abbrev rm_X6_begin : Room := { frames := 1, cells := 0, slots := 0, locals := 22 }
abbrev rm_X6_admit : Room := { frames := 1, cells := 0, slots := 0, locals := 22 }
abbrev rm_X6_isReady : Room := { frames := 0, cells := 0, slots := 0, locals := 0 }
abbrev rm_X6_isOver : Room := { frames := 0, cells := 0, slots := 0, locals := 0 }
abbrev rm_X6_done : Room := { frames := 1, cells := 0, slots := 0, locals := 21 }
abbrev rm_X6_spendOn : Room := { frames := 1, cells := 0, slots := 0, locals := 22 }
abbrev rm_X6_endsTogether : Room := { frames := 1, cells := 0, slots := 0, locals := 21 }
abbrev rm_X6_lateness : Room := { frames := 1, cells := 0, slots := 0, locals := 21 }
abbrev rm_X6_countLate : Room := { frames := 2, cells := 0, slots := 0, locals := 43 }
abbrev rm_X7_init : Room := { frames := 1, cells := 0, slots := 0, locals := 20 }
abbrev rm_X7_at : Room := { frames := 0, cells := 0, slots := 0, locals := 0 }
abbrev rm_X7_put : Room := { frames := 0, cells := 0, slots := 0, locals := 0 }
abbrev rm_X7_add : Room := { frames := 0, cells := 0, slots := 0, locals := 0 }
abbrev rm_X7_fill : Room := { frames := 0, cells := 0, slots := 0, locals := 0 }
abbrev rm_X8_init : Room := { frames := 2, cells := 0, slots := 0, locals := 41 }
abbrev rm_X8_tell : Room := { frames := 1, cells := 0, slots := 0, locals := 22 }
abbrev rm_X8_workAhead : Room := { frames := 2, cells := 0, slots := 0, locals := 44 }
abbrev rm_X8_goesAhead : Room := { frames := 1, cells := 0, slots := 0, locals := 21 }
abbrev rm_X9_init : Room := { frames := 1, cells := 0, slots := 0, locals := 20 }
abbrev rm_X10_init : Room := { frames := 3, cells := 0, slots := 0, locals := 63 }
abbrev rm_X10_follow : Room := { frames := 4, cells := 0, slots := 0, locals := 94 }
abbrev rm_X10_begin : Room := { frames := 2, cells := 0, slots := 0, locals := 43 }
abbrev rm_X10_beginMoment : Room := { frames := 3, cells := 0, slots := 0, locals := 71 }
abbrev rm_X10_welcome : Room := { frames := 1, cells := 0, slots := 0, locals := 22 }
abbrev rm_X10_leastCount : Room := { frames := 1, cells := 0, slots := 0, locals := 21 }
abbrev rm_X10_endSlice : Room := { frames := 1, cells := 0, slots := 0, locals := 21 }
abbrev rm_X10_usesLevels : Room := { frames := 0, cells := 0, slots := 0, locals := 0 }
abbrev rm_X10_choose : Room := { frames := 3, cells := 0, slots := 0, locals := 66 }
abbrev rm_X10_turnOf : Room := { frames := 1, cells := 0, slots := 0, locals := 21 }
abbrev rm_X10_drawn : Room := { frames := 1, cells := 0, slots := 0, locals := 21 }
abbrev rm_X10_leastByKey : Room := { frames := 2, cells := 0, slots := 0, locals := 42 }
abbrev rm_X10_keyOf : Room := { frames := 1, cells := 0, slots := 0, locals := 21 }
abbrev rm_X10_pass : Room := { frames := 3, cells := 0, slots := 0, locals := 66 }
abbrev rm_X10_workAtChosen : Room := { frames := 2, cells := 0, slots := 0, locals := 44 }
abbrev rm_X10_countKept : Room := { frames := 2, cells := 0, slots := 0, locals := 42 }
abbrev rm_X11_init : Room := { frames := 4, cells := 0, slots := 0, locals := 85 }
abbrev rm_X11_job : Room := { frames := 6, cells := 1, slots := 6, locals := 89 }
abbrev rm_X11_after : Room := { frames := 7, cells := 3, slots := 18, locals := 110 }
abbrev rm_X11_lock : Room := { frames := 7, cells := 2, slots := 12, locals := 110 }
abbrev rm_X11_turns : Room := { frames := 6, cells := 1, slots := 6, locals := 89 }
abbrev rm_X11_clear : Room := { frames := 0, cells := 0, slots := 0, locals := 0 }
abbrev rm_X11_run : Room := { frames := 6, cells := 1, slots := 6, locals := 119 }
abbrev rm_X11_running : Room := { frames := 7, cells := 2, slots := 12, locals := 110 }
abbrev rm_X11_left : Room := { frames := 7, cells := 3, slots := 18, locals := 110 }
abbrev rm_X11_work : Room := { frames := 7, cells := 2, slots := 12, locals := 110 }
abbrev rm_X11_end : Room := { frames := 7, cells := 2, slots := 12, locals := 110 }
abbrev rm_X11_sumOfEnds : Room := { frames := 7, cells := 1, slots := 6, locals := 109 }
abbrev rm_X11_waits : Room := { frames := 7, cells := 2, slots := 12, locals := 110 }
abbrev rm_X11_blocked : Room := { frames := 7, cells := 2, slots := 12, locals := 110 }
abbrev rm_X11_late : Room := { frames := 7, cells := 2, slots := 12, locals := 110 }
abbrev rm_X11_slowest : Room := { frames := 7, cells := 2, slots := 12, locals := 109 }
abbrev rm_X11_busy : Room := { frames := 7, cells := 2, slots := 12, locals := 109 }
abbrev rm_X11_checksum : Room := { frames := 7, cells := 1, slots := 6, locals := 109 }
abbrev rm_X11_which : Room := { frames := 7, cells := 1, slots := 6, locals := 119 }
abbrev rm_X11_best : Room := { frames := 5, cells := 0, slots := 0, locals := 119 }
abbrev rm_X11_two : Room := { frames := 3, cells := 0, slots := 0, locals := 71 }
abbrev rm_X11_isFeasible : Room := { frames := 6, cells := 1, slots := 6, locals := 119 }
abbrev rm_X11_full : Room := { frames := 6, cells := 1, slots := 6, locals := 89 }
abbrev rm_X11_task : Room := { frames := 6, cells := 1, slots := 6, locals := 89 }
abbrev rm_X11_load : Room := { frames := 1, cells := 0, slots := 0, locals := 30 }
abbrev rm_X11_response : Room := { frames := 6, cells := 1, slots := 6, locals := 89 }
abbrev rm_X11_meanEnd : Room := { frames := 7, cells := 1, slots := 6, locals := 109 }
abbrev rm_X11_workShare : Room := { frames := 7, cells := 1, slots := 6, locals := 109 }
abbrev rm_X11_errors : Room := { frames := 7, cells := 1, slots := 6, locals := 161 }
abbrev rm_X11_haveRulesSameBusyTime : Room := { frames := 5, cells := 0, slots := 0, locals := 119 }
abbrev rm_X11_hasLeastLeftLeastEnds : Room := { frames := 5, cells := 0, slots := 0, locals := 119 }
abbrev rm_X11_keepsDeadlines : Room := { frames := 5, cells := 0, slots := 0, locals := 119 }
abbrev rm_X11_doesSomeRuleKeepDeadlines : Room := { frames := 6, cells := 0, slots := 0, locals := 140 }
abbrev rm_X11_isRingFair : Room := { frames := 5, cells := 0, slots := 0, locals := 119 }
abbrev rm_X11_isHighestFreeInTime : Room := { frames := 5, cells := 0, slots := 0, locals := 119 }
abbrev rm_X11_needJob : Room := { frames := 6, cells := 1, slots := 6, locals := 89 }
abbrev rm_X11_needMoment : Room := { frames := 6, cells := 1, slots := 6, locals := 89 }
abbrev rm_X11_needRun : Room := { frames := 6, cells := 1, slots := 6, locals := 89 }
abbrev rm_X11_isOutside : Room := { frames := 0, cells := 0, slots := 0, locals := 0 }
abbrev rm_X11_reduced : Room := { frames := 0, cells := 0, slots := 0, locals := 0 }
abbrev rm_X12_init : Room := { frames := 1, cells := 0, slots := 0, locals := 20 }
abbrev rm_X12_thrown : Room := { frames := 0, cells := 0, slots := 0, locals := 0 }
abbrev rm_X12_in : Room := { frames := 0, cells := 0, slots := 0, locals := 0 }
abbrev rm_X12_isJob : Room := { frames := 1, cells := 0, slots := 0, locals := 22 }
abbrev rm_X12_refuse : Room := { frames := 0, cells := 0, slots := 0, locals := 0 }
abbrev rm_X12_told : Room := { frames := 0, cells := 0, slots := 0, locals := 0 }
abbrev rm_X12_denies : Room := { frames := 0, cells := 0, slots := 0, locals := 0 }
abbrev rm_X12_changed : Room := { frames := 1, cells := 0, slots := 0, locals := 21 }
abbrev rm_X12_job : Room := { frames := 2, cells := 0, slots := 0, locals := 42 }
abbrev rm_X12_bits : Room := { frames := 0, cells := 0, slots := 0, locals := 0 }
abbrev rm_X12_after : Room := { frames := 2, cells := 0, slots := 0, locals := 43 }
abbrev rm_X12_lock : Room := { frames := 2, cells := 0, slots := 0, locals := 43 }
abbrev rm_X12_turns : Room := { frames := 2, cells := 0, slots := 0, locals := 42 }
abbrev rm_X12_clear : Room := { frames := 2, cells := 0, slots := 0, locals := 42 }
abbrev rm_X12_joins : Room := { frames := 0, cells := 0, slots := 0, locals := 0 }
abbrev rm_X12_takes : Room := { frames := 0, cells := 0, slots := 0, locals := 0 }
abbrev rm_X12_rises : Room := { frames := 1, cells := 0, slots := 0, locals := 23 }
abbrev rm_X12_canBegin : Room := { frames := 0, cells := 0, slots := 0, locals := 0 }
abbrev rm_X12_leastCount : Room := { frames := 0, cells := 0, slots := 0, locals := 0 }
abbrev rm_X12_becomesReady : Room := { frames := 1, cells := 0, slots := 0, locals := 24 }
abbrev rm_X12_isThere : Room := { frames := 0, cells := 0, slots := 0, locals := 0 }
abbrev rm_X12_needs : Room := { frames := 0, cells := 0, slots := 0, locals := 0 }
abbrev rm_X12_has : Room := { frames := 0, cells := 0, slots := 0, locals := 0 }
abbrev rm_X12_keeper : Room := { frames := 1, cells := 0, slots := 0, locals := 25 }
abbrev rm_X12_rankOf : Room := { frames := 2, cells := 0, slots := 0, locals := 48 }
abbrev rm_X12_draws : Room := { frames := 0, cells := 0, slots := 0, locals := 0 }
abbrev rm_X12_drawnJob : Room := { frames := 1, cells := 0, slots := 0, locals := 21 }
abbrev rm_X12_keyOf : Room := { frames := 3, cells := 0, slots := 0, locals := 72 }
abbrev rm_X12_chooses : Room := { frames := 4, cells := 0, slots := 0, locals := 95 }
abbrev rm_X12_turnOf : Room := { frames := 0, cells := 0, slots := 0, locals := 0 }
abbrev rm_X12_begins : Room := { frames := 0, cells := 0, slots := 0, locals := 0 }
abbrev rm_X12_keepsWaiting : Room := { frames := 2, cells := 0, slots := 0, locals := 48 }
abbrev rm_X12_runs : Room := { frames := 5, cells := 0, slots := 0, locals := 120 }
abbrev rm_X12_sumOfWork : Room := { frames := 0, cells := 0, slots := 0, locals := 0 }
abbrev rm_X12_run : Room := { frames := 6, cells := 0, slots := 0, locals := 150 }
abbrev rm_X12_isRun : Room := { frames := 0, cells := 0, slots := 0, locals := 0 }
abbrev rm_X12_atMoment : Room := { frames := 0, cells := 0, slots := 0, locals := 0 }
abbrev rm_X12_running : Room := { frames := 1, cells := 0, slots := 0, locals := 21 }
abbrev rm_X12_leftOf : Room := { frames := 0, cells := 0, slots := 0, locals := 0 }
abbrev rm_X12_left : Room := { frames := 2, cells := 0, slots := 0, locals := 43 }
abbrev rm_X12_work : Room := { frames := 1, cells := 0, slots := 0, locals := 24 }
abbrev rm_X12_end : Room := { frames := 2, cells := 0, slots := 0, locals := 43 }
abbrev rm_X12_sumOf : Room := { frames := 0, cells := 0, slots := 0, locals := 0 }
abbrev rm_X12_sumOfEnds : Room := { frames := 1, cells := 0, slots := 0, locals := 22 }
abbrev rm_X12_longest : Room := { frames := 0, cells := 0, slots := 0, locals := 0 }
abbrev rm_X12_waits : Room := { frames := 2, cells := 0, slots := 0, locals := 43 }
abbrev rm_X12_blocked : Room := { frames := 2, cells := 0, slots := 0, locals := 43 }
abbrev rm_X12_late : Room := { frames := 2, cells := 0, slots := 0, locals := 43 }
abbrev rm_X12_common : Room := { frames := 0, cells := 0, slots := 0, locals := 0 }
abbrev rm_X12_slowest : Room := { frames := 1, cells := 0, slots := 0, locals := 29 }
abbrev rm_X12_busy : Room := { frames := 1, cells := 0, slots := 0, locals := 21 }
abbrev rm_X12_checksum : Room := { frames := 1, cells := 0, slots := 0, locals := 21 }
abbrev rm_X12_isLikeLatest : Room := { frames := 0, cells := 0, slots := 0, locals := 0 }
abbrev rm_X12_which : Room := { frames := 6, cells := 0, slots := 0, locals := 150 }
abbrev rm_X12_best : Room := { frames := 6, cells := 0, slots := 0, locals := 150 }
abbrev rm_X12_two : Room := { frames := 5, cells := 0, slots := 0, locals := 120 }
abbrev rm_X12_works : Room := { frames := 0, cells := 0, slots := 0, locals := 0 }
abbrev rm_X12_isAnyWaiting : Room := { frames := 0, cells := 0, slots := 0, locals := 0 }
abbrev rm_X12_areKept : Room := { frames := 0, cells := 0, slots := 0, locals := 0 }
abbrev rm_X12_isFeasible : Room := { frames := 6, cells := 0, slots := 0, locals := 150 }
abbrev rm_X12_workWithin : Room := { frames := 0, cells := 0, slots := 0, locals := 0 }
abbrev rm_X12_isAnyFull : Room := { frames := 1, cells := 0, slots := 0, locals := 24 }
abbrev rm_X12_full : Room := { frames := 2, cells := 0, slots := 0, locals := 46 }
abbrev rm_X12_task : Room := { frames := 1, cells := 0, slots := 0, locals := 22 }
abbrev rm_X12_load : Room := { frames := 1, cells := 0, slots := 0, locals := 29 }
abbrev rm_X12_response : Room := { frames := 1, cells := 0, slots := 0, locals := 22 }
abbrev rm_X12_meanEnd : Room := { frames := 1, cells := 0, slots := 0, locals := 22 }
abbrev rm_X12_workShare : Room := { frames := 1, cells := 0, slots := 0, locals := 20 }
abbrev rm_X12_isLikeBusy : Room := { frames := 0, cells := 0, slots := 0, locals := 0 }
abbrev rm_X12_longestFor : Room := { frames := 0, cells := 0, slots := 0, locals := 0 }
abbrev rm_X12_lentErrors : Room := { frames := 6, cells := 0, slots := 0, locals := 150 }
abbrev rm_X12_errors : Room := { frames := 7, cells := 0, slots := 0, locals := 175 }
abbrev rm_L_job : Room := { frames := 7, cells := 1, slots := 6, locals := 113 }
abbrev rm_L_after : Room := { frames := 8, cells := 3, slots := 18, locals := 132 }
abbrev rm_L_lock : Room := { frames := 8, cells := 2, slots := 12, locals := 134 }
abbrev rm_L_turns : Room := { frames := 7, cells := 1, slots := 6, locals := 115 }
abbrev rm_L_run : Room := { frames := 7, cells := 1, slots := 6, locals := 140 }
abbrev rm_L_running : Room := { frames := 8, cells := 2, slots := 12, locals := 131 }
abbrev rm_L_left : Room := { frames := 8, cells := 3, slots := 18, locals := 132 }
abbrev rm_L_work : Room := { frames := 8, cells := 2, slots := 12, locals := 133 }
abbrev rm_L_end : Room := { frames := 8, cells := 2, slots := 12, locals := 131 }
abbrev rm_L_sumOfEnds : Room := { frames := 8, cells := 1, slots := 6, locals := 129 }
abbrev rm_L_waits : Room := { frames := 8, cells := 2, slots := 12, locals := 131 }
abbrev rm_L_blocked : Room := { frames := 8, cells := 2, slots := 12, locals := 131 }
abbrev rm_L_late : Room := { frames := 8, cells := 2, slots := 12, locals := 131 }
abbrev rm_L_slowest : Room := { frames := 8, cells := 2, slots := 12, locals := 135 }
abbrev rm_L_busy : Room := { frames := 8, cells := 2, slots := 12, locals := 132 }
abbrev rm_L_checksum : Room := { frames := 8, cells := 1, slots := 6, locals := 131 }
abbrev rm_L_which : Room := { frames := 8, cells := 1, slots := 6, locals := 141 }
abbrev rm_L_isFeasible : Room := { frames := 7, cells := 1, slots := 6, locals := 139 }
abbrev rm_L_full : Room := { frames := 7, cells := 1, slots := 6, locals := 112 }
abbrev rm_L_task : Room := { frames := 7, cells := 1, slots := 6, locals := 112 }
abbrev rm_L_response : Room := { frames := 7, cells := 1, slots := 6, locals := 111 }
abbrev rm_L_meanEnd : Room := { frames := 8, cells := 1, slots := 6, locals := 129 }
abbrev rm_L_workShare : Room := { frames := 8, cells := 1, slots := 6, locals := 129 }
end
section
/-! ===== numbers ===== -/
theorem iI_toInt {z : Int} (h : InR z) : (Int32.ofInt z).toInt = z := Int32.toInt_ofInt_of_le (by omega) (by omega)
theorem iI_inj {x y : Int} (hx : InR x) (hy : InR y) : Int32.ofInt x = Int32.ofInt y ↔ x = y := by
  rw [← Int32.toInt_inj, iI_toInt hx, iI_toInt hy]
theorem iI_lt {x y : Int} (hx : InR x) (hy : InR y) : Int32.ofInt x < Int32.ofInt y ↔ x < y := by
  rw [Int32.lt_iff_toInt_lt, iI_toInt hx, iI_toInt hy]
theorem iI_le {x y : Int} (hx : InR x) (hy : InR y) : Int32.ofInt x ≤ Int32.ofInt y ↔ x ≤ y := by
  rw [Int32.le_iff_toInt_le, iI_toInt hx, iI_toInt hy]
theorem iI_0 : Int32.ofInt 0 = 0 := rfl
theorem iI_nat {z : Int} (h : InR z) : (Int32.ofInt z).toNatClampNeg = z.toNat := by
  rw [← Int32.toNat_toInt, iI_toInt h]
theorem iI_toInt32 (x : Int32) : Int32.ofInt x.toInt = x := Int32.ofInt_toInt x
theorem toInt_InR (x : Int32) : InR x.toInt := ⟨Int32.le_toInt x, Int32.toInt_lt x⟩
theorem iI_in {z : Int} {n : Nat} (h : InR z) (h0 : 0 ≤ z) (h1 : z < n) : vp_in (Int32.ofInt z) n := by
  intro q
  rcases q with q | q
  · rw [← iI_0, iI_lt h (by omega)] at q
    omega
  · rw [iI_nat h] at q
    omega
theorem iL_toInt {z : Int} (h : InL z) : (Int64.ofInt z).toInt = z := Int64.toInt_ofInt_of_le (by omega) (by omega)
def bnd (x y : Int) : Int := (Int32.ofInt x &&& Int32.ofInt y).toInt
def bor (x y : Int) : Int := (Int32.ofInt x ||| Int32.ofInt y).toInt
def bxr (x y : Int) : Int := (Int32.ofInt x ^^^ Int32.ofInt y).toInt
def bus (x y : Int) : Int := ((Int32.ofInt x).toUInt32 >>> ((Int32.ofInt y).toUInt32 &&& Int32.toUInt32 31)).toInt32.toInt
def bsl (x y : Int) : Int := (Int32.ofInt x <<< (Int32.ofInt y &&& 31)).toInt
def bsr (x y : Int) : Int := (Int32.ofInt x >>> (Int32.ofInt y &&& 31)).toInt
theorem iI_div {x y : Int} (hx : 0 ≤ x ∧ InR x) (hy : 0 < y ∧ InR y) : Int32.ofInt x / Int32.ofInt y = Int32.ofInt (x / y) := by
  apply Int32.toInt_inj.mp
  rw [Int32.toInt_div, iI_toInt hx.2, iI_toInt hy.2, Int.tdiv_eq_ediv_of_nonneg hx.1]
  have h1 : 0 ≤ x / y := Int.ediv_nonneg hx.1 (by omega)
  have h2 : x / y ≤ x := Int.ediv_le_self _ hx.1
  rw [iI_toInt (by omega)]
  exact Int.bmod_eq_of_le (by omega) (by omega)
theorem iI_rem {x y : Int} (hx : 0 ≤ x ∧ InR x) (hy : 0 < y ∧ InR y) : Int32.ofInt x - Int32.ofInt x / Int32.ofInt y * Int32.ofInt y = Int32.ofInt (x % y) := by
  rw [iI_div hx hy, ← Int32.ofInt_mul, ← Int32.ofInt_sub]
  congr 1
  have := Int.emod_add_mul_ediv x y
  rw [Int.mul_comm] at this
  omega
theorem iL_div {x y : Int} (hx : 0 ≤ x ∧ InL x) (hy : 0 < y ∧ InL y) : Int64.ofInt x / Int64.ofInt y = Int64.ofInt (x / y) := by
  apply Int64.toInt_inj.mp
  rw [Int64.toInt_div, iL_toInt hx.2, iL_toInt hy.2, Int.tdiv_eq_ediv_of_nonneg hx.1]
  have h1 : 0 ≤ x / y := Int.ediv_nonneg hx.1 (by omega)
  have h2 : x / y ≤ x := Int.ediv_le_self _ hx.1
  rw [iL_toInt (by omega)]
  exact Int.bmod_eq_of_le (by omega) (by omega)
theorem iL_rem {x y : Int} (hx : 0 ≤ x ∧ InL x) (hy : 0 < y ∧ InL y) : Int64.ofInt x - Int64.ofInt x / Int64.ofInt y * Int64.ofInt y = Int64.ofInt (x % y) := by
  rw [iL_div hx hy, ← Int64.ofInt_mul, ← Int64.ofInt_sub]
  congr 1
  have := Int.emod_add_mul_ediv x y
  rw [Int.mul_comm] at this
  omega
/-! ===== locals ===== -/
def lvg : List (Nat × Value) → Nat → Option Value
  | [], _ => none
  | q :: t, i => cond (Nat.beq q.1 i) (some q.2) (lvg t i)
theorem lvg_mem : ∀ {lv : List (Nat × Value)} {i : Nat} {v : Value}, lvg lv i = some v → (i, v) ∈ lv := by
  intro lv
  induction lv with
  | nil => intro i v h; simp [lvg] at h
  | cons q t ih =>
    intro i v h
    unfold lvg at h
    cases hb : Nat.beq q.1 i with
    | true =>
      rw [hb] at h
      simp only [cond_true, Option.some.injEq] at h
      have := Nat.eq_of_beq_eq_true hb
      rw [← this, ← h]
      exact List.mem_cons_self
    | false =>
      rw [hb] at h
      exact List.mem_cons_of_mem _ (ih h)
theorem lvg_at {ls : Array Slot} {nL : Nat} {lv : List (Nat × Value)} {i : Nat} {v : Value} (h : lv_has ls nL lv) (g : lvg lv i = some v) : ls[i]? = some (.val v) := h.2.2 (i, v) (lvg_mem g)
theorem nbf {a b : Nat} (h : ¬ a = b) : Nat.beq a b = false := by
  cases e : Nat.beq a b with
  | false => rfl
  | true => exact absurd (Nat.eq_of_beq_eq_true e) h
/-- the locals behind a store of one place -/
def lvd (i : Nat) : List (Nat × Value) → List (Nat × Value)
  | [] => []
  | q :: t => cond (Nat.beq q.1 i) (lvd i t) (cond (Nat.beq (q.1 + 1) i && Nat.beq q.2.category 2) (lvd i t) (q :: lvd i t))
/-- .. of two places -/
def lvd2 (i : Nat) : List (Nat × Value) → List (Nat × Value)
  | [] => []
  | q :: t => cond (Nat.beq q.1 i) (lvd2 i t) (cond (Nat.beq q.1 (i + 1)) (lvd2 i t) (cond (Nat.beq (q.1 + 1) i && Nat.beq q.2.category 2) (lvd2 i t) (q :: lvd2 i t)))
theorem lvd_sub {i : Nat} : ∀ {lv : List (Nat × Value)} {q : Nat × Value}, q ∈ lvd i lv → q ∈ lv.filter (fun q => !(q.1 == i) && !(q.1 + 1 == i && q.2.category == 2)) := by
  intro lv
  induction lv with
  | nil => intro q h; simp [lvd] at h
  | cons x t ih =>
    intro q h
    unfold lvd at h
    by_cases h1 : x.1 = i
    · rw [show Nat.beq x.1 i = true from by simp [h1], cond_true] at h
      exact List.mem_filter.mpr ⟨List.mem_cons_of_mem _ (List.mem_filter.mp (ih h)).1, (List.mem_filter.mp (ih h)).2⟩
    · rw [show Nat.beq x.1 i = false from nbf h1, cond_false] at h
      by_cases h2 : x.1 + 1 = i ∧ x.2.category = 2
      · rw [show (Nat.beq (x.1 + 1) i && Nat.beq x.2.category 2) = true from by simp [h2.1, h2.2], cond_true] at h
        exact List.mem_filter.mpr ⟨List.mem_cons_of_mem _ (List.mem_filter.mp (ih h)).1, (List.mem_filter.mp (ih h)).2⟩
      · have h3 : (Nat.beq (x.1 + 1) i && Nat.beq x.2.category 2) = false := by
          cases hb : (Nat.beq (x.1 + 1) i && Nat.beq x.2.category 2) with
          | false => rfl
          | true =>
            simp only [Bool.and_eq_true] at hb
            exact absurd ⟨Nat.eq_of_beq_eq_true hb.1, Nat.eq_of_beq_eq_true hb.2⟩ h2
        rw [h3, cond_false] at h
        rcases List.mem_cons.mp h with e | h
        · subst e
          refine List.mem_filter.mpr ⟨List.mem_cons_self, ?_⟩
          simp only [Bool.and_eq_true, Bool.not_eq_true', beq_eq_false_iff_ne, Bool.and_eq_false_iff]
          refine ⟨h1, ?_⟩
          by_cases h4 : q.1 + 1 = i
          · exact Or.inr (fun h5 => h2 ⟨h4, h5⟩)
          · exact Or.inl h4
        · exact List.mem_filter.mpr ⟨List.mem_cons_of_mem _ (List.mem_filter.mp (ih h)).1, (List.mem_filter.mp (ih h)).2⟩
theorem lvd2_sub {i : Nat} : ∀ {lv : List (Nat × Value)} {q : Nat × Value}, q ∈ lvd2 i lv → q ∈ lv.filter (fun q => !(q.1 == i) && (!(q.1 == i + 1) && !(q.1 + 1 == i && q.2.category == 2))) := by
  intro lv
  induction lv with
  | nil => intro q h; simp [lvd2] at h
  | cons x t ih =>
    intro q h
    have up : ∀ {q : Nat × Value}, q ∈ t.filter (fun q => !(q.1 == i) && (!(q.1 == i + 1) && !(q.1 + 1 == i && q.2.category == 2))) → q ∈ (x :: t).filter (fun q => !(q.1 == i) && (!(q.1 == i + 1) && !(q.1 + 1 == i && q.2.category == 2))) := fun h => List.mem_filter.mpr ⟨List.mem_cons_of_mem _ (List.mem_filter.mp h).1, (List.mem_filter.mp h).2⟩
    unfold lvd2 at h
    by_cases h1 : x.1 = i
    · rw [show Nat.beq x.1 i = true from by simp [h1], cond_true] at h
      exact up (ih h)
    · rw [show Nat.beq x.1 i = false from nbf h1, cond_false] at h
      by_cases h0 : x.1 = i + 1
      · rw [show Nat.beq x.1 (i + 1) = true from by simp [h0], cond_true] at h
        exact up (ih h)
      · rw [show Nat.beq x.1 (i + 1) = false from nbf h0, cond_false] at h
        by_cases h2 : x.1 + 1 = i ∧ x.2.category = 2
        · rw [show (Nat.beq (x.1 + 1) i && Nat.beq x.2.category 2) = true from by simp [h2.1, h2.2], cond_true] at h
          exact up (ih h)
        · have h3 : (Nat.beq (x.1 + 1) i && Nat.beq x.2.category 2) = false := by
            cases hb : (Nat.beq (x.1 + 1) i && Nat.beq x.2.category 2) with
            | false => rfl
            | true =>
              simp only [Bool.and_eq_true] at hb
              exact absurd ⟨Nat.eq_of_beq_eq_true hb.1, Nat.eq_of_beq_eq_true hb.2⟩ h2
          rw [h3, cond_false] at h
          rcases List.mem_cons.mp h with e | h
          · subst e
            refine List.mem_filter.mpr ⟨List.mem_cons_self, ?_⟩
            simp only [Bool.and_eq_true, Bool.not_eq_true', beq_eq_false_iff_ne, Bool.and_eq_false_iff]
            refine ⟨h1, h0, ?_⟩
            by_cases h4 : q.1 + 1 = i
            · exact Or.inr (fun h5 => h2 ⟨h4, h5⟩)
            · exact Or.inl h4
          · exact up (ih h)
theorem lv_less {ls : Array Slot} {nL : Nat} {l l' : List (Nat × Value)} (h : lv_has ls nL l) (hs : ∀ q ∈ l', q ∈ l) : lv_has ls nL l' := ⟨h.1, h.2.1, fun q hq => h.2.2 q (hs q hq)⟩
theorem lvd_has {ls : Array Slot} {nL i : Nat} {v : Value} {lv : List (Nat × Value)} (h : lv_has ls nL ((i, v) :: lv.filter (fun q => !(q.1 == i) && !(q.1 + 1 == i && q.2.category == 2)))) : lv_has ls nL ((i, v) :: lvd i lv) :=
  lv_less h (fun q hq => (List.mem_cons.mp hq).elim (fun e => by rw [e]; exact List.mem_cons_self) (fun h => List.mem_cons_of_mem _ (lvd_sub h)))
theorem lvd2_has {ls : Array Slot} {nL i : Nat} {v : Value} {lv : List (Nat × Value)} (h : lv_has ls nL ((i, v) :: lv.filter (fun q => !(q.1 == i) && (!(q.1 == i + 1) && !(q.1 + 1 == i && q.2.category == 2))))) : lv_has ls nL ((i, v) :: lvd2 i lv) :=
  lv_less h (fun q hq => (List.mem_cons.mp hq).elim (fun e => by rw [e]; exact List.mem_cons_self) (fun h => List.mem_cons_of_mem _ (lvd2_sub h)))
/-- l' is held where l is -/
def lvs : List (Nat × Value) → List (Nat × Value) → Prop
  | _, [] => True
  | l, q :: t => lvg l q.1 = some q.2 ∧ lvs l t
theorem lvs_mem : ∀ {l' l : List (Nat × Value)}, lvs l l' → ∀ q ∈ l', q ∈ l := by
  intro l'
  induction l' with
  | nil => intro l _ q h; simp at h
  | cons x t ih =>
    intro l h q hq
    rcases List.mem_cons.mp hq with e | hq
    · subst e; exact lvg_mem h.1
    · exact ih h.2 q hq
/-! ===== the judgement ===== -/
abbrev Ax : Type := Program × Launch × Env × Room × State × MethodId × Array Value × List Frame × Method × Code × (State → Prop)
abbrev axP (a : Ax) : Program := a.1
abbrev axL (a : Ax) : Launch := a.2.1
abbrev axE (a : Ax) : Env := a.2.2.1
abbrev axR (a : Ax) : Room := a.2.2.2.1
abbrev axS (a : Ax) : State := a.2.2.2.2.1
abbrev axM (a : Ax) : MethodId := a.2.2.2.2.2.1
abbrev axA (a : Ax) : Array Value := a.2.2.2.2.2.2.1
abbrev axB (a : Ax) : List Frame := a.2.2.2.2.2.2.2.1
abbrev axF (a : Ax) : Method := a.2.2.2.2.2.2.2.2.1
abbrev axC (a : Ax) : Code := a.2.2.2.2.2.2.2.2.2.1
abbrev axQ (a : Ax) : State → Prop := a.2.2.2.2.2.2.2.2.2.2
def VV (a : Ax) (B : Nat) (P : Heap → Prop) (k n pc : Nat) (lv : List (Nat × Value)) (st : List Value) : Prop :=
  ∀ (H : Heap) (locs : List Loc) (ls : Array Slot), P H → va_S (fun q : Nat => B ≤ q) (axS a).heap H locs → lv_has ls (axC a).maxLocals lv →
    W (axP a) (axL a) (axE a) (axR a) (axS a) (axM a) (axA a) (axB a) (axF a) (axC a) H locs k n (axQ a) (F0 (axM a) pc ls st)
/-- what else the words of throws and handlers want of a state with the heap H -/
def ZX (B : Nat) (U : State) (H : Heap) : Prop := vx_Zq Bundle.tN "UNASSIGNED_STACK" Bundle.steD (fun q : Nat => B ≤ q) U H ∧ vx_Zq Bundle.tN "SUPPRESSED_SENTINEL" Bundle.listD (fun q : Nat => B ≤ q) U H ∧ (∀ q ∈ xcl, va_Nw (.castable q.1 q.2) U) ∧ (∀ q ∈ xdl, va_Nw (.declares q) U) ∧ ∀ q ∈ xnl, va_Nc q.1 q.2 U
theorem ZX.go {B : Nat} {s U : State} {H : Heap} {locs : List Loc} (h : ZX B s s.heap) (hS : va_S (fun q : Nat => B ≤ q) s.heap H locs) (hU : U.heap = H) (hW : s.WarmedH U.vm) : ZX B U U.heap := by
  rw [hU]
  exact ⟨vx_Zq.moved hW.alike (h.1.kept hS.2.1), vx_Zq.moved hW.alike (h.2.1.kept hS.2.1), fun q hq => va_Nw.warmC hW (h.2.2.1 q hq), fun q hq => va_Nw.warmD hW (h.2.2.2.1 q hq), fun q hq => va_Nc.moved hW.alike (h.2.2.2.2 q hq)⟩
def Ac (a : Ax) (B : Nat) (D : va_G) (E : Nat → ClassId) (own : String) (cc : ByteArray) (nL : Nat) (rm : Room) : Prop :=
  (axP a).tables.exec = Jvm.exec ∧ (axC a).code = cc ∧ (axC a).maxLocals = nL ∧ (axS a).vm.findClass own = some (axM a).cls ∧ (∀ w ∈ TS, w.before (axA a) (axS a) = true) ∧ axR a = rm ∧
  va_K D vwCl (tyE E) (axS a) ∧ ZX B (axS a) (axS a).heap ∧ (axL a).stackTraces = false ∧ (axF a).locks = false ∧ B ≤ (axS a).heap.size
section R1
variable {a : Ax} {B : Nat} {D : va_G} {E : Nat → ClassId} {own : String} {cc : ByteArray} {nL : Nat} {rm : Room} {P : Heap → Prop} {k n pc : Nat} {lv lv' : List (Nat × Value)} {st : List Value}
theorem Ac.exec (h : Ac a B D E own cc nL rm) : (axP a).tables.exec = Jvm.exec := h.1
theorem Ac.bytes (h : Ac a B D E own cc nL rm) : (axC a).code = cc := h.2.1
theorem Ac.maxl (h : Ac a B D E own cc nL rm) : (axC a).maxLocals = nL := h.2.2.1
theorem Ac.cls (h : Ac a B D E own cc nL rm) : (axS a).vm.findClass own = some (axM a).cls := h.2.2.2.1
theorem Ac.hts (h : Ac a B D E own cc nL rm) : ∀ w ∈ TS, w.before (axA a) (axS a) = true := h.2.2.2.2.1
theorem Ac.room (h : Ac a B D E own cc nL rm) : axR a = rm := h.2.2.2.2.2.1
theorem Ac.known (h : Ac a B D E own cc nL rm) : va_K D vwCl (tyE E) (axS a) := h.2.2.2.2.2.2.1
theorem Ac.zx (h : Ac a B D E own cc nL rm) : ZX B (axS a) (axS a).heap := h.2.2.2.2.2.2.2.1
theorem Ac.quiet (h : Ac a B D E own cc nL rm) : (axL a).stackTraces = false := h.2.2.2.2.2.2.2.2.1
theorem Ac.unlocked (h : Ac a B D E own cc nL rm) : (axF a).locks = false := h.2.2.2.2.2.2.2.2.2.1
theorem Ac.base (h : Ac a B D E own cc nL rm) : B ≤ (axS a).heap.size := h.2.2.2.2.2.2.2.2.2.2
theorem Ac.fix (h : Ac a B D E own cc nL rm) : CallFix (axP a) (axM a) (axC a) cc nL (axS a) (axA a) TS own := ⟨h.exec, h.bytes, h.maxl, h.cls, h.hts⟩
/-- the same with other words for locals, stack, heap -/
theorem VV.of {P' : Heap → Prop} (q : VV a B P' k n pc lv' st) (hP : ∀ H, P H → P' H) (hs : lvs lv lv') : VV a B P k n pc lv st := fun H locs ls h1 h2 h3 => q H locs ls (hP H h1) h2 (lv_less h3 (lvs_mem hs))
theorem VV.loc (q : VV a B P k n pc lv' st) (hs : lvs lv lv') : VV a B P k n pc lv st := VV.of q (fun _ h => h) hs
theorem VV.widen {k' n' : Nat} (h1 : k ≤ k') (h2 : n ≤ n') (q : VV a B P k' n' pc lv st) : VV a B P k n pc lv st := fun H locs ls a1 a2 a3 => W.widen h1 h2 (q H locs ls a1 a2 a3)
theorem v_iconst (h : Ac a B D E own cc nL rm) {z : Int} (d : decode cc pc = .ok (.iconst z, 1)) (q : VV a B P k n (pc + 1) lv (iI z :: st)) : VV a B P k n pc lv st := fun H locs ls a1 a2 a3 => lv_iconst h.exec h.bytes d rfl (q H locs ls a1 a2 a3)
theorem v_bipush (h : Ac a B D E own cc nL rm) {z : Int} (d : decode cc pc = .ok (.bipush z, 2)) (e : (Int8.ofInt z).toInt32 = Int32.ofInt z) (q : VV a B P k n (pc + 2) lv (iI z :: st)) : VV a B P k n pc lv st := fun H locs ls a1 a2 a3 => lv_bipush h.exec h.bytes d e (q H locs ls a1 a2 a3)
theorem v_sipush (h : Ac a B D E own cc nL rm) {z : Int} (d : decode cc pc = .ok (.sipush z, 3)) (e : (Int16.ofInt z).toInt32 = Int32.ofInt z) (q : VV a B P k n (pc + 3) lv (iI z :: st)) : VV a B P k n pc lv st := fun H locs ls a1 a2 a3 => lv_sipush h.exec h.bytes d e (q H locs ls a1 a2 a3)
theorem v_ldc (h : Ac a B D E own cc nL rm) {z : Int} {index : Nat} (w : Cond.constant own index (Int32.ofInt z) ∈ TS) (d : decode cc pc = .ok (.ldc index, 2)) (q : VV a B P k n (pc + 2) lv (iI z :: st)) : VV a B P k n pc lv st := fun H locs ls a1 a2 a3 => lv_ldc h.exec h.bytes h.cls (h.hts _ w) d (q H locs ls a1 a2 a3)
theorem v_ldcw (h : Ac a B D E own cc nL rm) {z : Int} {index : Nat} (w : Cond.constant own index (Int32.ofInt z) ∈ TS) (d : decode cc pc = .ok (.ldc_w index, 3)) (q : VV a B P k n (pc + 3) lv (iI z :: st)) : VV a B P k n pc lv st := fun H locs ls a1 a2 a3 => lv_ldcw h.exec h.bytes h.cls (h.hts _ w) d (q H locs ls a1 a2 a3)
theorem v_lconst (h : Ac a B D E own cc nL rm) {z : Fin 2} {y : Int} (d : decode cc pc = .ok (.lconst z, 1)) (e : ((z : Nat) : Int) = y) (q : VV a B P k n (pc + 1) lv (iL y :: st)) : VV a B P k n pc lv st := fun H locs ls a1 a2 a3 => lv_lconst h.exec h.bytes d (by rw [← e]; exact Int64.ofInt_eq_ofNat.symm) (q H locs ls a1 a2 a3)
theorem v_iload_n (h : Ac a B D E own cc nL rm) {i : Fin 4} {x : Int32} (d : decode cc pc = .ok (.iload_n i, 1)) (g : lvg lv i = some (.int x)) (q : VV a B P k n (pc + 1) lv (.int x :: st)) : VV a B P k n pc lv st := fun H locs ls a1 a2 a3 => lv_iload_n h.exec h.bytes d rfl (lvg_at a3 g) (q H locs ls a1 a2 a3)
theorem v_iload (h : Ac a B D E own cc nL rm) {i : Nat} {x : Int32} (d : decode cc pc = .ok (.iload i, 2)) (g : lvg lv i = some (.int x)) (q : VV a B P k n (pc + 2) lv (.int x :: st)) : VV a B P k n pc lv st := fun H locs ls a1 a2 a3 => lv_iload h.exec h.bytes d (lvg_at a3 g) (q H locs ls a1 a2 a3)
theorem v_lload_n (h : Ac a B D E own cc nL rm) {i : Fin 4} {x : Int64} (d : decode cc pc = .ok (.lload_n i, 1)) (g : lvg lv i = some (.long x)) (q : VV a B P k n (pc + 1) lv (.long x :: st)) : VV a B P k n pc lv st := fun H locs ls a1 a2 a3 => lv_lload_n h.exec h.bytes d rfl (lvg_at a3 g) (q H locs ls a1 a2 a3)
theorem v_lload (h : Ac a B D E own cc nL rm) {i : Nat} {x : Int64} (d : decode cc pc = .ok (.lload i, 2)) (g : lvg lv i = some (.long x)) (q : VV a B P k n (pc + 2) lv (.long x :: st)) : VV a B P k n pc lv st := fun H locs ls a1 a2 a3 => lv_lload h.exec h.bytes d (lvg_at a3 g) (q H locs ls a1 a2 a3)
theorem v_aload_n (h : Ac a B D E own cc nL rm) {i : Fin 4} {x : Nat} (d : decode cc pc = .ok (.aload_n i, 1)) (g : lvg lv i = some (.ref x)) (q : VV a B P k n (pc + 1) lv (.ref x :: st)) : VV a B P k n pc lv st := fun H locs ls a1 a2 a3 => lv_aload_n h.exec h.bytes d rfl (lvg_at a3 g) (q H locs ls a1 a2 a3)
theorem v_aload (h : Ac a B D E own cc nL rm) {i : Nat} {x : Nat} (d : decode cc pc = .ok (.aload i, 2)) (g : lvg lv i = some (.ref x)) (q : VV a B P k n (pc + 2) lv (.ref x :: st)) : VV a B P k n pc lv st := fun H locs ls a1 a2 a3 => lv_aload h.exec h.bytes d (lvg_at a3 g) (q H locs ls a1 a2 a3)
theorem v_istore_n (h : Ac a B D E own cc nL rm) {i : Fin 4} {x : Int32} (d : decode cc pc = .ok (.istore_n i, 1)) (hn : (i : Nat) < nL) (e : (↑i, Value.int x) :: lvd i lv = lv') (q : VV a B P k n (pc + 1) lv' st) : VV a B P k n pc lv (.int x :: st) := fun H locs ls a1 a2 a3 => lv_istore_n h.exec h.bytes d rfl a3 (by rw [h.maxl]; exact hn) rfl fun ls' h' => q H locs ls' a1 a2 (e ▸ lvd_has h')
theorem v_istore (h : Ac a B D E own cc nL rm) {i : Nat} {x : Int32} (d : decode cc pc = .ok (.istore i, 2)) (hn : i < nL) (e : (i, Value.int x) :: lvd i lv = lv') (q : VV a B P k n (pc + 2) lv' st) : VV a B P k n pc lv (.int x :: st) := fun H locs ls a1 a2 a3 => lv_istore h.exec h.bytes d a3 (by rw [h.maxl]; exact hn) rfl fun ls' h' => q H locs ls' a1 a2 (e ▸ lvd_has h')
theorem v_lstore_n (h : Ac a B D E own cc nL rm) {i : Fin 4} {x : Int64} (d : decode cc pc = .ok (.lstore_n i, 1)) (hn : (i : Nat) + 1 < nL) (e : (↑i, Value.long x) :: lvd2 i lv = lv') (q : VV a B P k n (pc + 1) lv' st) : VV a B P k n pc lv (.long x :: st) := fun H locs ls a1 a2 a3 => lv_lstore_n h.exec h.bytes d rfl a3 (by rw [h.maxl]; exact hn) rfl fun ls' h' => q H locs ls' a1 a2 (e ▸ lvd2_has h')
theorem v_lstore (h : Ac a B D E own cc nL rm) {i : Nat} {x : Int64} (d : decode cc pc = .ok (.lstore i, 2)) (hn : i + 1 < nL) (e : (i, Value.long x) :: lvd2 i lv = lv') (q : VV a B P k n (pc + 2) lv' st) : VV a B P k n pc lv (.long x :: st) := fun H locs ls a1 a2 a3 => lv_lstore h.exec h.bytes d a3 (by rw [h.maxl]; exact hn) rfl fun ls' h' => q H locs ls' a1 a2 (e ▸ lvd2_has h')
theorem v_astore_n (h : Ac a B D E own cc nL rm) {i : Fin 4} {x : Nat} (d : decode cc pc = .ok (.astore_n i, 1)) (hn : (i : Nat) < nL) (e : (↑i, Value.ref x) :: lvd i lv = lv') (q : VV a B P k n (pc + 1) lv' st) : VV a B P k n pc lv (.ref x :: st) := fun H locs ls a1 a2 a3 => lv_astore_n h.exec h.bytes d rfl a3 (by rw [h.maxl]; exact hn) rfl fun ls' h' => q H locs ls' a1 a2 (e ▸ lvd_has h')
theorem v_astore (h : Ac a B D E own cc nL rm) {i : Nat} {x : Nat} (d : decode cc pc = .ok (.astore i, 2)) (hn : i < nL) (e : (i, Value.ref x) :: lvd i lv = lv') (q : VV a B P k n (pc + 2) lv' st) : VV a B P k n pc lv (.ref x :: st) := fun H locs ls a1 a2 a3 => lv_astore h.exec h.bytes d a3 (by rw [h.maxl]; exact hn) rfl fun ls' h' => q H locs ls' a1 a2 (e ▸ lvd_has h')
theorem lvg_place : ∀ {lv : List (Nat × Value)} {i : Nat} {v : Value}, lvg lv i = some v → ∃ j : Nat, lv[j]? = some (i, v) := fun g => by
  obtain ⟨j, hj⟩ := List.getElem?_of_mem (lvg_mem g)
  exact ⟨j, hj⟩
theorem v_iinc (h : Ac a B D E own cc nL rm) {i : Nat} {z x : Int} (d : decode cc pc = .ok (.iinc i z, 3)) (g : lvg lv i = some (iI x)) (hn : i < nL) (e : (i, iI (x + z)) :: lvd i lv = lv') (q : VV a B P k n (pc + 3) lv' st) : VV a B P k n pc lv st := fun H locs ls a1 a2 a3 => by
  obtain ⟨j, hj⟩ := lvg_place g
  exact lv_iinc h.exec h.bytes d a3 (k := j) hj (v := Int32.ofInt (x + z)) (Int32.ofInt_add x z).symm (by rw [h.maxl]; exact hn) rfl fun ls' h' => q H locs ls' a1 a2 (e ▸ lvd_has h')
theorem v_iadd (h : Ac a B D E own cc nL rm) {x y : Int} (d : decode cc pc = .ok (.iadd, 1)) (q : VV a B P k n (pc + 1) lv (iI (x + y) :: st)) : VV a B P k n pc lv (iI y :: iI x :: st) := fun H locs ls a1 a2 a3 => lv_iadd h.exec h.bytes d (by rw [← Int32.ofInt_add]; exact q H locs ls a1 a2 a3)
theorem v_isub (h : Ac a B D E own cc nL rm) {x y : Int} (d : decode cc pc = .ok (.isub, 1)) (q : VV a B P k n (pc + 1) lv (iI (x - y) :: st)) : VV a B P k n pc lv (iI y :: iI x :: st) := fun H locs ls a1 a2 a3 => lv_isub h.exec h.bytes d (by rw [← Int32.ofInt_sub]; exact q H locs ls a1 a2 a3)
theorem v_imul (h : Ac a B D E own cc nL rm) {x y : Int} (d : decode cc pc = .ok (.imul, 1)) (q : VV a B P k n (pc + 1) lv (iI (x * y) :: st)) : VV a B P k n pc lv (iI y :: iI x :: st) := fun H locs ls a1 a2 a3 => lv_imul h.exec h.bytes d (by rw [← Int32.ofInt_mul]; exact q H locs ls a1 a2 a3)
theorem v_ineg (h : Ac a B D E own cc nL rm) {x : Int} (d : decode cc pc = .ok (.ineg, 1)) (q : VV a B P k n (pc + 1) lv (iI (-x) :: st)) : VV a B P k n pc lv (iI x :: st) := fun H locs ls a1 a2 a3 => lv_ineg h.exec h.bytes d (by rw [← Int32.ofInt_neg]; exact q H locs ls a1 a2 a3)
theorem v_iand (h : Ac a B D E own cc nL rm) {x y : Int} (d : decode cc pc = .ok (.iand, 1)) (q : VV a B P k n (pc + 1) lv (iI (bnd x y) :: st)) : VV a B P k n pc lv (iI y :: iI x :: st) := fun H locs ls a1 a2 a3 => lv_iand h.exec h.bytes d (by have := q H locs ls a1 a2 a3; rw [show iI (bnd x y) = Value.int (Int32.ofInt x &&& Int32.ofInt y) from congrArg Value.int (iI_toInt32 _)] at this; exact this)
theorem v_ior (h : Ac a B D E own cc nL rm) {x y : Int} (d : decode cc pc = .ok (.ior, 1)) (q : VV a B P k n (pc + 1) lv (iI (bor x y) :: st)) : VV a B P k n pc lv (iI y :: iI x :: st) := fun H locs ls a1 a2 a3 => lv_ior h.exec h.bytes d (by have := q H locs ls a1 a2 a3; rw [show iI (bor x y) = Value.int (Int32.ofInt x ||| Int32.ofInt y) from congrArg Value.int (iI_toInt32 _)] at this; exact this)
theorem v_ixor (h : Ac a B D E own cc nL rm) {x y : Int} (d : decode cc pc = .ok (.ixor, 1)) (q : VV a B P k n (pc + 1) lv (iI (bxr x y) :: st)) : VV a B P k n pc lv (iI y :: iI x :: st) := fun H locs ls a1 a2 a3 => lv_ixor h.exec h.bytes d (by have := q H locs ls a1 a2 a3; rw [show iI (bxr x y) = Value.int (Int32.ofInt x ^^^ Int32.ofInt y) from congrArg Value.int (iI_toInt32 _)] at this; exact this)
theorem v_ishl (h : Ac a B D E own cc nL rm) {x y : Int} (d : decode cc pc = .ok (.ishl, 1)) (q : VV a B P k n (pc + 1) lv (iI (bsl x y) :: st)) : VV a B P k n pc lv (iI y :: iI x :: st) := fun H locs ls a1 a2 a3 => lv_ishl h.exec h.bytes d (by have := q H locs ls a1 a2 a3; rw [show iI (bsl x y) = Value.int (Int32.ofInt x <<< (Int32.ofInt y &&& 31)) from congrArg Value.int (iI_toInt32 _)] at this; exact this)
theorem v_ishr (h : Ac a B D E own cc nL rm) {x y : Int} (d : decode cc pc = .ok (.ishr, 1)) (q : VV a B P k n (pc + 1) lv (iI (bsr x y) :: st)) : VV a B P k n pc lv (iI y :: iI x :: st) := fun H locs ls a1 a2 a3 => lv_ishr h.exec h.bytes d (by have := q H locs ls a1 a2 a3; rw [show iI (bsr x y) = Value.int (Int32.ofInt x >>> (Int32.ofInt y &&& 31)) from congrArg Value.int (iI_toInt32 _)] at this; exact this)
theorem v_iushr (h : Ac a B D E own cc nL rm) {x y : Int} (d : decode cc pc = .ok (.iushr, 1)) (q : VV a B P k n (pc + 1) lv (iI (bus x y) :: st)) : VV a B P k n pc lv (iI y :: iI x :: st) := fun H locs ls a1 a2 a3 => lv_iushr (v := Int32.ofInt (bus x y)) h.exec h.bytes d (iI_toInt32 _).symm (q H locs ls a1 a2 a3)
theorem v_idiv (h : Ac a B D E own cc nL rm) {x y : Int} (d : decode cc pc = .ok (.idiv, 1)) (hx : 0 ≤ x ∧ InR x) (hy : 0 < y ∧ InR y) (q : VV a B P k n (pc + 1) lv (iI (x / y) :: st)) : VV a B P k n pc lv (iI y :: iI x :: st) := fun H locs ls a1 a2 a3 => lv_idiv h.exec h.bytes d (fun z => by rw [← iI_0, iI_inj hy.2 (by omega)] at z; omega) (by rw [iI_div hx hy]; exact q H locs ls a1 a2 a3)
theorem v_irem (h : Ac a B D E own cc nL rm) {x y : Int} (d : decode cc pc = .ok (.irem, 1)) (hx : 0 ≤ x ∧ InR x) (hy : 0 < y ∧ InR y) (q : VV a B P k n (pc + 1) lv (iI (x % y) :: st)) : VV a B P k n pc lv (iI y :: iI x :: st) := fun H locs ls a1 a2 a3 => lv_irem h.exec h.bytes d (fun z => by rw [← iI_0, iI_inj hy.2 (by omega)] at z; omega) (by rw [iI_rem hx hy]; exact q H locs ls a1 a2 a3)
theorem v_i2l (h : Ac a B D E own cc nL rm) {x : Int} (d : decode cc pc = .ok (.i2l, 1)) (hx : InR x) (q : VV a B P k n (pc + 1) lv (iL x :: st)) : VV a B P k n pc lv (iI x :: st) := fun H locs ls a1 a2 a3 => lv_i2l h.exec h.bytes d (by rw [← Int64.ofInt_int32ToInt, iI_toInt hx]) (q H locs ls a1 a2 a3)
theorem v_l2i (h : Ac a B D E own cc nL rm) {x : Int} (d : decode cc pc = .ok (.l2i, 1)) (hx : InL x) (q : VV a B P k n (pc + 1) lv (iI x :: st)) : VV a B P k n pc lv (iL x :: st) := fun H locs ls a1 a2 a3 => lv_l2i h.exec h.bytes d (by rw [← Int32.ofInt_int64ToInt, iL_toInt hx]) (q H locs ls a1 a2 a3)
theorem v_ladd (h : Ac a B D E own cc nL rm) {x y : Int} (d : decode cc pc = .ok (.ladd, 1)) (q : VV a B P k n (pc + 1) lv (iL (x + y) :: st)) : VV a B P k n pc lv (iL y :: iL x :: st) := fun H locs ls a1 a2 a3 => lv_ladd h.exec h.bytes d (by rw [← Int64.ofInt_add]; exact q H locs ls a1 a2 a3)
theorem v_lmul (h : Ac a B D E own cc nL rm) {x y : Int} (d : decode cc pc = .ok (.lmul, 1)) (q : VV a B P k n (pc + 1) lv (iL (x * y) :: st)) : VV a B P k n pc lv (iL y :: iL x :: st) := fun H locs ls a1 a2 a3 => lv_lmul h.exec h.bytes d (by rw [← Int64.ofInt_mul]; exact q H locs ls a1 a2 a3)
theorem v_ldiv (h : Ac a B D E own cc nL rm) {x y : Int} (d : decode cc pc = .ok (.ldiv, 1)) (hx : 0 ≤ x ∧ InL x) (hy : 0 < y ∧ InL y) (q : VV a B P k n (pc + 1) lv (iL (x / y) :: st)) : VV a B P k n pc lv (iL y :: iL x :: st) := fun H locs ls a1 a2 a3 => lv_ldiv h.exec h.bytes d (fun z => by have := congrArg Int64.toInt z; rw [iL_toInt hy.2] at this; have e : (0 : Int64).toInt = 0 := rfl; omega) (by rw [iL_div hx hy]; exact q H locs ls a1 a2 a3)
theorem v_lrem (h : Ac a B D E own cc nL rm) {x y : Int} (d : decode cc pc = .ok (.lrem, 1)) (hx : 0 ≤ x ∧ InL x) (hy : 0 < y ∧ InL y) (q : VV a B P k n (pc + 1) lv (iL (x % y) :: st)) : VV a B P k n pc lv (iL y :: iL x :: st) := fun H locs ls a1 a2 a3 => lv_lrem h.exec h.bytes d (fun z => by have := congrArg Int64.toInt z; rw [iL_toInt hy.2] at this; have e : (0 : Int64).toInt = 0 := rfl; omega) (by rw [iL_rem hx hy]; exact q H locs ls a1 a2 a3)
theorem lcmp_of {x y : Int} (hx : InL x) (hy : InL y) : lg_cmp (Int64.ofInt x) (Int64.ofInt y) = Int32.ofInt (if x < y then -1 else if x = y then 0 else 1) := by
  unfold lg_cmp
  have e1 : (Int64.ofInt x < Int64.ofInt y) ↔ x < y := by rw [Int64.lt_iff_toInt_lt, iL_toInt hx, iL_toInt hy]
  have e2 : (Int64.ofInt y < Int64.ofInt x) ↔ y < x := by rw [Int64.lt_iff_toInt_lt, iL_toInt hx, iL_toInt hy]
  have e3 : (Int64.ofInt x = Int64.ofInt y) ↔ x = y := by rw [← Int64.toInt_inj, iL_toInt hx, iL_toInt hy]
  by_cases h1 : x < y
  · have h2 : ¬ y < x := by omega
    have h3 : ¬ x = y := by omega
    simp only [e1, e2, e3, h1, h2, h3, if_true, if_false]; rfl
  · by_cases h2 : x = y
    · have h3 : ¬ y < x := by omega
      simp only [e1, e2, e3, h1, h3, if_false]; rw [if_pos h2, if_pos h2]; rfl
    · have h3 : y < x := by omega
      simp only [e1, e2, e3, h1, h2, h3, if_true, if_false]; rfl
theorem v_lcmp (h : Ac a B D E own cc nL rm) {x y : Int} (d : decode cc pc = .ok (.lcmp, 1)) (hx : InL x) (hy : InL y) (q : VV a B P k n (pc + 1) lv (iI (if x < y then -1 else if x = y then 0 else 1) :: st)) : VV a B P k n pc lv (iL y :: iL x :: st) := fun H locs ls a1 a2 a3 => W.lcmp h.exec h.bytes d (by rw [lcmp_of hx hy]; exact q H locs ls a1 a2 a3)
theorem v_dup (h : Ac a B D E own cc nL rm) {v : Value} (d : decode cc pc = .ok (.dup, 1)) (hv : v.category = 1) (q : VV a B P k n (pc + 1) lv (v :: v :: st)) : VV a B P k n pc lv (v :: st) := fun H locs ls a1 a2 a3 => lv_dup h.exec h.bytes d hv (q H locs ls a1 a2 a3)
theorem v_pop (h : Ac a B D E own cc nL rm) {v : Value} (d : decode cc pc = .ok (.pop, 1)) (hv : v.category = 1) (q : VV a B P k n (pc + 1) lv st) : VV a B P k n pc lv (v :: st) := fun H locs ls a1 a2 a3 => lv_pop h.exec h.bytes d hv (q H locs ls a1 a2 a3)
theorem v_dup2 (h : Ac a B D E own cc nL rm) {v w : Value} (d : decode cc pc = .ok (.dup2, 1)) (hv : v.category = 1) (hw : w.category = 1) (q : VV a B P k n (pc + 1) lv (v :: w :: v :: w :: st)) : VV a B P k n pc lv (v :: w :: st) := fun H locs ls a1 a2 a3 => lv_dup2_11 h.exec h.bytes d hv hw (q H locs ls a1 a2 a3)
theorem v_goto (h : Ac a B D E own cc nL rm) {off : Int} (tgt : Nat) (d : decode cc pc = .ok (.goto off, 3)) (e : (pc : Int) + off = (tgt : Int)) (q : VV a B P k n tgt lv st) : VV a B P k n pc lv st := fun H locs ls a1 a2 a3 => lv_goto h.exec h.bytes d e (q H locs ls a1 a2 a3)
theorem v_if_eq (h : Ac a B D E own cc nL rm) {x off : Int} (tgt : Nat) (d : decode cc pc = .ok (.ifCond .eq off, 3)) (e : (pc : Int) + off = (tgt : Int)) (hx : InR x) (q1 : x = 0 → VV a B P k n tgt lv st) (q2 : x ≠ 0 → VV a B P k n (pc + 3) lv st) : VV a B P k n pc lv (iI x :: st) := fun H locs ls a1 a2 a3 => lv_if_eq h.exec h.bytes d e (fun z => q1 (by rwa [← iI_0, iI_inj hx (by omega)] at z) H locs ls a1 a2 a3) (fun z => q2 (fun c => z (by rw [c]; rfl)) H locs ls a1 a2 a3)
theorem v_if_ne (h : Ac a B D E own cc nL rm) {x off : Int} (tgt : Nat) (d : decode cc pc = .ok (.ifCond .ne off, 3)) (e : (pc : Int) + off = (tgt : Int)) (hx : InR x) (q1 : x ≠ 0 → VV a B P k n tgt lv st) (q2 : x = 0 → VV a B P k n (pc + 3) lv st) : VV a B P k n pc lv (iI x :: st) := fun H locs ls a1 a2 a3 => lv_if_ne h.exec h.bytes d e (fun z => q1 (fun c => z (by rw [c]; rfl)) H locs ls a1 a2 a3) (fun z => q2 (by rwa [← iI_0, iI_inj hx (by omega)] at z) H locs ls a1 a2 a3)
theorem v_if_lt (h : Ac a B D E own cc nL rm) {x off : Int} (tgt : Nat) (d : decode cc pc = .ok (.ifCond .lt off, 3)) (e : (pc : Int) + off = (tgt : Int)) (hx : InR x) (q1 : x < 0 → VV a B P k n tgt lv st) (q2 : 0 ≤ x → VV a B P k n (pc + 3) lv st) : VV a B P k n pc lv (iI x :: st) := fun H locs ls a1 a2 a3 => lv_if_lt h.exec h.bytes d e (fun z => q1 (by rwa [← iI_0, iI_lt hx (by omega)] at z) H locs ls a1 a2 a3) (fun z => q2 (by rw [← iI_0, iI_lt hx (by omega)] at z; omega) H locs ls a1 a2 a3)
theorem v_if_ge (h : Ac a B D E own cc nL rm) {x off : Int} (tgt : Nat) (d : decode cc pc = .ok (.ifCond .ge off, 3)) (e : (pc : Int) + off = (tgt : Int)) (hx : InR x) (q1 : 0 ≤ x → VV a B P k n tgt lv st) (q2 : x < 0 → VV a B P k n (pc + 3) lv st) : VV a B P k n pc lv (iI x :: st) := fun H locs ls a1 a2 a3 => lv_if_ge h.exec h.bytes d e (fun z => q1 (by rwa [← iI_0, iI_le (by omega) hx] at z) H locs ls a1 a2 a3) (fun z => q2 (by rw [← iI_0, iI_le (by omega) hx] at z; omega) H locs ls a1 a2 a3)
theorem v_if_gt (h : Ac a B D E own cc nL rm) {x off : Int} (tgt : Nat) (d : decode cc pc = .ok (.ifCond .gt off, 3)) (e : (pc : Int) + off = (tgt : Int)) (hx : InR x) (q1 : 0 < x → VV a B P k n tgt lv st) (q2 : x ≤ 0 → VV a B P k n (pc + 3) lv st) : VV a B P k n pc lv (iI x :: st) := fun H locs ls a1 a2 a3 => lv_if_gt h.exec h.bytes d e (fun z => q1 (by rwa [← iI_0, iI_lt (by omega) hx] at z) H locs ls a1 a2 a3) (fun z => q2 (by rw [← iI_0, iI_lt (by omega) hx] at z; omega) H locs ls a1 a2 a3)
theorem v_if_le (h : Ac a B D E own cc nL rm) {x off : Int} (tgt : Nat) (d : decode cc pc = .ok (.ifCond .le off, 3)) (e : (pc : Int) + off = (tgt : Int)) (hx : InR x) (q1 : x ≤ 0 → VV a B P k n tgt lv st) (q2 : 0 < x → VV a B P k n (pc + 3) lv st) : VV a B P k n pc lv (iI x :: st) := fun H locs ls a1 a2 a3 => lv_if_le h.exec h.bytes d e (fun z => q1 (by rwa [← iI_0, iI_le hx (by omega)] at z) H locs ls a1 a2 a3) (fun z => q2 (by rw [← iI_0, iI_le hx (by omega)] at z; omega) H locs ls a1 a2 a3)
theorem v_icmp_eq (h : Ac a B D E own cc nL rm) {x y off : Int} (tgt : Nat) (d : decode cc pc = .ok (.if_icmp .eq off, 3)) (e : (pc : Int) + off = (tgt : Int)) (hx : InR x ∧ InR y) (q1 : x = y → VV a B P k n tgt lv st) (q2 : x ≠ y → VV a B P k n (pc + 3) lv st) : VV a B P k n pc lv (iI y :: iI x :: st) := fun H locs ls a1 a2 a3 => lv_icmp_eq h.exec h.bytes d e (fun z => q1 (by rwa [iI_inj hx.1 hx.2] at z) H locs ls a1 a2 a3) (fun z => q2 (fun c => z (by rw [c])) H locs ls a1 a2 a3)
theorem v_icmp_ne (h : Ac a B D E own cc nL rm) {x y off : Int} (tgt : Nat) (d : decode cc pc = .ok (.if_icmp .ne off, 3)) (e : (pc : Int) + off = (tgt : Int)) (hx : InR x ∧ InR y) (q1 : x ≠ y → VV a B P k n tgt lv st) (q2 : x = y → VV a B P k n (pc + 3) lv st) : VV a B P k n pc lv (iI y :: iI x :: st) := fun H locs ls a1 a2 a3 => lv_icmp_ne h.exec h.bytes d e (fun z => q1 (fun c => z (by rw [c])) H locs ls a1 a2 a3) (fun z => q2 (by rwa [iI_inj hx.1 hx.2] at z) H locs ls a1 a2 a3)
theorem v_icmp_lt (h : Ac a B D E own cc nL rm) {x y off : Int} (tgt : Nat) (d : decode cc pc = .ok (.if_icmp .lt off, 3)) (e : (pc : Int) + off = (tgt : Int)) (hx : InR x ∧ InR y) (q1 : x < y → VV a B P k n tgt lv st) (q2 : y ≤ x → VV a B P k n (pc + 3) lv st) : VV a B P k n pc lv (iI y :: iI x :: st) := fun H locs ls a1 a2 a3 => lv_icmp_lt h.exec h.bytes d e (fun z => q1 (by rwa [iI_lt hx.1 hx.2] at z) H locs ls a1 a2 a3) (fun z => q2 (by rw [iI_lt hx.1 hx.2] at z; omega) H locs ls a1 a2 a3)
theorem v_icmp_ge (h : Ac a B D E own cc nL rm) {x y off : Int} (tgt : Nat) (d : decode cc pc = .ok (.if_icmp .ge off, 3)) (e : (pc : Int) + off = (tgt : Int)) (hx : InR x ∧ InR y) (q1 : y ≤ x → VV a B P k n tgt lv st) (q2 : x < y → VV a B P k n (pc + 3) lv st) : VV a B P k n pc lv (iI y :: iI x :: st) := fun H locs ls a1 a2 a3 => lv_icmp_ge h.exec h.bytes d e (fun z => q1 (by rwa [iI_le hx.2 hx.1] at z) H locs ls a1 a2 a3) (fun z => q2 (by rw [iI_le hx.2 hx.1] at z; omega) H locs ls a1 a2 a3)
theorem v_icmp_gt (h : Ac a B D E own cc nL rm) {x y off : Int} (tgt : Nat) (d : decode cc pc = .ok (.if_icmp .gt off, 3)) (e : (pc : Int) + off = (tgt : Int)) (hx : InR x ∧ InR y) (q1 : y < x → VV a B P k n tgt lv st) (q2 : x ≤ y → VV a B P k n (pc + 3) lv st) : VV a B P k n pc lv (iI y :: iI x :: st) := fun H locs ls a1 a2 a3 => lv_icmp_gt h.exec h.bytes d e (fun z => q1 (by rwa [iI_lt hx.2 hx.1] at z) H locs ls a1 a2 a3) (fun z => q2 (by rw [iI_lt hx.2 hx.1] at z; omega) H locs ls a1 a2 a3)
theorem v_icmp_le (h : Ac a B D E own cc nL rm) {x y off : Int} (tgt : Nat) (d : decode cc pc = .ok (.if_icmp .le off, 3)) (e : (pc : Int) + off = (tgt : Int)) (hx : InR x ∧ InR y) (q1 : x ≤ y → VV a B P k n tgt lv st) (q2 : y < x → VV a B P k n (pc + 3) lv st) : VV a B P k n pc lv (iI y :: iI x :: st) := fun H locs ls a1 a2 a3 => lv_icmp_le h.exec h.bytes d e (fun z => q1 (by rwa [iI_le hx.1 hx.2] at z) H locs ls a1 a2 a3) (fun z => q2 (by rw [iI_le hx.1 hx.2] at z; omega) H locs ls a1 a2 a3)
theorem v_switchOut (h : Ac a B D E own cc nL rm) {x dflt lo hi : Int} {offs : Array Int} {len : Nat} (tgt : Nat) (d : decode cc pc = .ok (.tableswitch dflt lo hi offs, len)) (hx : InR x) (c : x < lo ∨ hi < x) (e : (pc : Int) + dflt = (tgt : Int)) (q : VV a B P k n tgt lv st) : VV a B P k n pc lv (iI x :: st) := fun H locs ls a1 a2 a3 => lv_tableOut h.exec h.bytes d (by rw [iI_toInt hx]; exact c) e (q H locs ls a1 a2 a3)
theorem v_switchIn (h : Ac a B D E own cc nL rm) {x dflt lo hi off : Int} {offs : Array Int} {len : Nat} (tgt : Nat) (d : decode cc pc = .ok (.tableswitch dflt lo hi offs, len)) (hx : InR x) (c1 : lo ≤ x) (c2 : x ≤ hi) (o : offs[(x - lo).toNat]? = some off) (e : (pc : Int) + off = (tgt : Int)) (q : VV a B P k n tgt lv st) : VV a B P k n pc lv (iI x :: st) := fun H locs ls a1 a2 a3 => lv_tableIn h.exec h.bytes d (by rw [iI_toInt hx]; omega) (by rw [iI_toInt hx]; omega) (by rw [iI_toInt hx]; exact o) e (q H locs ls a1 a2 a3)
end R1
end
section
/-! ===== the picture of the whole system in a heap; fields, arrays ===== -/
def SP (B : Nat) (D : va_G) (E : Nat → ClassId) (μ : Mm) : Heap → Prop := fun H => va_P D vwCl (wsm B E μ) H
section R2
variable {a : Ax} {B : Nat} {D : va_G} {E : Nat → ClassId} {own : String} {cc : ByteArray} {nL : Nat} {rm : Room} {μ : Mm} {k n pc : Nat} {lv : List (Nat × Value)} {st : List Value} {o : Nat}
theorem v_get (h : Ac a B D E own cc nL rm) {ci j index N : Nat} {C : String} {T : u_T} {ty : Nat → FieldType} {fs : List (Option Nat)} {v : Value} (hc : CI ci C T N ty) (sh : shapes[o]? = some (.inl (ci, fs))) (hj : j < N) (w : Cond.fieldLink own index (T j).1 (T j).2.1 (T j).2.2.1 ∈ TS) (hv : (fvs (pl B) (μ o) 0 fs)[j]? = some v) (d : decode cc pc = .ok (.getfield index, 3))
    (q : VV a B (SP B D E μ) k n (pc + 3) lv (v :: st)) : VV a B (SP B D E μ) k n pc lv (.ref (pl B o) :: st) := fun H locs ls a1 a2 a3 =>
  va_get h.exec h.bytes h.hts hc.2.1 h.cls h.known a1 o (wsm_get sh) hc.1 j hj (h.hts _ w) (fun _ z => z) hv d (q H locs ls a1 a2 a3)
theorem fvs_get (B : Nat → Nat) (μ : Nat → Int) : ∀ (fs : List (Option Nat)) (a j : Nat), (fvs B μ a fs)[j]? = (fs[j]?).map (fun f => match f with | some r => Value.ref (B r) | none => iI (μ (a + j))) := by
  intro fs
  induction fs with
  | nil => intro a j; simp [fvs]
  | cons f t ih =>
    intro a j
    cases j with
    | zero => cases f <;> simp [fvs]
    | succ j => cases f <;> simp only [fvs, List.getElem?_cons_succ, ih] <;> rw [show a + 1 + j = a + (j + 1) by omega]
theorem v_geti (h : Ac a B D E own cc nL rm) {ci j index N : Nat} {C : String} {T : u_T} {ty : Nat → FieldType} {fs : List (Option Nat)} (hc : CI ci C T N ty) (sh : shapes[o]? = some (.inl (ci, fs))) (hj : j < N) (w : Cond.fieldLink own index (T j).1 (T j).2.1 (T j).2.2.1 ∈ TS) (hv : fs[j]? = some none) (d : decode cc pc = .ok (.getfield index, 3))
    (q : VV a B (SP B D E μ) k n (pc + 3) lv (iI (μ o j) :: st)) : VV a B (SP B D E μ) k n pc lv (.ref (pl B o) :: st) := v_get h hc sh hj w (by rw [fvs_get, hv, Nat.zero_add]; rfl) d q
theorem v_getr (h : Ac a B D E own cc nL rm) {ci j index N r : Nat} {C : String} {T : u_T} {ty : Nat → FieldType} {fs : List (Option Nat)} (hc : CI ci C T N ty) (sh : shapes[o]? = some (.inl (ci, fs))) (hj : j < N) (w : Cond.fieldLink own index (T j).1 (T j).2.1 (T j).2.2.1 ∈ TS) (hv : fs[j]? = some (some r)) (d : decode cc pc = .ok (.getfield index, 3))
    (q : VV a B (SP B D E μ) k n (pc + 3) lv (.ref (pl B r) :: st)) : VV a B (SP B D E μ) k n pc lv (.ref (pl B o) :: st) := v_get h hc sh hj w (by rw [fvs_get, hv]; rfl) d q
theorem v_put (h : Ac a B D E own cc nL rm) {ci j index N : Nat} {C : String} {T : u_T} {ty : Nat → FieldType} {fs : List (Option Nat)} {z : Int} (hc : CI ci C T N ty) (sh : shapes[o]? = some (.inl (ci, fs))) (hj : j < N) (w : Cond.fieldLink own index (T j).1 (T j).2.1 (T j).2.2.1 ∈ TS) (hf : fs[j]? = some none) (hfin : (T j).2.2.2 = false) (hn : narrow (ty j) (iI z) = iI z) (hft : fits (ty j) (iI z) = true) (d : decode cc pc = .ok (.putfield index, 3))
    (q : VV a B (SP B D E (mup μ o j z)) k n (pc + 3) lv st) : VV a B (SP B D E μ) k n pc lv (iI z :: .ref (pl B o) :: st) := fun H locs ls a1 a2 a3 =>
  va_put h.exec h.bytes h.hts hc.2.1 ty hc.2.2.1 hc.2.2.2 h.cls h.known a1 (wsm_apart B E μ) a2 o (wsm_get sh) hc.1 j hj (h.hts _ w) (fun _ z => z) hfin (hc.2.2.1 j hj) hn hft (by rw [fvs_len]; exact (List.getElem?_eq_some_iff.mp hf).1) d (fun H1 locs1 b1 _ b3 => q H1 locs1 ls (by
    have e : (wsm B E μ).set o (pl B o, .inr (ci, (fvs (pl B) (μ o) 0 fs).set j (iI z))) = wsm B E (mup μ o j z) := wsm_set (s := .inl (ci, fs)) sh (by
      show _ = (Sum.inr (ci, fvs (pl B) (mup μ o j z o) 0 fs) : va_E)
      rw [fvs_set fs 0 j (Nat.zero_add j).symm hf]
      have : (fun b => if b = j then z else μ o b) = mup μ o j z o := by funext b; rw [mup_row]
      rw [this])
    show va_P D vwCl (wsm B E (mup μ o j z)) H1
    rw [← e]; exact b1) b3 a3)
theorem v_iald (h : Ac a B D E own cc nL rm) {len : Nat} {z : Int} (sh : shapes[o]? = some (.inr (0, len))) (hl : len ≤ 4000) (hz : 0 ≤ z ∧ z < (len : Int)) (d : decode cc pc = .ok (.iaload, 1))
    (q : VV a B (SP B D E μ) k n (pc + 1) lv (iI (μ o z.toNat) :: st)) : VV a B (SP B D E μ) k n pc lv (iI z :: .ref (pl B o) :: st) := fun H locs ls a1 a2 a3 =>
  va_iald h.exec h.bytes h.known a1 o 0 (wsm_get sh) rfl (iI_in (by omega) hz.1 hz.2) d (by rw [iI_nat (by omega)]; exact q H locs ls a1 a2 a3)
theorem v_zald (h : Ac a B D E own cc nL rm) {len : Nat} {z : Int} (sh : shapes[o]? = some (.inr (1, len))) (hl : len ≤ 4000) (hz : 0 ≤ z ∧ z < (len : Int)) (d : decode cc pc = .ok (.baload, 1))
    (q : VV a B (SP B D E μ) k n (pc + 1) lv (iI (μ o z.toNat) :: st)) : VV a B (SP B D E μ) k n pc lv (iI z :: .ref (pl B o) :: st) := fun H locs ls a1 a2 a3 =>
  va_zald h.exec h.bytes h.known a1 o 1 (wsm_get sh) rfl (iI_in (by omega) hz.1 hz.2) d (by rw [iI_nat (by omega)]; exact q H locs ls a1 a2 a3)
theorem upd_mup {j : Nat} {y : Int} : upd (fun j => Int32.ofInt (μ o j)) j (Int32.ofInt y) = fun b => Int32.ofInt (mup μ o j y o b) := by
  funext b
  rw [mup_row]
  unfold upd
  by_cases hb : b = j <;> simp [hb]
theorem v_iast (h : Ac a B D E own cc nL rm) {len : Nat} {z y : Int} (sh : shapes[o]? = some (.inr (0, len))) (hl : len ≤ 4000) (hz : 0 ≤ z ∧ z < (len : Int)) (d : decode cc pc = .ok (.iastore, 1))
    (q : VV a B (SP B D E (mup μ o z.toNat y)) k n (pc + 1) lv st) : VV a B (SP B D E μ) k n pc lv (iI y :: iI z :: .ref (pl B o) :: st) := fun H locs ls a1 a2 a3 =>
  va_iast h.exec h.bytes h.known a1 (wsm_apart B E μ) a2 o 0 (wsm_get sh) rfl (iI_in (by omega) hz.1 hz.2) d (fun H1 locs1 b1 _ b3 => q H1 locs1 ls (by
    rw [iI_nat (by omega), upd_mup] at b1
    have e : (wsm B E μ).set o (pl B o, .inl (E 0, len, .inl (fun b => Int32.ofInt (mup μ o z.toNat y o b)))) = wsm B E (mup μ o z.toNat y) := wsm_set (s := .inr (0, len)) sh rfl
    show va_P D vwCl (wsm B E (mup μ o z.toNat y)) H1
    rw [← e]
    exact b1) b3 a3)
theorem nar_b {y : Int} (hy : y = 0 ∨ y = 1) : vp_nar .boolean (Int32.ofInt y) = Int32.ofInt y := by rcases hy with rfl | rfl <;> rfl
theorem v_zast (h : Ac a B D E own cc nL rm) {len : Nat} {z y : Int} (sh : shapes[o]? = some (.inr (1, len))) (hl : len ≤ 4000) (hz : 0 ≤ z ∧ z < (len : Int)) (hy : y = 0 ∨ y = 1) (d : decode cc pc = .ok (.bastore, 1))
    (q : VV a B (SP B D E (mup μ o z.toNat y)) k n (pc + 1) lv st) : VV a B (SP B D E μ) k n pc lv (iI y :: iI z :: .ref (pl B o) :: st) := fun H locs ls a1 a2 a3 =>
  va_zast h.exec h.bytes h.known a1 (wsm_apart B E μ) a2 o 1 (wsm_get sh) rfl (iI_in (by omega) hz.1 hz.2) d (fun H1 locs1 b1 _ b3 => q H1 locs1 ls (by
    rw [nar_b hy, iI_nat (by omega), upd_mup] at b1
    have e : (wsm B E μ).set o (pl B o, .inl (E 1, len, .inl (fun b => Int32.ofInt (mup μ o z.toNat y o b)))) = wsm B E (mup μ o z.toNat y) := wsm_set (s := .inr (1, len)) sh rfl
    show va_P D vwCl (wsm B E (mup μ o z.toNat y)) H1
    rw [← e]
    exact b1) b3 a3)
theorem v_alen (h : Ac a B D E own cc nL rm) {len : Nat} (sh : shapes[o]? = some (.inr (0, len))) (d : decode cc pc = .ok (.arraylength, 1))
    (q : VV a B (SP B D E μ) k n (pc + 1) lv (iI (len : Int) :: st)) : VV a B (SP B D E μ) k n pc lv (.ref (pl B o) :: st) := fun H locs ls a1 a2 a3 =>
  va_alen h.exec h.bytes h.known a1 o 0 (wsm_get sh) rfl (Int32.ofInt_eq_ofNat.symm) d (q H locs ls a1 a2 a3)
end R2
/-! ===== contracts ===== -/
abbrev Pv : Type := Option Value → Mm → Prop
abbrev Px : Type := String → Mm → Prop
def Ent (B : Nat) (D : va_G) (E : Nat → ClassId) (μ : Mm) (U : State) : Prop := SP B D E μ U.heap ∧ va_K D vwCl (tyE E) U ∧ ZX B U U.heap ∧ B ≤ U.heap.size
def Qt (B : Nat) (D : va_G) (E : Nat → ClassId) (P : Pv) : Array Value → State → Outcome → State → Prop := fun _ s oc t => (∃ (v : Option Value) (μ : Mm), oc = .returned v ∧ P v μ ∧ SP B D E μ t.heap) ∧ va_F (fun q : Nat => B ≤ q) s t
def Xt (B : Nat) (D : va_G) (E : Nat → ClassId) (X : Px) : String → State → State → Prop := fun e s t => (∃ μ : Mm, X e μ ∧ SP B D E μ t.heap) ∧ va_F (fun q : Nat => B ≤ q) s t
/-- a method's contract: from the memory μ with the arguments av it returns as P says or throws as X says -/
def Ct (l : Launch) (B : Nat) (D : va_G) (E : Nat → ClassId) (y : MethodName) (cw : Cond) (rm : Room) (av : List Value) (μ : Mm) (P : Pv) (X : Px) : Prop :=
  vx_Met l y (cw :: TS) rm (va_Pc av (Ent B D E μ)) (Qt B D E P) (Xt B D E X) rm.cells rm.slots (fun q : Nat => B ≤ q)
def NX : Px := fun _ _ => False
/-- it returns v, the memory is μ' -/
def dr (v : Option Value) (μ' : Mm) : Pv := fun w m => w = v ∧ m = μ'
/-- .. an int, the memory as it was -/
abbrev ri (z : Int) (μ' : Mm) : Pv := dr (some (iI z)) μ'
abbrev rv (μ' : Mm) : Pv := dr none μ'
def Rt (a : Ax) (B : Nat) (D : va_G) (E : Nat → ClassId) (ret : Option FieldType) (P : Pv) (X : Px) (mc ms : Nat) : Prop :=
  axQ a = vx_MQ (axB a) (Qt B D E P) (Xt B D E X) (axA a) (axS a) mc ms (fun q : Nat => B ≤ q) ∧ (axF a).sig.returnType = ret
def noTab (a : Ax) : Prop := ∀ x ∈ (axC a).exceptionTable.toList, False
theorem ct_of {l : Launch} {B : Nat} {D : va_G} {E : Nat → ClassId} {y : MethodName} {own : String} {cc : ByteArray} {nL : Nat} {ret : Option FieldType} {rm : Room} {av : List Value} {μ : Mm} {P : Pv} {X : Px} {lv : List (Nat × Value)}
    (hst : l.stackTraces = false) (hy : plainName y.cls = true) (hcl : y.cls = own) (hlv : lv_args 0 av = lv) (hsz : (lg_sl av).length ≤ nL)
    (body : ∀ a : Ax, Ac a B D E own cc nL rm → Rt a B D E ret P X rm.cells rm.slots → noTab a → VV a B (SP B D E μ) 0 0 0 lv []) : Ct l B D E y (.code y cc nL ret) rm av μ P X := by
  refine vx_ofW (cc := cc) (maxL := nL) (ret := ret) hy rfl ?_
  intro p e s m args below meth c s₁ B0 hml htab hv
  obtain ⟨rfl, hP, hK, hZ, hB⟩ := hv
  have hts := atoms_spec (ws := Cond.code y cc nL ret :: TS) B0.pre
  have hown : s.vm.findClass own = some m.cls := by rw [← hcl]; exact findClass_of_methodNamed B0.named
  have hl := lv_entry av hsz
  rw [hlv] at hl
  rw [lg_entry_eq]
  generalize (lg_sl av ++ List.replicate (nL - (lg_sl av).length) Slot.unset).toArray = ls at hl ⊢
  have hb := body (p, l, e, rm, s, m, av.toArray, below, meth, c, vx_MQ below (Qt B D E P) (Xt B D E X) av.toArray s rm.cells rm.slots (fun q : Nat => B ≤ q))
    ⟨B0.exec, B0.bytes, hml, hown, fun w hw => hts w (List.mem_cons_of_mem _ hw), rfl, hK, hZ, hst, B0.notSynchronized, hB⟩ ⟨rfl, B0.returns⟩ htab
  exact hb s.heap [] ls hP va_S.rf (by rw [← hml] at hl; exact hl)
/-! ===== ends ===== -/
section R3
variable {a : Ax} {B : Nat} {D : va_G} {E : Nat → ClassId} {own : String} {cc : ByteArray} {nL : Nat} {rm : Room} {μ : Mm} {k n pc : Nat} {lv : List (Nat × Value)} {P : Pv} {X : Px} {mc ms : Nat}
theorem Rt.end {ret : Option FieldType} (r : Rt a B D E ret P X mc ms) (hk : k ≤ mc) (hn : n ≤ ms) {H : Heap} {locs : List Loc} {g : JFrame}
    (q : W (axP a) (axL a) (axE a) (axR a) (axS a) (axM a) (axA a) (axB a) (axF a) (axC a) H locs mc ms (MQ (axB a) (Qt B D E P) (axA a) (axS a) mc ms (fun q : Nat => B ≤ q)) g) : W (axP a) (axL a) (axE a) (axR a) (axS a) (axM a) (axA a) (axB a) (axF a) (axC a) H locs k n (axQ a) g := by
  rw [r.1]
  exact W.widen hk hn (vx_ret q)
theorem v_iret (h : Ac a B D E own cc nL rm) (r : Rt a B D E (some .int) P X mc ms) {z : Int} (d : decode cc pc = .ok (.ireturn, 1)) (hk : k ≤ mc) (hn : n ≤ ms) (p : P (some (iI z)) μ) : VV a B (SP B D E μ) k n pc lv [iI z] := fun H locs ls a1 a2 _ =>
  r.end hk hn (W.iret h.exec h.bytes r.2 (fun t ht _ => ⟨⟨_, μ, rfl, p, by rw [ht]; exact a1⟩, a2.F ht⟩) a2.2.2 d (hlocks := h.unlocked))
theorem v_zret (h : Ac a B D E own cc nL rm) (r : Rt a B D E (some .boolean) P X mc ms) {z : Int} (d : decode cc pc = .ok (.ireturn, 1)) (hk : k ≤ mc) (hn : n ≤ ms) (hz : z = 0 ∨ z = 1) (p : P (some (iI z)) μ) : VV a B (SP B D E μ) k n pc lv [iI z] := fun H locs ls a1 a2 _ =>
  r.end hk hn (W.zret h.exec h.bytes r.2 (by rcases hz with rfl | rfl <;> rfl) (fun t ht _ => ⟨⟨_, μ, rfl, p, by rw [ht]; exact a1⟩, a2.F ht⟩) a2.2.2 d (hlocks := h.unlocked))
theorem v_lret (h : Ac a B D E own cc nL rm) (r : Rt a B D E (some .long) P X mc ms) {z : Int} (d : decode cc pc = .ok (.lreturn, 1)) (hk : k ≤ mc) (hn : n ≤ ms) (p : P (some (iL z)) μ) : VV a B (SP B D E μ) k n pc lv [iL z] := fun H locs ls a1 a2 _ =>
  r.end hk hn (W.lret h.exec h.bytes r.2 (fun t ht _ => ⟨⟨_, μ, rfl, p, by rw [ht]; exact a1⟩, a2.F ht⟩) a2.2.2 d (hlocks := h.unlocked))
theorem v_vret (h : Ac a B D E own cc nL rm) (r : Rt a B D E none P X mc ms) (d : decode cc pc = .ok (.return_, 1)) (hk : k ≤ mc) (hn : n ≤ ms) (p : P none μ) : VV a B (SP B D E μ) k n pc lv [] := fun H locs ls a1 a2 _ =>
  r.end hk hn (W.vret h.exec h.bytes r.2 (fun t ht _ => ⟨⟨_, μ, rfl, p, by rw [ht]; exact a1⟩, a2.F ht⟩) a2.2.2 d (hlocks := h.unlocked))
theorem v_aret (h : Ac a B D E own cc nL rm) {x : Nat} {rt : String} (r : Rt a B D E (some (.object rt)) P X mc ms) (d : decode cc pc = .ok (.areturn, 1)) (hk : k ≤ mc) (hn : n ≤ ms) (p : P (some (.ref x)) μ) : VV a B (SP B D E μ) k n pc lv [.ref x] := fun H locs ls a1 a2 _ =>
  r.end hk hn (W.aret h.exec h.bytes r.2 (Or.inl ⟨rt, rfl⟩) (Or.inr ⟨x, rfl⟩) (fun t ht _ => ⟨⟨_, μ, rfl, p, by rw [ht]; exact a1⟩, a2.F ht⟩) a2.2.2 d (hlocks := h.unlocked))
/-- an exception of the class e is on its way, at pc -/
def VX (a : Ax) (B : Nat) (P : Heap → Prop) (k n pc : Nat) (e : String) (lv : List (Nat × Value)) (st : List Value) : Prop :=
  ∀ (H : Heap) (locs : List Loc) (ls : Array Slot) (q : Addr) (ce : Cell), P H → va_S (fun q : Nat => B ≤ q) (axS a).heap H locs → lv_has ls (axC a).maxLocals lv → H[q]? = some ce → ce.vm = .none → (axS a).vm.findClass e = some ce.cls →
    vx_W (axP a) (axL a) (axE a) (axR a) (axS a) (axM a) (axA a) (axB a) (axF a) (axC a) H locs k n (axQ a) (F0 (axM a) pc ls st) q
theorem v_out {ret : Option FieldType} {st : List Value} {e : String} (h : Ac a B D E own cc nL rm) (r : Rt a B D E ret P X mc ms) (t : noTab a) (hk : k ≤ mc) (hn : n ≤ ms) (x : X e μ) : VX a B (SP B D E μ) k n pc e lv st := fun H locs ls q ce a1 a2 _ a4 a5 a6 => by
  rw [r.1]
  exact vx_out (E := e) (fun y hy => (t y hy).elim) h.unlocked a4 a5 a6 (fun t' ht _ => ⟨⟨μ, x, by rw [ht]; exact a1⟩, a2.F ht⟩) a2.2.2 hk hn
end R3
end
section
/-! ===== calls ===== -/
/-- room for a callee's -/
def RM (rm r : Room) (k n maxL : Nat) : Prop := (r.frames + 1 ≤ rm.frames ∧ 8 + (maxL + 11) + r.locals ≤ rm.locals) ∧ k + r.cells ≤ rm.cells ∧ n + r.slots ≤ rm.slots
def rmb (rm r : Room) (k n maxL : Nat) : Bool := Nat.ble (r.frames + 1) rm.frames && (Nat.ble (8 + (maxL + 11) + r.locals) rm.locals && (Nat.ble (k + r.cells) rm.cells && Nat.ble (n + r.slots) rm.slots))
theorem RM.of {rm r : Room} {k n maxL : Nat} (h : rmb rm r k n maxL = true) : RM rm r k n maxL := by
  simp only [rmb, Bool.and_eq_true] at h
  exact ⟨⟨Nat.le_of_ble_eq_true h.1, Nat.le_of_ble_eq_true h.2.1⟩, Nat.le_of_ble_eq_true h.2.2.1, Nat.le_of_ble_eq_true h.2.2.2⟩
theorem Ent.blind {B : Nat} {D : va_G} {E : Nat → ClassId} {μ : Mm} {av : List Value} : FrameBlind (va_Pc av (Ent B D E μ)) := fun _ U g mk q =>
  ⟨q.1, q.2.1, va_K.moved (u := U) (U := U.calling g mk _) (Vm.Alike.refl U.vm) q.2.2.1, q.2.2.2.1, q.2.2.2.2⟩
section R4
variable {a : Ax} {B : Nat} {D : va_G} {E : Nat → ClassId} {own : String} {cc : ByteArray} {nL : Nat} {rm : Room} {μ : Mm} {k n pc : Nat} {lv : List (Nat × Value)} {rest st : List Value}
theorem Ac.ent (h : Ac a B D E own cc nL rm) {H : Heap} {locs : List Loc} (a1 : SP B D E μ H) (a2 : va_S (fun q : Nat => B ≤ q) (axS a).heap H locs) {U : State} (hU : U.heap = H) (hW : (axS a).WarmedH U.vm) : Ent B D E μ U :=
  ⟨by rw [hU]; exact a1, va_K.moved hW.alike h.known, h.zx.go a2 hU hW, by rw [hU]; exact Nat.le_trans h.base a2.1⟩
/-- a virtual call; what it returns, and what it throws -/
theorem v_callVX (h : Ac a B D E own cc nL rm) {C : String} {T : u_T} {N ci o m index maxL : Nat} {fs : List (Option Nat)} {y : MethodName} {bytes : ByteArray} {ret : Option FieldType} {r : Room} {As : List Value} {P : Pv} {X : Px}
    (hM : Ct (axL a) B D E y (.code y bytes maxL ret) r (.ref (pl B o) :: As) μ P X) (kv : KV ci C T N y bytes maxL ret m) (sh : shapes[o]? = some (.inl (ci, fs))) (w : Cond.methodLink own index y ∈ TS) (hst : st = As.reverse ++ .ref (pl B o) :: rest) (hm : As.length = m) (hcat : (rest.map fun v => v.category).sum ≤ 8) (hR : RM rm r k n maxL) (d : decode cc pc = .ok (.invokevirtual index, 3))
    (kx : ∀ (e : String) (μ' : Mm), X e μ' → VX a B (SP B D E μ') (k + r.cells) (n + r.slots) pc e lv rest)
    (q : ∀ (v : Option Value) (μ' : Mm), P v μ' → VV a B (SP B D E μ') (k + r.cells) (n + r.slots) (pc + 3) lv (v.toList ++ rest)) : VV a B (SP B D E μ) k n pc lv st := by
  intro H locs ls a1 a2 a3 T0 hT X0
  have hr := h.room
  obtain ⟨hci, ⟨w1, w2, w3, w4⟩, hd⟩ := kv
  have hG : GoodIn TS (wsV own index C y (Cond.code y bytes maxL ret :: TS)) := by
    intro z hz
    have hm : z ∈ TS := by
      rcases List.mem_append.mp hz with hz | hz
      · rcases List.mem_cons.mp hz with e | hz
        · rw [e]; exact w
        · rcases List.mem_cons.mp hz with e | hz
          · rw [e]; exact w1
          · rcases List.mem_cons.mp hz with e | hz
            · rw [e]; exact w2
            · rw [List.mem_singleton.mp hz]; exact w3
      · rcases List.mem_cons.mp hz with e | hz
        · rw [e]; exact w4
        · exact hz
    exact ts_self z hm
  have hrun := vx_runV (e := axE a) (below := axB a) (meth := axF a) (R := axR a) (g := F0 (axM a) pc ls st) (rest := rest) (n := m) (cells := k) (slots := n) (locs := locs) (H := H) h.fix hM (cwV m h.hts hG rfl rfl rfl hd (by rw [hr]; exact hR.1))
    ⟨Ent.blind, va_recv h.known a1 hci (wsm_get sh), fun U hU hW => ⟨rfl, h.ent a1 a2 hU hW⟩⟩ rfl hm (by rw [← h.maxl]; exact a3.1) hst (lv_room hcat) d (by rw [hr]; exact hR.2)
  rcases hrun T0 hT X0 with ⟨v, st₀, t, T', L, h0, X', hL, e1, e2, ⟨⟨v', μ', hv, hp, hP1⟩, hF⟩, stp⟩ | ⟨q9, st₀, t, T', L, e, ce, h0, X', hL, e1, e2, ⟨⟨μ', hx, hP1⟩, hF⟩, hce, hcv, hcl, stp⟩
  · cases hv
    obtain ⟨-, -, k3⟩ := vx_keep h0 e1 a2 (fun _ _ z => z) (fun _ z => z) hL hF
    obtain ⟨t2, b1, b2⟩ := q v μ' hp T'.heap (locs ++ L) ls (by rw [e1]; exact hP1) k3 a3 T' rfl X'
    exact ⟨t2, stp t2 b1, b2⟩
  · obtain ⟨-, -, k3⟩ := vx_keep h0 e1 a2 (fun _ _ z => z) (fun _ z => z) hL hF
    obtain ⟨t2, b1, b2⟩ := kx e μ' hx T'.heap (locs ++ L) ls q9 ce (by rw [e1]; exact hP1) k3 a3 (by rw [e1]; exact hce) hcv hcl T' rfl X'
    exact ⟨t2, stp.trans b1, b2⟩
theorem v_callV (h : Ac a B D E own cc nL rm) {C : String} {T : u_T} {N ci o m index maxL : Nat} {fs : List (Option Nat)} {y : MethodName} {bytes : ByteArray} {ret : Option FieldType} {r : Room} {As : List Value} {P : Pv}
    (hM : Ct (axL a) B D E y (.code y bytes maxL ret) r (.ref (pl B o) :: As) μ P NX) (kv : KV ci C T N y bytes maxL ret m) (sh : shapes[o]? = some (.inl (ci, fs))) (w : Cond.methodLink own index y ∈ TS) (hst : st = As.reverse ++ .ref (pl B o) :: rest) (hm : As.length = m) (hcat : (rest.map fun v => v.category).sum ≤ 8) (hR : RM rm r k n maxL) (d : decode cc pc = .ok (.invokevirtual index, 3))
    (q : ∀ (v : Option Value) (μ' : Mm), P v μ' → VV a B (SP B D E μ') (k + r.cells) (n + r.slots) (pc + 3) lv (v.toList ++ rest)) : VV a B (SP B D E μ) k n pc lv st :=
  v_callVX h hM kv sh w hst hm hcat hR d (fun _ _ z => z.elim) q
/-- .. of a method of which it is known what it returns, and that makes nothing -/
theorem v_callVi (h : Ac a B D E own cc nL rm) {C : String} {T : u_T} {N ci o m index maxL : Nat} {fs : List (Option Nat)} {y : MethodName} {bytes : ByteArray} {ret : Option FieldType} {r : Room} {As : List Value} {v : Value} {μ' : Mm}
    (hM : Ct (axL a) B D E y (.code y bytes maxL ret) r (.ref (pl B o) :: As) μ (dr (some v) μ') NX) (kv : KV ci C T N y bytes maxL ret m) (sh : shapes[o]? = some (.inl (ci, fs))) (w : Cond.methodLink own index y ∈ TS) (hst : st = As.reverse ++ .ref (pl B o) :: rest) (hm : As.length = m) (hcat : (rest.map fun v => v.category).sum ≤ 8) (hR : RM rm r k n maxL) (d : decode cc pc = .ok (.invokevirtual index, 3))
    (q : VV a B (SP B D E μ') (k + r.cells) (n + r.slots) (pc + 3) lv (v :: rest)) : VV a B (SP B D E μ) k n pc lv st :=
  v_callV h hM kv sh w hst hm hcat hR d (fun _ _ z => by obtain ⟨rfl, rfl⟩ := z; exact q)
theorem v_callVv (h : Ac a B D E own cc nL rm) {C : String} {T : u_T} {N ci o m index maxL : Nat} {fs : List (Option Nat)} {y : MethodName} {bytes : ByteArray} {ret : Option FieldType} {r : Room} {As : List Value} {μ' : Mm}
    (hM : Ct (axL a) B D E y (.code y bytes maxL ret) r (.ref (pl B o) :: As) μ (dr none μ') NX) (kv : KV ci C T N y bytes maxL ret m) (sh : shapes[o]? = some (.inl (ci, fs))) (w : Cond.methodLink own index y ∈ TS) (hst : st = As.reverse ++ .ref (pl B o) :: rest) (hm : As.length = m) (hcat : (rest.map fun v => v.category).sum ≤ 8) (hR : RM rm r k n maxL) (d : decode cc pc = .ok (.invokevirtual index, 3))
    (q : VV a B (SP B D E μ') (k + r.cells) (n + r.slots) (pc + 3) lv rest) : VV a B (SP B D E μ) k n pc lv st :=
  v_callV h hM kv sh w hst hm hcat hR d (fun _ _ z => by obtain ⟨rfl, rfl⟩ := z; exact q)
theorem v_cV (h : Ac a B D E own cc nL rm) {C : String} {T : u_T} {N ci o m index maxL : Nat} {fs : List (Option Nat)} {y : MethodName} {bytes : ByteArray} {ret : Option FieldType} {r : Room} {As : List Value} {P : Pv}
    (hM : Ct (axL a) B D E y (.code y bytes maxL ret) r (.ref (pl B o) :: As) μ P NX) (kv : KV ci C T N y bytes maxL ret m) (sh : shapes[o]? = some (.inl (ci, fs))) (w : Cond.methodLink own index y ∈ TS) (hst : st = As.reverse ++ .ref (pl B o) :: rest) (hm : As.length = m) (hcat : (rest.map fun v => v.category).sum ≤ 8) (hR : RM rm r k n maxL) (hc : r.cells = 0) (hs : r.slots = 0) (d : decode cc pc = .ok (.invokevirtual index, 3))
    (q : ∀ (v : Option Value) (μ' : Mm), P v μ' → VV a B (SP B D E μ') k n (pc + 3) lv (v.toList ++ rest)) : VV a B (SP B D E μ) k n pc lv st :=
  v_callV h hM kv sh w hst hm hcat hR d (by rw [hc, hs]; exact q)
theorem v_cVi (h : Ac a B D E own cc nL rm) {C : String} {T : u_T} {N ci o m index maxL : Nat} {fs : List (Option Nat)} {y : MethodName} {bytes : ByteArray} {ret : Option FieldType} {r : Room} {As : List Value} {v : Value} {μ' : Mm}
    (hM : Ct (axL a) B D E y (.code y bytes maxL ret) r (.ref (pl B o) :: As) μ (dr (some v) μ') NX) (kv : KV ci C T N y bytes maxL ret m) (sh : shapes[o]? = some (.inl (ci, fs))) (w : Cond.methodLink own index y ∈ TS) (hst : st = As.reverse ++ .ref (pl B o) :: rest) (hm : As.length = m) (hcat : (rest.map fun v => v.category).sum ≤ 8) (hR : RM rm r k n maxL) (hc : r.cells = 0) (hs : r.slots = 0) (d : decode cc pc = .ok (.invokevirtual index, 3))
    (q : VV a B (SP B D E μ') k n (pc + 3) lv (v :: rest)) : VV a B (SP B D E μ) k n pc lv st :=
  v_cV h hM kv sh w hst hm hcat hR hc hs d (fun _ _ z => by obtain ⟨rfl, rfl⟩ := z; exact q)
theorem v_cVv (h : Ac a B D E own cc nL rm) {C : String} {T : u_T} {N ci o m index maxL : Nat} {fs : List (Option Nat)} {y : MethodName} {bytes : ByteArray} {ret : Option FieldType} {r : Room} {As : List Value} {μ' : Mm}
    (hM : Ct (axL a) B D E y (.code y bytes maxL ret) r (.ref (pl B o) :: As) μ (dr none μ') NX) (kv : KV ci C T N y bytes maxL ret m) (sh : shapes[o]? = some (.inl (ci, fs))) (w : Cond.methodLink own index y ∈ TS) (hst : st = As.reverse ++ .ref (pl B o) :: rest) (hm : As.length = m) (hcat : (rest.map fun v => v.category).sum ≤ 8) (hR : RM rm r k n maxL) (hc : r.cells = 0) (hs : r.slots = 0) (d : decode cc pc = .ok (.invokevirtual index, 3))
    (q : VV a B (SP B D E μ') k n (pc + 3) lv rest) : VV a B (SP B D E μ) k n pc lv st :=
  v_cV h hM kv sh w hst hm hcat hR hc hs d (fun _ _ z => by obtain ⟨rfl, rfl⟩ := z; exact q)
/-- a static call within the class -/
theorem v_callS (h : Ac a B D E own cc nL rm) {m index maxL : Nat} {y : MethodName} {bytes : ByteArray} {ret : Option FieldType} {r : Room} {As : List Value} {P : Pv}
    (hM : Ct (axL a) B D E y (.code y bytes maxL ret) r As μ P NX) (kv : KS own y bytes maxL ret m) (w : Cond.methodLink own index y ∈ TS) (hst : st = As.reverse ++ rest) (hm : As.length = m) (hcat : (rest.map fun v => v.category).sum ≤ 8) (hR : RM rm r k n maxL) (d : decode cc pc = .ok (.invokestatic index, 3))
    (q : ∀ (v : Option Value) (μ' : Mm), P v μ' → VV a B (SP B D E μ') (k + r.cells) (n + r.slots) (pc + 3) lv (v.toList ++ rest)) : VV a B (SP B D E μ) k n pc lv st := by
  intro H locs ls a1 a2 a3 T0 hT X0
  have hr := h.room
  obtain ⟨⟨w1, w3, w4⟩, hd⟩ := kv
  have hG : GoodIn TS (wsS own index y (Cond.code y bytes maxL ret :: TS)) := by
    intro z hz
    have hm : z ∈ TS := by
      rcases List.mem_append.mp hz with hz | hz
      · rcases List.mem_cons.mp hz with e | hz
        · rw [e]; exact w
        · rcases List.mem_cons.mp hz with e | hz
          · rw [e]; exact w1
          · rw [List.mem_singleton.mp hz]; exact w3
      · rcases List.mem_cons.mp hz with e | hz
        · rw [e]; exact w4
        · exact hz
    exact ts_self z hm
  have hrun := vx_runS (e := axE a) (below := axB a) (meth := axF a) (R := axR a) (g := F0 (axM a) pc ls st) (rest := rest) (n := m) (cells := k) (slots := n) (locs := locs) (H := H) h.fix hM (cwS m h.hts hG rfl rfl rfl hd (by rw [hr]; exact hR.1))
    ⟨Ent.blind, fun U hU hW => ⟨rfl, h.ent a1 a2 hU hW⟩⟩ rfl hm (by rw [← h.maxl]; exact a3.1) hst (lv_room hcat) d (by rw [hr]; exact hR.2)
  rcases hrun T0 hT X0 with ⟨v, st₀, t, T', L, h0, X', hL, e1, e2, ⟨⟨v', μ', hv, hp, hP1⟩, hF⟩, stp⟩ | ⟨q9, st₀, t, T', L, e, ce, h0, X', hL, e1, e2, ⟨⟨μ', hx, hP1⟩, hF⟩, hce, hcv, hcl, stp⟩
  · cases hv
    obtain ⟨-, -, k3⟩ := vx_keep h0 e1 a2 (fun _ _ z => z) (fun _ z => z) hL hF
    obtain ⟨t2, b1, b2⟩ := q v μ' hp T'.heap (locs ++ L) ls (by rw [e1]; exact hP1) k3 a3 T' rfl X'
    exact ⟨t2, stp t2 b1, b2⟩
  · exact hx.elim
theorem v_callSi (h : Ac a B D E own cc nL rm) {m index maxL : Nat} {y : MethodName} {bytes : ByteArray} {ret : Option FieldType} {r : Room} {As : List Value} {v : Value} {μ' : Mm}
    (hM : Ct (axL a) B D E y (.code y bytes maxL ret) r As μ (dr (some v) μ') NX) (kv : KS own y bytes maxL ret m) (w : Cond.methodLink own index y ∈ TS) (hst : st = As.reverse ++ rest) (hm : As.length = m) (hcat : (rest.map fun v => v.category).sum ≤ 8) (hR : RM rm r k n maxL) (d : decode cc pc = .ok (.invokestatic index, 3))
    (q : VV a B (SP B D E μ') (k + r.cells) (n + r.slots) (pc + 3) lv (v :: rest)) : VV a B (SP B D E μ) k n pc lv st :=
  v_callS h hM kv w hst hm hcat hR d (fun _ _ z => by obtain ⟨rfl, rfl⟩ := z; exact q)
theorem v_cS (h : Ac a B D E own cc nL rm) {m index maxL : Nat} {y : MethodName} {bytes : ByteArray} {ret : Option FieldType} {r : Room} {As : List Value} {P : Pv}
    (hM : Ct (axL a) B D E y (.code y bytes maxL ret) r As μ P NX) (kv : KS own y bytes maxL ret m) (w : Cond.methodLink own index y ∈ TS) (hst : st = As.reverse ++ rest) (hm : As.length = m) (hcat : (rest.map fun v => v.category).sum ≤ 8) (hR : RM rm r k n maxL) (hc : r.cells = 0) (hs : r.slots = 0) (d : decode cc pc = .ok (.invokestatic index, 3))
    (q : ∀ (v : Option Value) (μ' : Mm), P v μ' → VV a B (SP B D E μ') k n (pc + 3) lv (v.toList ++ rest)) : VV a B (SP B D E μ) k n pc lv st :=
  v_callS h hM kv w hst hm hcat hR d (by rw [hc, hs]; exact q)
theorem v_cSi (h : Ac a B D E own cc nL rm) {m index maxL : Nat} {y : MethodName} {bytes : ByteArray} {ret : Option FieldType} {r : Room} {As : List Value} {v : Value} {μ' : Mm}
    (hM : Ct (axL a) B D E y (.code y bytes maxL ret) r As μ (dr (some v) μ') NX) (kv : KS own y bytes maxL ret m) (w : Cond.methodLink own index y ∈ TS) (hst : st = As.reverse ++ rest) (hm : As.length = m) (hcat : (rest.map fun v => v.category).sum ≤ 8) (hR : RM rm r k n maxL) (hc : r.cells = 0) (hs : r.slots = 0) (d : decode cc pc = .ok (.invokestatic index, 3))
    (q : VV a B (SP B D E μ') k n (pc + 3) lv (v :: rest)) : VV a B (SP B D E μ) k n pc lv st :=
  v_cS h hM kv w hst hm hcat hR hc hs d (fun _ _ z => by obtain ⟨rfl, rfl⟩ := z; exact q)
theorem v_max (h : Ac a B D E own cc nL rm) {index : Nat} {x y : Int} {P : Heap → Prop} (km : KM Lib.Math.max.name Lib.Math.max.code) (w : Cond.methodLink own index Lib.Math.max.name ∈ TS) (hx : InR x ∧ InR y) (hcat : (rest.map fun v => v.category).sum ≤ 8) (hf : 1 ≤ rm.frames ∧ 21 ≤ rm.locals ∧ k ≤ rm.cells ∧ n ≤ rm.slots) (d : decode cc pc = .ok (.invokestatic index, 3))
    (q : VV a B P k n (pc + 3) lv (iI (if x < y then y else x) :: rest)) : VV a B P k n pc lv (iI y :: iI x :: rest) := fun H locs ls a1 a2 a3 => by
  have hr := h.room
  refine va_mmax h.exec h.bytes a3.1.symm h.cls (h.hts _ w) (h.hts _ km.1) (h.hts _ km.2.1) (h.hts _ km.2.2) (by rw [hr]; exact hf.1) (by rw [hr]; omega) (by rw [hr]; exact hf.2.2.1) (by rw [hr]; exact hf.2.2.2) d ?_
  have e : (if Int32.ofInt x < Int32.ofInt y then Int32.ofInt y else Int32.ofInt x) = Int32.ofInt (if x < y then y else x) := by
    by_cases c : x < y
    · rw [if_pos c, if_pos ((iI_lt hx.1 hx.2).mpr c)]
    · rw [if_neg c, if_neg (fun z => c ((iI_lt hx.1 hx.2).mp z))]
  rw [e]
  exact q H locs ls a1 a2 a3
theorem v_min (h : Ac a B D E own cc nL rm) {index : Nat} {x y : Int} {P : Heap → Prop} (km : KM Lib.Math.min.name Lib.Math.min.code) (w : Cond.methodLink own index Lib.Math.min.name ∈ TS) (hx : InR x ∧ InR y) (hcat : (rest.map fun v => v.category).sum ≤ 8) (hf : 1 ≤ rm.frames ∧ 21 ≤ rm.locals ∧ k ≤ rm.cells ∧ n ≤ rm.slots) (d : decode cc pc = .ok (.invokestatic index, 3))
    (q : VV a B P k n (pc + 3) lv (iI (if y < x then y else x) :: rest)) : VV a B P k n pc lv (iI y :: iI x :: rest) := fun H locs ls a1 a2 a3 => by
  have hr := h.room
  refine va_mmin h.exec h.bytes a3.1.symm h.cls (h.hts _ w) (h.hts _ km.1) (h.hts _ km.2.1) (h.hts _ km.2.2) (by rw [hr]; exact hf.1) (by rw [hr]; omega) (by rw [hr]; exact hf.2.2.1) (by rw [hr]; exact hf.2.2.2) d ?_
  have e : (if Int32.ofInt y < Int32.ofInt x then Int32.ofInt y else Int32.ofInt x) = Int32.ofInt (if y < x then y else x) := by
    by_cases c : y < x
    · rw [if_pos c, if_pos ((iI_lt hx.2 hx.1).mpr c)]
    · rw [if_neg c, if_neg (fun z => c ((iI_lt hx.2 hx.1).mp z))]
  rw [e]
  exact q H locs ls a1 a2 a3
theorem v_throw (h : Ac a B D E own cc nL rm) {ret : Option FieldType} {P : Pv} {X : Px} {mc ms : Nat} {e : String} {names : List String} {ik ic : Nat} (r : Rt a B D E ret P X mc ms) (t : noTab a) (kt : KT own ik ic e names)
    (d0 : decode cc pc = .ok (.new ik, 3)) (d3 : decode cc (pc + 3) = .ok (.dup, 1)) (d4 : decode cc (pc + 4) = .ok (.invokespecial ic, 3)) (d7 : decode cc (pc + 7) = .ok (.athrow, 1))
    (hf : names.length + 3 < rm.frames ∧ 8 + (13 * (names.length + 1) + 42) ≤ rm.locals ∧ k + 1 ≤ rm.cells ∧ n + 6 ≤ rm.slots) (hcat : (rest.map fun v => v.category).sum ≤ 8) (hk : k + 1 ≤ mc) (hn : n + 6 ≤ ms) (x : X e μ) : VV a B (SP B D E μ) k n pc lv rest := fun H locs ls a1 a2 a3 => by
  have hr := h.room
  obtain ⟨⟨f1, f2⟩, ⟨w1, w2⟩, w3, w4, w5, w6⟩ := kt
  have hall : ∀ w ∈ vx_at0 own ic e names, w.before (axA a) (axS a) = true := by
    intro w hw
    by_cases hg : goodWord w = true
    · exact h.hts _ (w3 w (List.mem_filter.mpr ⟨hw, hg⟩))
    · rcases w4 w (List.mem_filter.mpr ⟨hw, by simpa using hg⟩) with z | z
      · rw [z]; exact va_Nw.use rfl (h.zx.2.2.1 _ w5)
      · obtain ⟨y, hy, rfl⟩ := List.mem_map.mp z
        exact va_Nw.use rfl (h.zx.2.2.2.1 y hy)
  rw [r.1]
  exact vx_throw0 (A := fun q : Nat => B ≤ q) h.exec h.bytes h.quiet h.cls f1 f2 (h.hts _ w1) (h.hts _ w2) hall w6 h.zx.1 h.zx.2.1 a2 a3.1 d0 d3 d4 d7 (fun y hy => (t y hy).elim)
    (by rw [hr]; exact hf.1) (by rw [hr]; omega) (by rw [hr]; exact hf.2.2.1) (by rw [hr]; exact hf.2.2.2) h.unlocked
    (fun t' _ z1 z2 => ⟨⟨μ, x, va_P.kept a1 (fun j q hj => z2 q.1 ((a1 j q hj).lt))⟩, ⟨Nat.le_trans a2.1 z1, fun q b1 b2 => (z2 q (Nat.lt_of_lt_of_le b1 a2.1)).trans (a2.2.1 q b1 b2)⟩⟩) a2.2.2 hk hn
end R4
end
section
/-! ===== the places of the objects ===== -/
def isSh : Nat → List Shp → Prop
  | _, [] => True
  | k, s :: t => shapes[k]? = some s ∧ isSh (k + 1) t
theorem isSh_app : ∀ {l l' : List Shp} {k : Nat}, isSh k (l ++ l') → isSh k l ∧ isSh (k + l.length) l' := by
  intro l
  induction l with
  | nil => intro l' k h; exact ⟨trivial, h⟩
  | cons s t ih =>
    intro l' k h
    have h2 := ih h.2
    exact ⟨⟨h.1, h2.1⟩, by rw [show k + (s :: t).length = k + 1 + t.length by simp; omega]; exact h2.2⟩
/-- the Row r, whose ints stand at c -/
abbrev isRw (r c n : Nat) : Prop := shapes[r]? = some (.inl (7, [some c])) ∧ shapes[c]? = some (.inr (0, n))
abbrev isRow (o n : Nat) : Prop := isRw o (o + 1) n
abbrev isLine (o : Nat) : Prop := shapes[o]? = some (.inl (3, [some (o + 1), none])) ∧ shapes[o + 1]? = some (.inr (0, 12))
def isP (g : Nat) : Prop := isSh g (shProg g)
def isC (g : Nat) : Prop := isSh g (shCourse g)
def isV (g : Nat) : Prop := isSh g (shLevels g)
def isK (g p : Nat) : Prop := isSh g (shLocks g p) ∧ isP p
def isW (w : Nat) : Prop := isSh w (shWorker w)
theorem P_hd {g : Nat} (h : isP g) : shapes[g]? = some (.inl (6, [some (g + 1), some (g + 3), some (g + 5), none, some 1, none, none])) := h.1
theorem P_lefts {g : Nat} (h : isP g) : isRow (g + 1) 12 := ⟨h.2.1, h.2.2.1⟩
theorem P_ends {g : Nat} (h : isP g) : isRow (g + 3) 12 := ⟨h.2.2.2.1, h.2.2.2.2.1⟩
theorem P_since {g : Nat} (h : isP g) : isRow (g + 5) 12 := ⟨h.2.2.2.2.2.1, h.2.2.2.2.2.2.1⟩
theorem C_hd {g : Nat} (h : isC g) : shapes[g]? = some (.inl (0, [none, some (g + 1), some 1])) := h.1
theorem C_row {g : Nat} (h : isC g) : isRow (g + 1) 2304 := ⟨h.2.1, h.2.2.1⟩
theorem V_hd {g : Nat} (h : isV g) : shapes[g]? = some (.inl (2, [some (g + 1), some (g + 3), some (g + 5)])) := h.1
theorem V_low {g : Nat} (h : isV g) : isLine (g + 1) := ⟨h.2.1, h.2.2.1⟩
theorem V_mid {g : Nat} (h : isV g) : isLine (g + 3) := ⟨h.2.2.2.1, h.2.2.2.2.1⟩
theorem V_high {g : Nat} (h : isV g) : isLine (g + 5) := ⟨h.2.2.2.2.2.1, h.2.2.2.2.2.2.1⟩
theorem K_hd {g p : Nat} (h : isK g p) : shapes[g]? = some (.inl (4, [some 1, some p, some (g + 1), some (g + 3), some (g + 5)])) := h.1.1
theorem K_prog {g p : Nat} (h : isK g p) : isP p := h.2
theorem K_hold {g p : Nat} (h : isK g p) : isRow (g + 1) 3 := ⟨h.1.2.1, h.1.2.2.1⟩
theorem K_block {g p : Nat} (h : isK g p) : isRow (g + 3) 12 := ⟨h.1.2.2.2.1, h.1.2.2.2.2.1⟩
theorem K_ranks {g p : Nat} (h : isK g p) : isRow (g + 5) 12 := ⟨h.1.2.2.2.2.2.1, h.1.2.2.2.2.2.2.1⟩
theorem W_hd {w : Nat} (h : isW w) : shapes[w]? = some (.inl (10, [some (w + 12), some (w + 19), some (w + 1), some 1, some 27, some (w + 3), some (w + 10), some (w + 22), none, none, none, none, none, none, none, none, none, none])) := h.1
theorem W_kept {w : Nat} (h : isW w) : isRow (w + 1) 12 := ⟨h.2.1, h.2.2.1⟩
theorem W_levels {w : Nat} (h : isW w) : isV (w + 3) := (isSh_app (isSh_app h.2).2).1
theorem W_r2 {w : Nat} (h : isW w) : isSh (w + 10) (shRow (w + 10) 12 ++ (shProg (w + 12) ++ (shCourse (w + 19) ++ shLocks (w + 22) (w + 12)))) := (isSh_app (isSh_app h.2).2).2
theorem W_counts {w : Nat} (h : isW w) : isRow (w + 10) 12 := ⟨(W_r2 h).1, (W_r2 h).2.1⟩
theorem W_prog {w : Nat} (h : isW w) : isP (w + 12) := (isSh_app (isSh_app (W_r2 h)).2).1
theorem W_course {w : Nat} (h : isW w) : isC (w + 19) := (isSh_app (isSh_app (isSh_app (W_r2 h)).2).2).1
theorem W_locks {w : Nat} (h : isW w) : isK (w + 22) (w + 12) := ⟨(isSh_app (isSh_app (isSh_app (W_r2 h)).2).2).2, W_prog h⟩
theorem sh0 : shapes[0]? = some (.inl (11, [some 1, some 20, some 27, some 28, some 57, some 86, some 115, none])) := rfl
theorem sh1 : shapes[1]? = some (.inl (1, [some 154, some 4, some 6, some 8, some 10, some 12, some 14, some 16, some 18, none, some 153])) := rfl
theorem sh2 : shapes[2]? = some (.inr (0, 12)) := rfl
theorem sh153 : shapes[153]? = some (.inl (7, [some 2])) := rfl
theorem sh154 : shapes[154]? = some (.inl (7, [some 3])) := rfl
theorem sh3 : shapes[3]? = some (.inr (0, 12)) := rfl
theorem sh4 : shapes[4]? = some (.inl (7, [some 5])) := rfl
theorem sh5 : shapes[5]? = some (.inr (0, 12)) := rfl
theorem sh6 : shapes[6]? = some (.inl (7, [some 7])) := rfl
theorem sh7 : shapes[7]? = some (.inr (0, 12)) := rfl
theorem sh8 : shapes[8]? = some (.inl (7, [some 9])) := rfl
theorem sh9 : shapes[9]? = some (.inr (0, 12)) := rfl
theorem sh10 : shapes[10]? = some (.inl (7, [some 11])) := rfl
theorem sh11 : shapes[11]? = some (.inr (0, 12)) := rfl
theorem sh12 : shapes[12]? = some (.inl (7, [some 13])) := rfl
theorem sh13 : shapes[13]? = some (.inr (0, 12)) := rfl
theorem sh14 : shapes[14]? = some (.inl (7, [some 15])) := rfl
theorem sh15 : shapes[15]? = some (.inr (0, 36)) := rfl
theorem sh16 : shapes[16]? = some (.inl (7, [some 17])) := rfl
theorem sh17 : shapes[17]? = some (.inr (0, 36)) := rfl
theorem sh18 : shapes[18]? = some (.inl (7, [some 19])) := rfl
theorem sh19 : shapes[19]? = some (.inr (0, 36)) := rfl
theorem sh20 : shapes[20]? = some (.inl (8, [some 21, some 23, some 25, none])) := rfl
theorem sh21 : shapes[21]? = some (.inl (7, [some 22])) := rfl
theorem sh22 : shapes[22]? = some (.inr (0, 5)) := rfl
theorem sh23 : shapes[23]? = some (.inl (7, [some 24])) := rfl
theorem sh24 : shapes[24]? = some (.inr (0, 5)) := rfl
theorem sh25 : shapes[25]? = some (.inl (7, [some 26])) := rfl
theorem sh26 : shapes[26]? = some (.inr (0, 5)) := rfl
theorem sh27 : shapes[27]? = some (.inl (9, [none, none, none, none, none])) := rfl
theorem sh115 : shapes[115]? = some (.inl (5, [some 116, some 1])) := rfl
theorem sh123 : shapes[123]? = some (.inl (12, [some 124, some 125, some 126, some 127, some 128, some 129, some 130, some 131, some 132, none, none, none, none, none, none, none, some 133, some 134, some 135, none, some 136, some 137, some 138, some 139, none, none, some 140, some 141, some 142, some 143, some 144, some 145, some 146, none, none, none, some 147, some 148, some 149, none, none, some 150, none])) := rfl
theorem sh124 : shapes[124]? = some (.inr (0, 12)) := rfl
theorem sh125 : shapes[125]? = some (.inr (0, 12)) := rfl
theorem sh126 : shapes[126]? = some (.inr (0, 12)) := rfl
theorem sh127 : shapes[127]? = some (.inr (0, 12)) := rfl
theorem sh128 : shapes[128]? = some (.inr (0, 12)) := rfl
theorem sh129 : shapes[129]? = some (.inr (0, 12)) := rfl
theorem sh130 : shapes[130]? = some (.inr (0, 36)) := rfl
theorem sh131 : shapes[131]? = some (.inr (0, 36)) := rfl
theorem sh132 : shapes[132]? = some (.inr (0, 36)) := rfl
theorem sh133 : shapes[133]? = some (.inr (0, 5)) := rfl
theorem sh134 : shapes[134]? = some (.inr (0, 5)) := rfl
theorem sh135 : shapes[135]? = some (.inr (0, 5)) := rfl
theorem sh136 : shapes[136]? = some (.inr (0, 3000)) := rfl
theorem sh137 : shapes[137]? = some (.inr (0, 12)) := rfl
theorem sh138 : shapes[138]? = some (.inr (0, 12)) := rfl
theorem sh139 : shapes[139]? = some (.inr (0, 12)) := rfl
theorem sh140 : shapes[140]? = some (.inr (0, 3000)) := rfl
theorem sh141 : shapes[141]? = some (.inr (0, 12)) := rfl
theorem sh142 : shapes[142]? = some (.inr (0, 12)) := rfl
theorem sh143 : shapes[143]? = some (.inr (0, 12)) := rfl
theorem sh144 : shapes[144]? = some (.inr (0, 12)) := rfl
theorem sh145 : shapes[145]? = some (.inr (0, 12)) := rfl
theorem sh146 : shapes[146]? = some (.inr (1, 12)) := rfl
theorem sh147 : shapes[147]? = some (.inr (0, 36)) := rfl
theorem sh148 : shapes[148]? = some (.inr (0, 3)) := rfl
theorem sh149 : shapes[149]? = some (.inr (0, 12)) := rfl
theorem sh150 : shapes[150]? = some (.inr (1, 3000)) := rfl
theorem sh151 : shapes[151]? = some (.inr (2, 1)) := rfl
theorem sh152 : shapes[152]? = some (.inr (3, 1)) := rfl
theorem jr0 : isRw 154 3 12 := ⟨sh154, sh3⟩
theorem jr9 : isRw 153 2 12 := ⟨sh153, sh2⟩
theorem jr1 : isRow 4 12 := ⟨sh4, sh5⟩
theorem jr2 : isRow 6 12 := ⟨sh6, sh7⟩
theorem jr3 : isRow 8 12 := ⟨sh8, sh9⟩
theorem jr4 : isRow 10 12 := ⟨sh10, sh11⟩
theorem jr5 : isRow 12 12 := ⟨sh12, sh13⟩
theorem jr6 : isRow 14 36 := ⟨sh14, sh15⟩
theorem jr7 : isRow 16 36 := ⟨sh16, sh17⟩
theorem jr8 : isRow 18 36 := ⟨sh18, sh19⟩
theorem tr0 : isRow 21 5 := ⟨sh21, sh22⟩
theorem tr1 : isRow 23 5 := ⟨sh23, sh24⟩
theorem tr2 : isRow 25 5 := ⟨sh25, sh26⟩
theorem W28 : isW 28 := by
  unfold isW shWorker
  simp only [shRow, shLevels, shLine, shProg, shCourse, shLocks, List.cons_append, List.nil_append, isSh]
  exact ⟨rfl, rfl, rfl, rfl, rfl, rfl, rfl, rfl, rfl, rfl, rfl, rfl, rfl, rfl, rfl, rfl, rfl, rfl, rfl, rfl, rfl, rfl, rfl, rfl, rfl, rfl, rfl, rfl, rfl, trivial⟩
theorem W57 : isW 57 := by
  unfold isW shWorker
  simp only [shRow, shLevels, shLine, shProg, shCourse, shLocks, List.cons_append, List.nil_append, isSh]
  exact ⟨rfl, rfl, rfl, rfl, rfl, rfl, rfl, rfl, rfl, rfl, rfl, rfl, rfl, rfl, rfl, rfl, rfl, rfl, rfl, rfl, rfl, rfl, rfl, rfl, rfl, rfl, rfl, rfl, rfl, trivial⟩
theorem W86 : isW 86 := by
  unfold isW shWorker
  simp only [shRow, shLevels, shLine, shProg, shCourse, shLocks, List.cons_append, List.nil_append, isSh]
  exact ⟨rfl, rfl, rfl, rfl, rfl, rfl, rfl, rfl, rfl, rfl, rfl, rfl, rfl, rfl, rfl, rfl, rfl, rfl, rfl, rfl, rfl, rfl, rfl, rfl, rfl, rfl, rfl, rfl, rfl, trivial⟩
theorem P116 : isP 116 := by
  unfold isP shProg
  simp only [shRow, List.cons_append, List.nil_append, isSh]
  exact ⟨rfl, rfl, rfl, rfl, rfl, rfl, rfl, trivial⟩
theorem narZ {z : Int} (h : z = 0 ∨ z = 1) : narrow .boolean (iI z) = iI z := by rcases h with rfl | rfl <;> rfl
theorem fitZ {z : Int} (h : z = 0 ∨ z = 1) : fits .boolean (iI z) = true := by rcases h with rfl | rfl <;> rfl
end
section
/-! ===== Row, Line, Levels ===== -/
/-- the first n places of object k hold v -/
def mfill (μ : Mm) (k n : Nat) (v : Int) : Mm := fun a b => if a = k ∧ b < n then v else μ a b
theorem mfill_0 (μ : Mm) (k : Nat) (v : Int) : mfill μ k 0 v = μ := by
  funext a b
  exact if_neg (fun z => by omega)
theorem mfill_s (μ : Mm) (k n : Nat) (v : Int) : mup (mfill μ k n v) k n v = mfill μ k (n + 1) v := by
  funext a b
  unfold mup mfill
  by_cases h : a = k ∧ b = n
  · rw [if_pos h, if_pos ⟨h.1, by omega⟩]
  · rw [if_neg h]
    by_cases h2 : a = k ∧ b < n
    · rw [if_pos h2, if_pos ⟨h2.1, by omega⟩]
    · rw [if_neg h2, if_neg (fun z => by omega)]
/-- the first s places of object k move one down -/
def mshift (μ : Mm) (k s : Nat) : Mm := fun a b => if a = k ∧ b + 1 < s then μ k (b + 1) else μ a b
theorem mshift_1 (μ : Mm) (k : Nat) : mshift μ k 1 = μ := by
  funext a b
  exact if_neg (fun z => by omega)
theorem mshift_s (μ : Mm) (k s : Nat) : mup (mshift μ k (s + 1)) k s (mshift μ k (s + 1) k (s + 1)) = mshift μ k (s + 2) := by
  funext a b
  unfold mup mshift
  by_cases h : a = k ∧ b = s
  · rw [if_pos h, if_neg (fun z => by omega), if_pos ⟨h.1, by omega⟩, h.2]
  · rw [if_neg h]
    by_cases h2 : a = k ∧ b + 1 < s + 1
    · rw [if_pos h2, if_pos ⟨h2.1, by omega⟩]
    · rw [if_neg h2, if_neg (fun z => by omega)]
section
variable {l : Launch} {B : Nat} {D : va_G} {E : Nat → ClassId} {μ : Mm}
theorem c_X7_at (hst : l.stackTraces = false) {o o1 n : Nat} (hr : isRw o o1 n) (hl : n ≤ 4000) {z : Int} (hz : 0 ≤ z ∧ z < (n : Int)) :
    Ct l B D E yX7_at (.code yX7_at cX7_at 2 (some .int)) rm_X7_at [.ref (pl B o), iI z] μ (ri (μ o1 z.toNat) μ) NX := by
  refine ct_of (own := RX7) (lv := [(0, _), (1, _)]) hst (by decide) rfl rfl (Nat.le_of_ble_eq_true rfl) fun a h r t => ?_
  refine v_iload_n (pc := 0) h (dk dt_X7_at 0 rfl) rfl ?_
  refine v_if_lt (pc := 1) h 22 (dk dt_X7_at 1 rfl) rfl (by omega) (fun c1 => ?_) (fun c1 => ?_)
  ·
    exact absurd c1 (by omega)
  ·
    refine v_iload_n (pc := 4) h (dk dt_X7_at 2 rfl) rfl ?_
    refine v_aload_n (pc := 5) h (dk dt_X7_at 3 rfl) rfl ?_
    refine v_getr (pc := 6) h ci7 hr.1 (Nat.le_of_ble_eq_true rfl) (j := 0) wF_X7_7 rfl (dk dt_X7_at 4 rfl) ?_
    refine v_alen (pc := 9) h hr.2 (dk dt_X7_at 5 rfl) ?_
    refine v_icmp_ge (pc := 10) h 22 (dk dt_X7_at 6 rfl) rfl (by omega) (fun c10 => ?_) (fun c10 => ?_)
    ·
      exact absurd c10 (by omega)
    ·
      refine v_aload_n (pc := 13) h (dk dt_X7_at 7 rfl) rfl ?_
      refine v_getr (pc := 14) h ci7 hr.1 (Nat.le_of_ble_eq_true rfl) (j := 0) wF_X7_7 rfl (dk dt_X7_at 8 rfl) ?_
      refine v_iload_n (pc := 17) h (dk dt_X7_at 9 rfl) rfl ?_
      refine v_iald (pc := 18) h hr.2 hl (by omega) (dk dt_X7_at 10 rfl) ?_
      refine v_goto (pc := 19) h 23 (dk dt_X7_at 11 rfl) rfl ?_
      exact v_iret (pc := 23) h r (dk dt_X7_at 13 rfl) (Nat.le_of_ble_eq_true rfl) (Nat.le_of_ble_eq_true rfl) ⟨rfl, rfl⟩
theorem c_X7_put (hst : l.stackTraces = false) {o o1 n : Nat} (hr : isRw o o1 n) (hl : n ≤ 4000) {z y : Int} (hz : 0 ≤ z ∧ z < (n : Int)) :
    Ct l B D E yX7_put (.code yX7_put cX7_put 3 none) rm_X7_put [.ref (pl B o), iI z, iI y] μ (rv (mup μ o1 z.toNat y)) NX := by
  refine ct_of (own := RX7) (lv := [(0, _), (1, _), (2, _)]) hst (by decide) rfl rfl (Nat.le_of_ble_eq_true rfl) fun a h r t => ?_
  refine v_iload_n (pc := 0) h (dk dt_X7_put 0 rfl) rfl ?_
  refine v_if_lt (pc := 1) h 20 (dk dt_X7_put 1 rfl) rfl (by omega) (fun c1 => ?_) (fun c1 => ?_)
  ·
    exact absurd c1 (by omega)
  ·
    refine v_iload_n (pc := 4) h (dk dt_X7_put 2 rfl) rfl ?_
    refine v_aload_n (pc := 5) h (dk dt_X7_put 3 rfl) rfl ?_
    refine v_getr (pc := 6) h ci7 hr.1 (Nat.le_of_ble_eq_true rfl) (j := 0) wF_X7_7 rfl (dk dt_X7_put 4 rfl) ?_
    refine v_alen (pc := 9) h hr.2 (dk dt_X7_put 5 rfl) ?_
    refine v_icmp_ge (pc := 10) h 20 (dk dt_X7_put 6 rfl) rfl (by omega) (fun c10 => ?_) (fun c10 => ?_)
    ·
      exact absurd c10 (by omega)
    ·
      refine v_aload_n (pc := 13) h (dk dt_X7_put 7 rfl) rfl ?_
      refine v_getr (pc := 14) h ci7 hr.1 (Nat.le_of_ble_eq_true rfl) (j := 0) wF_X7_7 rfl (dk dt_X7_put 8 rfl) ?_
      refine v_iload_n (pc := 17) h (dk dt_X7_put 9 rfl) rfl ?_
      refine v_iload_n (pc := 18) h (dk dt_X7_put 10 rfl) rfl ?_
      refine v_iast (pc := 19) h hr.2 hl (by omega) (dk dt_X7_put 11 rfl) ?_
      exact v_vret (pc := 20) h r (dk dt_X7_put 12 rfl) (Nat.le_of_ble_eq_true rfl) (Nat.le_of_ble_eq_true rfl) ⟨rfl, rfl⟩
theorem c_X7_add (hst : l.stackTraces = false) {o o1 n : Nat} (hr : isRw o o1 n) (hl : n ≤ 4000) {z y : Int} (hz : 0 ≤ z ∧ z < (n : Int)) :
    Ct l B D E yX7_add (.code yX7_add cX7_add 3 none) rm_X7_add [.ref (pl B o), iI z, iI y] μ (rv (mup μ o1 z.toNat (μ o1 z.toNat + y))) NX := by
  refine ct_of (own := RX7) (lv := [(0, _), (1, _), (2, _)]) hst (by decide) rfl rfl (Nat.le_of_ble_eq_true rfl) fun a h r t => ?_
  refine v_iload_n (pc := 0) h (dk dt_X7_add 0 rfl) rfl ?_
  refine v_if_lt (pc := 1) h 23 (dk dt_X7_add 1 rfl) rfl (by omega) (fun c1 => ?_) (fun c1 => ?_)
  ·
    exact absurd c1 (by omega)
  ·
    refine v_iload_n (pc := 4) h (dk dt_X7_add 2 rfl) rfl ?_
    refine v_aload_n (pc := 5) h (dk dt_X7_add 3 rfl) rfl ?_
    refine v_getr (pc := 6) h ci7 hr.1 (Nat.le_of_ble_eq_true rfl) (j := 0) wF_X7_7 rfl (dk dt_X7_add 4 rfl) ?_
    refine v_alen (pc := 9) h hr.2 (dk dt_X7_add 5 rfl) ?_
    refine v_icmp_ge (pc := 10) h 23 (dk dt_X7_add 6 rfl) rfl (by omega) (fun c10 => ?_) (fun c10 => ?_)
    ·
      exact absurd c10 (by omega)
    ·
      refine v_aload_n (pc := 13) h (dk dt_X7_add 7 rfl) rfl ?_
      refine v_getr (pc := 14) h ci7 hr.1 (Nat.le_of_ble_eq_true rfl) (j := 0) wF_X7_7 rfl (dk dt_X7_add 8 rfl) ?_
      refine v_iload_n (pc := 17) h (dk dt_X7_add 9 rfl) rfl ?_
      refine v_dup2 (pc := 18) h (dk dt_X7_add 10 rfl) rfl rfl ?_
      refine v_iald (pc := 19) h hr.2 hl (by omega) (dk dt_X7_add 11 rfl) ?_
      refine v_iload_n (pc := 20) h (dk dt_X7_add 12 rfl) rfl ?_
      refine v_iadd (pc := 21) h (dk dt_X7_add 13 rfl) ?_
      refine v_iast (pc := 22) h hr.2 hl (by omega) (dk dt_X7_add 14 rfl) ?_
      exact v_vret (pc := 23) h r (dk dt_X7_add 15 rfl) (Nat.le_of_ble_eq_true rfl) (Nat.le_of_ble_eq_true rfl) ⟨rfl, rfl⟩
theorem c_X7_fill (hst : l.stackTraces = false) {o o1 n : Nat} (hr : isRw o o1 n) (hl : n ≤ 4000) {v : Int} :
    Ct l B D E yX7_fill (.code yX7_fill cX7_fill 3 none) rm_X7_fill [.ref (pl B o), iI v] μ (rv (mfill μ o1 n v)) NX := by
  refine ct_of (own := RX7) (lv := [(0, _), (1, _)]) hst (by decide) rfl rfl (Nat.le_of_ble_eq_true rfl) fun a h r t => ?_
  have loop : ∀ (d i : Nat), i + d = n → VV a B (SP B D E (mfill μ o1 i v)) 0 0 2 [(2, iI (i : Int)), (0, .ref (pl B o)), (1, iI v)] [] := by
    intro d
    induction d with
    | zero =>
      intro i hi
      refine v_iload_n (pc := 2) h (dk dt_X7_fill 2 rfl) rfl ?_
      refine v_aload_n (pc := 3) h (dk dt_X7_fill 3 rfl) rfl ?_
      refine v_getr (pc := 4) h ci7 hr.1 (Nat.le_of_ble_eq_true rfl) (j := 0) wF_X7_7 rfl (dk dt_X7_fill 4 rfl) ?_
      refine v_alen (pc := 7) h hr.2 (dk dt_X7_fill 5 rfl) ?_
      refine v_icmp_ge (pc := 8) h 24 (dk dt_X7_fill 6 rfl) rfl (by omega) (fun c8 => ?_) (fun c8 => ?_)
      ·
        exact v_vret (pc := 24) h r (dk dt_X7_fill 14 rfl) (Nat.le_of_ble_eq_true rfl) (Nat.le_of_ble_eq_true rfl) ⟨rfl, by rw [show n = i by omega]⟩
      ·
        exact absurd c8 (by omega)
    | succ d ih =>
      intro i hi
      refine v_iload_n (pc := 2) h (dk dt_X7_fill 2 rfl) rfl ?_
      refine v_aload_n (pc := 3) h (dk dt_X7_fill 3 rfl) rfl ?_
      refine v_getr (pc := 4) h ci7 hr.1 (Nat.le_of_ble_eq_true rfl) (j := 0) wF_X7_7 rfl (dk dt_X7_fill 4 rfl) ?_
      refine v_alen (pc := 7) h hr.2 (dk dt_X7_fill 5 rfl) ?_
      refine v_icmp_ge (pc := 8) h 24 (dk dt_X7_fill 6 rfl) rfl (by omega) (fun c8 => ?_) (fun c8 => ?_)
      ·
        exact absurd c8 (by omega)
      ·
        refine v_aload_n (pc := 11) h (dk dt_X7_fill 7 rfl) rfl ?_
        refine v_getr (pc := 12) h ci7 hr.1 (Nat.le_of_ble_eq_true rfl) (j := 0) wF_X7_7 rfl (dk dt_X7_fill 8 rfl) ?_
        refine v_iload_n (pc := 15) h (dk dt_X7_fill 9 rfl) rfl ?_
        refine v_iload_n (pc := 16) h (dk dt_X7_fill 10 rfl) rfl ?_
        refine v_iast (pc := 17) h hr.2 hl (by omega) (dk dt_X7_fill 11 rfl) ?_
        refine v_iinc (lv' := [(2, _), (0, _), (1, _)]) (pc := 18) h (dk dt_X7_fill 12 rfl) rfl (Nat.le_of_ble_eq_true rfl) rfl ?_
        refine v_goto (pc := 21) h 2 (dk dt_X7_fill 13 rfl) rfl ?_
        rw [Int.toNat_natCast, mfill_s]
        exact VV.loc (ih (i + 1) (by omega)) ⟨rfl, rfl, rfl, trivial⟩
  refine v_iconst (pc := 0) h (dk dt_X7_fill 0 rfl) ?_
  refine v_istore_n (lv' := [(2, _), (0, _), (1, _)]) (pc := 1) h (dk dt_X7_fill 1 rfl) (Nat.le_of_ble_eq_true rfl) rfl ?_
  exact VV.of (loop n 0 (by omega)) (fun _ q => by rw [mfill_0]; exact q) ⟨rfl, rfl, rfl, trivial⟩
/-- the row of jobs that a line holds -/
def qis (μ : Mm) (k : Nat) (L : List Nat) : Prop := μ k 1 = (L.length : Int) ∧ ∀ (i j : Nat), L[i]? = some j → μ (k + 1) i = (j : Int)
theorem c_X3_empty (hst : l.stackTraces = false) {o : Nat} (hr : isLine o) :
    Ct l B D E yX3_empty (.code yX3_empty cX3_empty 1 none) rm_X3_empty [.ref (pl B o)] μ (rv (mup μ o 1 0)) NX := by
  refine ct_of (own := RX3) (lv := [(0, _)]) hst (by decide) rfl rfl (Nat.le_of_ble_eq_true rfl) fun a h r t => ?_
  refine v_aload_n (pc := 0) h (dk dt_X3_empty 0 rfl) rfl ?_
  refine v_iconst (pc := 1) h (dk dt_X3_empty 1 rfl) ?_
  refine v_put (pc := 2) h ci3 hr.1 (Nat.le_of_ble_eq_true rfl) (j := 1) wF_X3_15 rfl rfl rfl rfl (dk dt_X3_empty 2 rfl) ?_
  exact v_vret (pc := 5) h r (dk dt_X3_empty 3 rfl) (Nat.le_of_ble_eq_true rfl) (Nat.le_of_ble_eq_true rfl) ⟨rfl, rfl⟩
theorem c_X3_isEmpty (hst : l.stackTraces = false) {o : Nat} (hr : isLine o) (hs : InR (μ o 1)) :
    Ct l B D E yX3_isEmpty (.code yX3_isEmpty cX3_isEmpty 1 (some .boolean)) rm_X3_isEmpty [.ref (pl B o)] μ (ri (if μ o 1 = 0 then 1 else 0) μ) NX := by
  refine ct_of (own := RX3) (lv := [(0, _)]) hst (by decide) rfl rfl (Nat.le_of_ble_eq_true rfl) fun a h r t => ?_
  refine v_aload_n (pc := 0) h (dk dt_X3_isEmpty 0 rfl) rfl ?_
  refine v_geti (pc := 1) h ci3 hr.1 (Nat.le_of_ble_eq_true rfl) (j := 1) wF_X3_15 rfl (dk dt_X3_isEmpty 1 rfl) ?_
  refine v_if_ne (pc := 4) h 11 (dk dt_X3_isEmpty 2 rfl) rfl (by omega) (fun c4 => ?_) (fun c4 => ?_)
  ·
    refine v_iconst (pc := 11) h (dk dt_X3_isEmpty 5 rfl) ?_
    exact v_zret (pc := 12) h r (dk dt_X3_isEmpty 6 rfl) (Nat.le_of_ble_eq_true rfl) (Nat.le_of_ble_eq_true rfl) (by omega) ⟨by simp [c4], rfl⟩
  ·
    refine v_iconst (pc := 7) h (dk dt_X3_isEmpty 3 rfl) ?_
    refine v_goto (pc := 8) h 12 (dk dt_X3_isEmpty 4 rfl) rfl ?_
    exact v_zret (pc := 12) h r (dk dt_X3_isEmpty 6 rfl) (Nat.le_of_ble_eq_true rfl) (Nat.le_of_ble_eq_true rfl) (by omega) ⟨by simp [c4], rfl⟩
theorem c_X3_join (hst : l.stackTraces = false) {o : Nat} (hr : isLine o) (hs : 0 ≤ μ o 1 ∧ μ o 1 < 12) {x : Int} :
    Ct l B D E yX3_join (.code yX3_join cX3_join 2 none) rm_X3_join [.ref (pl B o), iI x] μ (rv (mup (mup μ (o + 1) (μ o 1).toNat x) o 1 (μ o 1 + 1))) NX := by
  refine ct_of (own := RX3) (lv := [(0, _), (1, _)]) hst (by decide) rfl rfl (Nat.le_of_ble_eq_true rfl) fun a h r t => ?_
  refine v_aload_n (pc := 0) h (dk dt_X3_join 0 rfl) rfl ?_
  refine v_geti (pc := 1) h ci3 hr.1 (Nat.le_of_ble_eq_true rfl) (j := 1) wF_X3_15 rfl (dk dt_X3_join 1 rfl) ?_
  refine v_if_lt (pc := 4) h 39 (dk dt_X3_join 2 rfl) rfl (by omega) (fun c4 => ?_) (fun c4 => ?_)
  ·
    exact absurd c4 (by omega)
  ·
    refine v_aload_n (pc := 7) h (dk dt_X3_join 3 rfl) rfl ?_
    refine v_geti (pc := 8) h ci3 hr.1 (Nat.le_of_ble_eq_true rfl) (j := 1) wF_X3_15 rfl (dk dt_X3_join 4 rfl) ?_
    refine v_aload_n (pc := 11) h (dk dt_X3_join 5 rfl) rfl ?_
    refine v_getr (pc := 12) h ci3 hr.1 (Nat.le_of_ble_eq_true rfl) (j := 0) wF_X3_9 rfl (dk dt_X3_join 6 rfl) ?_
    refine v_alen (pc := 15) h hr.2 (dk dt_X3_join 7 rfl) ?_
    refine v_icmp_ge (pc := 16) h 39 (dk dt_X3_join 8 rfl) rfl (by omega) (fun c16 => ?_) (fun c16 => ?_)
    ·
      exact absurd c16 (by omega)
    ·
      refine v_aload_n (pc := 19) h (dk dt_X3_join 9 rfl) rfl ?_
      refine v_getr (pc := 20) h ci3 hr.1 (Nat.le_of_ble_eq_true rfl) (j := 0) wF_X3_9 rfl (dk dt_X3_join 10 rfl) ?_
      refine v_aload_n (pc := 23) h (dk dt_X3_join 11 rfl) rfl ?_
      refine v_geti (pc := 24) h ci3 hr.1 (Nat.le_of_ble_eq_true rfl) (j := 1) wF_X3_15 rfl (dk dt_X3_join 12 rfl) ?_
      refine v_iload_n (pc := 27) h (dk dt_X3_join 13 rfl) rfl ?_
      refine v_iast (pc := 28) h hr.2 (Nat.le_of_ble_eq_true rfl) (by omega) (dk dt_X3_join 14 rfl) ?_
      refine v_aload_n (pc := 29) h (dk dt_X3_join 15 rfl) rfl ?_
      refine v_dup (pc := 30) h (dk dt_X3_join 16 rfl) rfl ?_
      refine v_geti (pc := 31) h ci3 hr.1 (Nat.le_of_ble_eq_true rfl) (j := 1) wF_X3_15 rfl (dk dt_X3_join 17 rfl) ?_
      refine v_iconst (pc := 34) h (dk dt_X3_join 18 rfl) ?_
      refine v_iadd (pc := 35) h (dk dt_X3_join 19 rfl) ?_
      refine v_put (pc := 36) h ci3 hr.1 (Nat.le_of_ble_eq_true rfl) (j := 1) wF_X3_15 rfl rfl rfl rfl (dk dt_X3_join 20 rfl) ?_
      exact v_vret (pc := 39) h r (dk dt_X3_join 21 rfl) (Nat.le_of_ble_eq_true rfl) (Nat.le_of_ble_eq_true rfl) ⟨rfl, by rw [mup_nk (a := o) (by omega)]⟩
/-- the first one taken out -/
def mtake (μ : Mm) (o : Nat) : Mm := mup (mshift μ (o + 1) (μ o 1).toNat) o 1 (μ o 1 - 1)
theorem c_X3_takeFirst (hst : l.stackTraces = false) {o : Nat} (hr : isLine o) (hs : 0 ≤ μ o 1 ∧ μ o 1 ≤ 12) :
    Ct l B D E yX3_takeFirst (.code yX3_takeFirst cX3_takeFirst 3 (some .int)) rm_X3_takeFirst [.ref (pl B o)] μ (fun v m => if μ o 1 = 0 then v = some (iI (-1)) ∧ m = μ else v = some (iI (μ (o + 1) 0)) ∧ m = mtake μ o) NX := by
  refine ct_of (own := RX3) (lv := [(0, _)]) hst (by decide) rfl rfl (Nat.le_of_ble_eq_true rfl) fun a h r t => ?_
  have e0 : ∀ k, mshift μ (o + 1) k o 1 = μ o 1 := fun k => if_neg (fun z => by omega)
  have loop : ∀ (d i : Nat), (i : Int) + d = μ o 1 → 1 ≤ i → VV a B (SP B D E (mshift μ (o + 1) i)) 0 0 18 [(2, iI (i : Int)), (1, iI (μ (o + 1) 0)), (0, .ref (pl B o))] [] := by
    intro d
    induction d with
    | zero =>
      intro i hi h1
      refine v_iload_n (pc := 18) h (dk dt_X3_takeFirst 12 rfl) rfl ?_
      refine v_aload_n (pc := 19) h (dk dt_X3_takeFirst 13 rfl) rfl ?_
      refine v_geti (pc := 20) h ci3 hr.1 (Nat.le_of_ble_eq_true rfl) (j := 1) wF_X3_15 rfl (dk dt_X3_takeFirst 14 rfl) ?_
      refine v_icmp_ge (pc := 23) h 55 (dk dt_X3_takeFirst 15 rfl) rfl (by rw [e0]; omega) (fun c23 => ?_) (fun c23 => ?_)
      ·
        refine v_aload_n (pc := 55) h (dk dt_X3_takeFirst 33 rfl) rfl ?_
        refine v_dup (pc := 56) h (dk dt_X3_takeFirst 34 rfl) rfl ?_
        refine v_geti (pc := 57) h ci3 hr.1 (Nat.le_of_ble_eq_true rfl) (j := 1) wF_X3_15 rfl (dk dt_X3_takeFirst 35 rfl) ?_
        refine v_iconst (pc := 60) h (dk dt_X3_takeFirst 36 rfl) ?_
        refine v_isub (pc := 61) h (dk dt_X3_takeFirst 37 rfl) ?_
        refine v_put (pc := 62) h ci3 hr.1 (Nat.le_of_ble_eq_true rfl) (j := 1) wF_X3_15 rfl rfl rfl rfl (dk dt_X3_takeFirst 38 rfl) ?_
        refine v_iload_n (pc := 65) h (dk dt_X3_takeFirst 39 rfl) rfl ?_
        exact v_iret (pc := 66) h r (dk dt_X3_takeFirst 40 rfl) (Nat.le_of_ble_eq_true rfl) (Nat.le_of_ble_eq_true rfl) (by rw [if_neg (by omega)]; exact ⟨rfl, by unfold mtake; rw [e0, show (μ o 1).toNat = i by omega]⟩)
      ·
        exact absurd c23 (by rw [e0]; omega)
    | succ d ih =>
      intro i hi h1
      refine v_iload_n (pc := 18) h (dk dt_X3_takeFirst 12 rfl) rfl ?_
      refine v_aload_n (pc := 19) h (dk dt_X3_takeFirst 13 rfl) rfl ?_
      refine v_geti (pc := 20) h ci3 hr.1 (Nat.le_of_ble_eq_true rfl) (j := 1) wF_X3_15 rfl (dk dt_X3_takeFirst 14 rfl) ?_
      refine v_icmp_ge (pc := 23) h 55 (dk dt_X3_takeFirst 15 rfl) rfl (by rw [e0]; omega) (fun c23 => ?_) (fun c23 => ?_)
      ·
        exact absurd c23 (by rw [e0]; omega)
      ·
        refine v_iload_n (pc := 26) h (dk dt_X3_takeFirst 16 rfl) rfl ?_
        refine v_aload_n (pc := 27) h (dk dt_X3_takeFirst 17 rfl) rfl ?_
        refine v_getr (pc := 28) h ci3 hr.1 (Nat.le_of_ble_eq_true rfl) (j := 0) wF_X3_9 rfl (dk dt_X3_takeFirst 18 rfl) ?_
        refine v_alen (pc := 31) h hr.2 (dk dt_X3_takeFirst 19 rfl) ?_
        refine v_icmp_ge (pc := 32) h 55 (dk dt_X3_takeFirst 20 rfl) rfl (by omega) (fun c32 => ?_) (fun c32 => ?_)
        ·
          exact absurd c32 (by omega)
        ·
          refine v_aload_n (pc := 35) h (dk dt_X3_takeFirst 21 rfl) rfl ?_
          refine v_getr (pc := 36) h ci3 hr.1 (Nat.le_of_ble_eq_true rfl) (j := 0) wF_X3_9 rfl (dk dt_X3_takeFirst 22 rfl) ?_
          refine v_iload_n (pc := 39) h (dk dt_X3_takeFirst 23 rfl) rfl ?_
          refine v_iconst (pc := 40) h (dk dt_X3_takeFirst 24 rfl) ?_
          refine v_isub (pc := 41) h (dk dt_X3_takeFirst 25 rfl) ?_
          refine v_aload_n (pc := 42) h (dk dt_X3_takeFirst 26 rfl) rfl ?_
          refine v_getr (pc := 43) h ci3 hr.1 (Nat.le_of_ble_eq_true rfl) (j := 0) wF_X3_9 rfl (dk dt_X3_takeFirst 27 rfl) ?_
          refine v_iload_n (pc := 46) h (dk dt_X3_takeFirst 28 rfl) rfl ?_
          refine v_iald (pc := 47) h hr.2 (Nat.le_of_ble_eq_true rfl) (by omega) (dk dt_X3_takeFirst 29 rfl) ?_
          refine v_iast (pc := 48) h hr.2 (Nat.le_of_ble_eq_true rfl) (by omega) (dk dt_X3_takeFirst 30 rfl) ?_
          refine v_iinc (lv' := [(2, _), (1, _), (0, _)]) (pc := 49) h (dk dt_X3_takeFirst 31 rfl) rfl (Nat.le_of_ble_eq_true rfl) rfl ?_
          refine v_goto (pc := 52) h 18 (dk dt_X3_takeFirst 32 rfl) rfl ?_
          obtain ⟨j, rfl⟩ : ∃ j, i = j + 1 := ⟨i - 1, by omega⟩
          rw [show (((j + 1 : Nat) : Int) - 1).toNat = j by omega, Int.toNat_natCast, mshift_s]
          exact VV.loc (ih (j + 2) (by omega) (by omega)) ⟨rfl, rfl, rfl, trivial⟩
  refine v_aload_n (pc := 0) h (dk dt_X3_takeFirst 0 rfl) rfl ?_
  refine v_geti (pc := 1) h ci3 hr.1 (Nat.le_of_ble_eq_true rfl) (j := 1) wF_X3_15 rfl (dk dt_X3_takeFirst 1 rfl) ?_
  refine v_if_gt (pc := 4) h 9 (dk dt_X3_takeFirst 2 rfl) rfl (by omega) (fun c4 => ?_) (fun c4 => ?_)
  ·
    refine v_aload_n (pc := 9) h (dk dt_X3_takeFirst 5 rfl) rfl ?_
    refine v_getr (pc := 10) h ci3 hr.1 (Nat.le_of_ble_eq_true rfl) (j := 0) wF_X3_9 rfl (dk dt_X3_takeFirst 6 rfl) ?_
    refine v_iconst (pc := 13) h (dk dt_X3_takeFirst 7 rfl) ?_
    refine v_iald (pc := 14) h hr.2 (Nat.le_of_ble_eq_true rfl) (by omega) (dk dt_X3_takeFirst 8 rfl) ?_
    refine v_istore_n (lv' := [(1, _), (0, _)]) (pc := 15) h (dk dt_X3_takeFirst 9 rfl) (Nat.le_of_ble_eq_true rfl) rfl ?_
    refine v_iconst (pc := 16) h (dk dt_X3_takeFirst 10 rfl) ?_
    refine v_istore_n (lv' := [(2, _), (1, _), (0, _)]) (pc := 17) h (dk dt_X3_takeFirst 11 rfl) (Nat.le_of_ble_eq_true rfl) rfl ?_
    exact VV.of (loop ((μ o 1).toNat - 1) 1 (by omega) (by omega)) (fun _ q => by rw [mshift_1]; exact q) ⟨rfl, rfl, rfl, trivial⟩
  ·
    refine v_iconst (pc := 7) h (dk dt_X3_takeFirst 3 rfl) ?_
    exact v_iret (pc := 8) h r (dk dt_X3_takeFirst 4 rfl) (Nat.le_of_ble_eq_true rfl) (Nat.le_of_ble_eq_true rfl) (by rw [if_pos (by omega)]; exact ⟨rfl, rfl⟩)
/-- i jobs of the line o join the line k -/
def mjoins (μ : Mm) (o k : Nat) : Nat → Mm
  | 0 => μ
  | i + 1 => mup (mup (mjoins μ o k i) (k + 1) (mjoins μ o k i k 1).toNat (μ (o + 1) i)) k 1 (mjoins μ o k i k 1 + 1)
theorem mjoins_size {o k : Nat} (i : Nat) : mjoins μ o k i k 1 = μ k 1 + i := by
  induction i with
  | zero => simp [mjoins]
  | succ i ih =>
    show mup _ k 1 _ k 1 = _
    rw [mup_eq, ih]
    omega
theorem mjoins_other {o k a b : Nat} (h1 : a ≠ k) (h2 : a ≠ k + 1) (i : Nat) : mjoins μ o k i a b = μ a b := by
  induction i with
  | zero => rfl
  | succ i ih =>
    show mup _ k 1 _ a b = _
    rw [mup_nk h1, mup_nk h2, ih]
theorem c_X3_moveTo (hst : l.stackTraces = false) {o k : Nat} (hr : isLine o) (hk : isLine k) (hne : o ≠ k ∧ o ≠ k + 1 ∧ o + 1 ≠ k) (hs : 0 ≤ μ o 1 ∧ 0 ≤ μ k 1 ∧ μ o 1 + μ k 1 ≤ 12) :
    Ct l B D E yX3_moveTo (.code yX3_moveTo cX3_moveTo 3 none) rm_X3_moveTo [.ref (pl B o), .ref (pl B k)] μ (rv (mup (mjoins μ o k (μ o 1).toNat) o 1 0)) NX := by
  refine ct_of (own := RX3) (lv := [(0, _), (1, _)]) hst (by decide) rfl rfl (Nat.le_of_ble_eq_true rfl) fun a h r t => ?_
  have e0 : ∀ i, mjoins μ o k i o 1 = μ o 1 := fun i => mjoins_other hne.1 hne.2.1 i
  have e1 : ∀ i j, mjoins μ o k i (o + 1) j = μ (o + 1) j := fun i j => mjoins_other hne.2.2 (by omega) i
  have e2 : ∀ i : Nat, mjoins μ o k i k 1 = μ k 1 + i := fun i => mjoins_size i
  have loop : ∀ (d i : Nat), (i : Int) + d = μ o 1 → VV a B (SP B D E (mjoins μ o k i)) 0 0 2 [(2, iI (i : Int)), (0, .ref (pl B o)), (1, .ref (pl B k))] [] := by
    intro d
    induction d with
    | zero =>
      intro i hi
      refine v_iload_n (pc := 2) h (dk dt_X3_moveTo 2 rfl) rfl ?_
      refine v_aload_n (pc := 3) h (dk dt_X3_moveTo 3 rfl) rfl ?_
      refine v_geti (pc := 4) h ci3 hr.1 (Nat.le_of_ble_eq_true rfl) (j := 1) wF_X3_15 rfl (dk dt_X3_moveTo 4 rfl) ?_
      refine v_icmp_ge (pc := 7) h 35 (dk dt_X3_moveTo 5 rfl) rfl (by rw [e0]; omega) (fun c7 => ?_) (fun c7 => ?_)
      ·
        refine v_aload_n (pc := 35) h (dk dt_X3_moveTo 19 rfl) rfl ?_
        refine v_iconst (pc := 36) h (dk dt_X3_moveTo 20 rfl) ?_
        refine v_put (pc := 37) h ci3 hr.1 (Nat.le_of_ble_eq_true rfl) (j := 1) wF_X3_15 rfl rfl rfl rfl (dk dt_X3_moveTo 21 rfl) ?_
        exact v_vret (pc := 40) h r (dk dt_X3_moveTo 22 rfl) (Nat.le_of_ble_eq_true rfl) (Nat.le_of_ble_eq_true rfl) ⟨rfl, by rw [show (μ o 1).toNat = i by omega]⟩
      ·
        exact absurd c7 (by rw [e0]; omega)
    | succ d ih =>
      intro i hi
      refine v_iload_n (pc := 2) h (dk dt_X3_moveTo 2 rfl) rfl ?_
      refine v_aload_n (pc := 3) h (dk dt_X3_moveTo 3 rfl) rfl ?_
      refine v_geti (pc := 4) h ci3 hr.1 (Nat.le_of_ble_eq_true rfl) (j := 1) wF_X3_15 rfl (dk dt_X3_moveTo 4 rfl) ?_
      refine v_icmp_ge (pc := 7) h 35 (dk dt_X3_moveTo 5 rfl) rfl (by rw [e0]; omega) (fun c7 => ?_) (fun c7 => ?_)
      ·
        exact absurd c7 (by rw [e0]; omega)
      ·
        refine v_iload_n (pc := 10) h (dk dt_X3_moveTo 6 rfl) rfl ?_
        refine v_aload_n (pc := 11) h (dk dt_X3_moveTo 7 rfl) rfl ?_
        refine v_getr (pc := 12) h ci3 hr.1 (Nat.le_of_ble_eq_true rfl) (j := 0) wF_X3_9 rfl (dk dt_X3_moveTo 8 rfl) ?_
        refine v_alen (pc := 15) h hr.2 (dk dt_X3_moveTo 9 rfl) ?_
        refine v_icmp_ge (pc := 16) h 35 (dk dt_X3_moveTo 10 rfl) rfl (by omega) (fun c16 => ?_) (fun c16 => ?_)
        ·
          exact absurd c16 (by omega)
        ·
          refine v_aload_n (pc := 19) h (dk dt_X3_moveTo 11 rfl) rfl ?_
          refine v_aload_n (pc := 20) h (dk dt_X3_moveTo 12 rfl) rfl ?_
          refine v_getr (pc := 21) h ci3 hr.1 (Nat.le_of_ble_eq_true rfl) (j := 0) wF_X3_9 rfl (dk dt_X3_moveTo 13 rfl) ?_
          refine v_iload_n (pc := 24) h (dk dt_X3_moveTo 14 rfl) rfl ?_
          refine v_iald (pc := 25) h hr.2 (Nat.le_of_ble_eq_true rfl) (by omega) (dk dt_X3_moveTo 15 rfl) ?_
          refine v_cVv (pc := 26) h (c_X3_join h.quiet hk (by rw [e2]; omega)) kv_X3_join hk.1 wM_X3_19 rfl rfl (Nat.le_of_ble_eq_true rfl) (RM.of rfl) rfl rfl (dk dt_X3_moveTo 16 rfl) ?_
          refine v_iinc (lv' := [(2, _), (0, _), (1, _)]) (pc := 29) h (dk dt_X3_moveTo 17 rfl) rfl (Nat.le_of_ble_eq_true rfl) rfl ?_
          refine v_goto (pc := 32) h 2 (dk dt_X3_moveTo 18 rfl) rfl ?_
          rw [e1, Int.toNat_natCast]
          exact VV.loc (ih (i + 1) (by omega)) ⟨rfl, rfl, rfl, trivial⟩
  refine v_iconst (pc := 0) h (dk dt_X3_moveTo 0 rfl) ?_
  refine v_istore_n (lv' := [(2, _), (0, _), (1, _)]) (pc := 1) h (dk dt_X3_moveTo 1 rfl) (Nat.le_of_ble_eq_true rfl) rfl ?_
  exact VV.loc (loop (μ o 1).toNat 0 (by omega)) ⟨rfl, rfl, rfl, trivial⟩
theorem c_X2_empty (hst : l.stackTraces = false) {o : Nat} (hr : isV o) :
    Ct l B D E yX2_empty (.code yX2_empty cX2_empty 1 none) rm_X2_empty [.ref (pl B o)] μ (rv (mup (mup (mup μ (o + 1) 1 0) (o + 3) 1 0) (o + 5) 1 0)) NX := by
  refine ct_of (own := RX2) (lv := [(0, _)]) hst (by decide) rfl rfl (Nat.le_of_ble_eq_true rfl) fun a h r t => ?_
  refine v_aload_n (pc := 0) h (dk dt_X2_empty 0 rfl) rfl ?_
  refine v_getr (pc := 1) h ci2 (V_hd hr) (Nat.le_of_ble_eq_true rfl) (j := 0) wF_X2_10 rfl (dk dt_X2_empty 1 rfl) ?_
  refine v_cVv (pc := 4) h (c_X3_empty h.quiet (V_low hr)) kv_X3_empty (V_low hr).1 wM_X2_22 rfl rfl (Nat.le_of_ble_eq_true rfl) (RM.of rfl) rfl rfl (dk dt_X2_empty 2 rfl) ?_
  refine v_aload_n (pc := 7) h (dk dt_X2_empty 3 rfl) rfl ?_
  refine v_getr (pc := 8) h ci2 (V_hd hr) (Nat.le_of_ble_eq_true rfl) (j := 1) wF_X2_16 rfl (dk dt_X2_empty 4 rfl) ?_
  refine v_cVv (pc := 11) h (c_X3_empty h.quiet (V_mid hr)) kv_X3_empty (V_mid hr).1 wM_X2_22 rfl rfl (Nat.le_of_ble_eq_true rfl) (RM.of rfl) rfl rfl (dk dt_X2_empty 5 rfl) ?_
  refine v_aload_n (pc := 14) h (dk dt_X2_empty 6 rfl) rfl ?_
  refine v_getr (pc := 15) h ci2 (V_hd hr) (Nat.le_of_ble_eq_true rfl) (j := 2) wF_X2_19 rfl (dk dt_X2_empty 7 rfl) ?_
  refine v_cVv (pc := 18) h (c_X3_empty h.quiet (V_high hr)) kv_X3_empty (V_high hr).1 wM_X2_22 rfl rfl (Nat.le_of_ble_eq_true rfl) (RM.of rfl) rfl rfl (dk dt_X2_empty 8 rfl) ?_
  exact v_vret (pc := 21) h r (dk dt_X2_empty 9 rfl) (Nat.le_of_ble_eq_true rfl) (Nat.le_of_ble_eq_true rfl) ⟨rfl, rfl⟩
def lineAt (o : Nat) (z : Int) : Nat := if z ≤ 0 then o + 1 else if z = 1 then o + 3 else o + 5
theorem lineAt_is {o : Nat} (hr : isV o) (z : Int) : isLine (lineAt o z) := by
  unfold lineAt
  split
  · exact V_low hr
  · split
    · exact V_mid hr
    · exact V_high hr
theorem c_X2_lineOf (hst : l.stackTraces = false) {o : Nat} (hr : isV o) {z : Int} (hz : InR z) :
    Ct l B D E yX2_lineOf (.code yX2_lineOf cX2_lineOf 2 (some (.object "Slicehouse$Line"))) rm_X2_lineOf [.ref (pl B o), iI z] μ (dr (some (.ref (pl B (lineAt o z)))) μ) NX := by
  refine ct_of (own := RX2) (lv := [(0, _), (1, _)]) hst (by decide) rfl rfl (Nat.le_of_ble_eq_true rfl) fun a h r t => ?_
  refine v_iload_n (pc := 0) h (dk dt_X2_lineOf 0 rfl) rfl ?_
  refine v_if_gt (pc := 1) h 11 (dk dt_X2_lineOf 1 rfl) rfl (by omega) (fun c1 => ?_) (fun c1 => ?_)
  ·
    have d1 : ¬ z ≤ 0 := by omega
    refine v_iload_n (pc := 11) h (dk dt_X2_lineOf 5 rfl) rfl ?_
    refine v_iconst (pc := 12) h (dk dt_X2_lineOf 6 rfl) ?_
    refine v_icmp_ne (pc := 13) h 23 (dk dt_X2_lineOf 7 rfl) rfl (by omega) (fun c13 => ?_) (fun c13 => ?_)
    ·
      refine v_aload_n (pc := 23) h (dk dt_X2_lineOf 11 rfl) rfl ?_
      refine v_getr (pc := 24) h ci2 (V_hd hr) (Nat.le_of_ble_eq_true rfl) (j := 2) wF_X2_19 rfl (dk dt_X2_lineOf 12 rfl) ?_
      exact v_aret (pc := 27) h r (dk dt_X2_lineOf 13 rfl) (Nat.le_of_ble_eq_true rfl) (Nat.le_of_ble_eq_true rfl) ⟨by simp [lineAt, d1, c13], rfl⟩
    ·
      refine v_aload_n (pc := 16) h (dk dt_X2_lineOf 8 rfl) rfl ?_
      refine v_getr (pc := 17) h ci2 (V_hd hr) (Nat.le_of_ble_eq_true rfl) (j := 1) wF_X2_16 rfl (dk dt_X2_lineOf 9 rfl) ?_
      refine v_goto (pc := 20) h 27 (dk dt_X2_lineOf 10 rfl) rfl ?_
      exact v_aret (pc := 27) h r (dk dt_X2_lineOf 13 rfl) (Nat.le_of_ble_eq_true rfl) (Nat.le_of_ble_eq_true rfl) ⟨by simp [lineAt, d1, c13], rfl⟩
  ·
    have d1 : z ≤ 0 := by omega
    have c13 : True := trivial
    refine v_aload_n (pc := 4) h (dk dt_X2_lineOf 2 rfl) rfl ?_
    refine v_getr (pc := 5) h ci2 (V_hd hr) (Nat.le_of_ble_eq_true rfl) (j := 0) wF_X2_10 rfl (dk dt_X2_lineOf 3 rfl) ?_
    refine v_goto (pc := 8) h 27 (dk dt_X2_lineOf 4 rfl) rfl ?_
    exact v_aret (pc := 27) h r (dk dt_X2_lineOf 13 rfl) (Nat.le_of_ble_eq_true rfl) (Nat.le_of_ble_eq_true rfl) ⟨by simp [lineAt, d1, c13], rfl⟩
theorem c_X2_lowest (hst : l.stackTraces = false) {o : Nat} (hr : isV o) (h1 : InR (μ (o + 1) 1)) (h2 : InR (μ (o + 3) 1)) :
    Ct l B D E yX2_lowest (.code yX2_lowest cX2_lowest 1 (some .int)) rm_X2_lowest [.ref (pl B o)] μ (ri (if μ (o + 1) 1 = 0 then if μ (o + 3) 1 = 0 then 2 else 1 else 0) μ) NX := by
  refine ct_of (own := RX2) (lv := [(0, _)]) hst (by decide) rfl rfl (Nat.le_of_ble_eq_true rfl) fun a h r t => ?_
  refine v_aload_n (pc := 0) h (dk dt_X2_lowest 0 rfl) rfl ?_
  refine v_getr (pc := 1) h ci2 (V_hd hr) (Nat.le_of_ble_eq_true rfl) (j := 0) wF_X2_10 rfl (dk dt_X2_lowest 1 rfl) ?_
  refine v_cVi (pc := 4) h (c_X3_isEmpty h.quiet (V_low hr) (by omega)) kv_X3_isEmpty (V_low hr).1 wM_X2_29 rfl rfl (Nat.le_of_ble_eq_true rfl) (RM.of rfl) rfl rfl (dk dt_X2_lowest 2 rfl) ?_
  refine v_if_ne (pc := 7) h 14 (dk dt_X2_lowest 3 rfl) rfl (by split <;> omega) (fun c7 => ?_) (fun c7 => ?_)
  ·
    have d7 : μ (o + 1) 1 = 0 := by split at c7 <;> first | assumption | omega
    refine v_aload_n (pc := 14) h (dk dt_X2_lowest 6 rfl) rfl ?_
    refine v_getr (pc := 15) h ci2 (V_hd hr) (Nat.le_of_ble_eq_true rfl) (j := 1) wF_X2_16 rfl (dk dt_X2_lowest 7 rfl) ?_
    refine v_cVi (pc := 18) h (c_X3_isEmpty h.quiet (V_mid hr) (by omega)) kv_X3_isEmpty (V_mid hr).1 wM_X2_29 rfl rfl (Nat.le_of_ble_eq_true rfl) (RM.of rfl) rfl rfl (dk dt_X2_lowest 8 rfl) ?_
    refine v_if_ne (pc := 21) h 28 (dk dt_X2_lowest 9 rfl) rfl (by split <;> omega) (fun c21 => ?_) (fun c21 => ?_)
    ·
      have d21 : μ (o + 3) 1 = 0 := by split at c21 <;> first | assumption | omega
      refine v_iconst (pc := 28) h (dk dt_X2_lowest 12 rfl) ?_
      exact v_iret (pc := 29) h r (dk dt_X2_lowest 13 rfl) (Nat.le_of_ble_eq_true rfl) (Nat.le_of_ble_eq_true rfl) ⟨by simp [d7, d21], rfl⟩
    ·
      have d21 : ¬ μ (o + 3) 1 = 0 := by split at c21 <;> first | assumption | omega
      refine v_iconst (pc := 24) h (dk dt_X2_lowest 10 rfl) ?_
      refine v_goto (pc := 25) h 29 (dk dt_X2_lowest 11 rfl) rfl ?_
      exact v_iret (pc := 29) h r (dk dt_X2_lowest 13 rfl) (Nat.le_of_ble_eq_true rfl) (Nat.le_of_ble_eq_true rfl) ⟨by simp [d7, d21], rfl⟩
  ·
    have d7 : ¬ μ (o + 1) 1 = 0 := by split at c7 <;> first | assumption | omega
    have d21 : True := trivial
    refine v_iconst (pc := 10) h (dk dt_X2_lowest 4 rfl) ?_
    refine v_goto (pc := 11) h 29 (dk dt_X2_lowest 5 rfl) rfl ?_
    exact v_iret (pc := 29) h r (dk dt_X2_lowest 13 rfl) (Nat.le_of_ble_eq_true rfl) (Nat.le_of_ble_eq_true rfl) ⟨by simp [d7, d21], rfl⟩
end
end
section
/-! ===== Course ===== -/
def cntJ (g : Nat → Int) (j : Int) : Nat → Int
  | 0 => 0
  | n + 1 => cntJ g j n + if g n = j then 1 else 0
def cntW (g : Nat → Int) : Nat → Int
  | 0 => 0
  | n + 1 => cntW g n + if 0 ≤ g n then 1 else 0
abbrev bgn (g : Nat → Int) (t : Nat) : Prop := g t ≠ -1 ∧ (t = 0 ∨ g (t - 1) = -1)
def cntB (g : Nat → Int) : Nat → Int
  | 0 => 0
  | n + 1 => cntB g n + if bgn g n then 1 else 0
def fstW (g : Nat → Int) (j : Int) : Nat → Nat → Nat
  | 0, t => t
  | d + 1, t => if g t = j then t else fstW g j d (t + 1)
def gapJ (g : Nat → Int) (j : Int) : Nat → Nat → Int → Int → Int
  | 0, _, _, m => m
  | d + 1, t, s, m => if g t = j then gapJ g j d (t + 1) (t + 1) (if m < t - s then t - s else m) else gapJ g j d (t + 1) s m
def bBeg (g : Nat → Int) (x : Int) : Nat → Nat → Int → Int
  | 0, _, _ => -1
  | d + 1, t, e => if x < e then -1 else if bgn g t then (if e = x then (t : Int) else bBeg g x d (t + 1) (e + 1)) else bBeg g x d (t + 1) e
def bEnd (g : Nat → Int) : Nat → Nat → Nat
  | 0, t => t
  | d + 1, t => if g t = -1 then t else bEnd g d (t + 1)
def doF (g : Nat → Int) (T z : Int) : Int := if 0 ≤ z ∧ z < T then g z.toNat else -1
def asB (f f' : Nat → Int) : Nat → Nat → Int → Int
  | 0, _, m => if m = 0 then 1 else 0
  | d + 1, t, m => if m ≠ 0 ∨ ¬ (f t = -1 ↔ f' t = -1) then 0 else asB f f' d (t + 1) (m + ((if 0 ≤ f t then 1 else 0) - (if 0 ≤ f' t then 1 else 0)))
theorem cntJ_b (g : Nat → Int) (j : Int) (n : Nat) : 0 ≤ cntJ g j n ∧ cntJ g j n ≤ n := by
  induction n with
  | zero => simp [cntJ]
  | succ n ih => simp only [cntJ]; split <;> omega
theorem cntW_b (g : Nat → Int) (n : Nat) : 0 ≤ cntW g n ∧ cntW g n ≤ n := by
  induction n with
  | zero => simp [cntW]
  | succ n ih => simp only [cntW]; split <;> omega
theorem cntB_b (g : Nat → Int) (n : Nat) : 0 ≤ cntB g n ∧ cntB g n ≤ n := by
  induction n with
  | zero => simp [cntB]
  | succ n ih => simp only [cntB]; split <;> omega
theorem lvI {x y : Int} (h : x = y) : some (iI x) = some (iI y) := by rw [h]
/-- the course at o is in order -/
def okC (μ : Mm) (o : Nat) : Prop := (0 ≤ μ o 0 ∧ μ o 0 ≤ 2304) ∧ ∀ t : Nat, (t : Int) < μ o 0 → -2 ≤ μ (o + 2) t ∧ μ (o + 2) t < 12
section
variable {l : Launch} {B : Nat} {D : va_G} {E : Nat → ClassId} {μ : Mm}
theorem c_X7_ati (hst : l.stackTraces = false) {o c o1 n : Nat} (hr : isRw o c n) (e : c = o1) (hl : n ≤ 4000) {z : Int} (hz : 0 ≤ z ∧ z < (n : Int)) :
    Ct l B D E yX7_at (.code yX7_at cX7_at 2 (some .int)) rm_X7_at [.ref (pl B o), iI z] μ (ri (μ o1 z.toNat) μ) NX := e ▸ c_X7_at hst hr hl hz
theorem c_X7_atn (hst : l.stackTraces = false) {o c o1 n : Nat} (hr : isRw o c n) (e : c = o1) (hl : n ≤ 4000) {j : Nat} (hz : j < n) :
    Ct l B D E yX7_at (.code yX7_at cX7_at 2 (some .int)) rm_X7_at [.ref (pl B o), iI (j : Int)] μ (ri (μ o1 j) μ) NX := e ▸ c_X7_at hst hr hl (by omega)
theorem c_X7_putn (hst : l.stackTraces = false) {o c o1 n : Nat} (hr : isRw o c n) (e : c = o1) (hl : n ≤ 4000) {j : Nat} {y : Int} (hz : j < n) :
    Ct l B D E yX7_put (.code yX7_put cX7_put 3 none) rm_X7_put [.ref (pl B o), iI (j : Int), iI y] μ (rv (mup μ o1 j y)) NX := e ▸ c_X7_put hst hr hl (by omega)
theorem c_X7_puti (hst : l.stackTraces = false) {o c o1 n : Nat} (hr : isRw o c n) (e : c = o1) (hl : n ≤ 4000) {z y : Int} (hz : 0 ≤ z ∧ z < (n : Int)) :
    Ct l B D E yX7_put (.code yX7_put cX7_put 3 none) rm_X7_put [.ref (pl B o), iI z, iI y] μ (rv (mup μ o1 z.toNat y)) NX := e ▸ c_X7_put hst hr hl hz
theorem c_X7_addn (hst : l.stackTraces = false) {o c o1 n : Nat} (hr : isRw o c n) (e : c = o1) (hl : n ≤ 4000) {j : Nat} {y : Int} (hz : j < n) :
    Ct l B D E yX7_add (.code yX7_add cX7_add 3 none) rm_X7_add [.ref (pl B o), iI (j : Int), iI y] μ (rv (mup μ o1 j (μ o1 j + y))) NX := e ▸ c_X7_add hst hr hl (by omega)
theorem c_X7_addi (hst : l.stackTraces = false) {o c o1 n : Nat} (hr : isRw o c n) (e : c = o1) (hl : n ≤ 4000) {z y : Int} (hz : 0 ≤ z ∧ z < (n : Int)) :
    Ct l B D E yX7_add (.code yX7_add cX7_add 3 none) rm_X7_add [.ref (pl B o), iI z, iI y] μ (rv (mup μ o1 z.toNat (μ o1 z.toNat + y))) NX := e ▸ c_X7_add hst hr hl hz
theorem c_X7_filln (hst : l.stackTraces = false) {o c o1 n : Nat} (hr : isRw o c n) (e : c = o1) (hl : n ≤ 4000) {v : Int} :
    Ct l B D E yX7_fill (.code yX7_fill cX7_fill 3 none) rm_X7_fill [.ref (pl B o), iI v] μ (rv (mfill μ o1 n v)) NX := e ▸ c_X7_fill hst hr hl
theorem c_X0_note (hst : l.stackTraces = false) {o : Nat} (hr : isC o) (hs : 0 ≤ μ o 0 ∧ μ o 0 < 2304) {x : Int} :
    Ct l B D E yX0_note (.code yX0_note cX0_note 2 none) rm_X0_note [.ref (pl B o), iI x] μ (rv (mup (mup μ (o + 2) (μ o 0).toNat x) o 0 (μ o 0 + 1))) NX := by
  refine ct_of (own := RX0) (lv := [(0, _), (1, _)]) hst (by decide) rfl rfl (Nat.le_of_ble_eq_true rfl) fun a h r t => ?_
  refine v_aload_n (pc := 0) h (dk dt_X0_note 0 rfl) rfl ?_
  refine v_getr (pc := 1) h ci0 (C_hd hr) (Nat.le_of_ble_eq_true rfl) (j := 1) wF_X0_20 rfl (dk dt_X0_note 1 rfl) ?_
  refine v_aload_n (pc := 4) h (dk dt_X0_note 2 rfl) rfl ?_
  refine v_geti (pc := 5) h ci0 (C_hd hr) (Nat.le_of_ble_eq_true rfl) (j := 0) wF_X0_9 rfl (dk dt_X0_note 3 rfl) ?_
  refine v_iload_n (pc := 8) h (dk dt_X0_note 4 rfl) rfl ?_
  refine v_cVv (pc := 9) h (c_X7_puti h.quiet (C_row hr) (o1 := o + 2) rfl (Nat.le_of_ble_eq_true rfl) (by omega)) kv_X7_put (C_row hr).1 wM_X0_28 rfl rfl (Nat.le_of_ble_eq_true rfl) (RM.of rfl) rfl rfl (dk dt_X0_note 5 rfl) ?_
  refine v_aload_n (pc := 12) h (dk dt_X0_note 6 rfl) rfl ?_
  refine v_dup (pc := 13) h (dk dt_X0_note 7 rfl) rfl ?_
  refine v_geti (pc := 14) h ci0 (C_hd hr) (Nat.le_of_ble_eq_true rfl) (j := 0) wF_X0_9 rfl (dk dt_X0_note 8 rfl) ?_
  refine v_iconst (pc := 17) h (dk dt_X0_note 9 rfl) ?_
  refine v_iadd (pc := 18) h (dk dt_X0_note 10 rfl) ?_
  refine v_put (pc := 19) h ci0 (C_hd hr) (Nat.le_of_ble_eq_true rfl) (j := 0) wF_X0_9 rfl rfl rfl rfl (dk dt_X0_note 11 rfl) ?_
  exact v_vret (pc := 22) h r (dk dt_X0_note 12 rfl) (Nat.le_of_ble_eq_true rfl) (Nat.le_of_ble_eq_true rfl) ⟨rfl, by rw [mup_nk (a := o) (by omega)]⟩
theorem c_X0_doingAt (hst : l.stackTraces = false) {o : Nat} (hr : isC o) (hs : okC μ o) {x : Int} (hx : InR x) :
    Ct l B D E yX0_doingAt (.code yX0_doingAt cX0_doingAt 2 (some .int)) rm_X0_doingAt [.ref (pl B o), iI x] μ (ri (doF (μ (o + 2)) (μ o 0) x) μ) NX := by
  have hb := hs.1
  refine ct_of (own := RX0) (lv := [(0, _), (1, _)]) hst (by decide) rfl rfl (Nat.le_of_ble_eq_true rfl) fun a h r t => ?_
  refine v_iload_n (pc := 0) h (dk dt_X0_doingAt 0 rfl) rfl ?_
  refine v_if_lt (pc := 1) h 23 (dk dt_X0_doingAt 1 rfl) rfl (by omega) (fun c1 => ?_) (fun c1 => ?_)
  ·
    refine v_iconst (pc := 23) h (dk dt_X0_doingAt 11 rfl) ?_
    exact v_iret (pc := 24) h r (dk dt_X0_doingAt 12 rfl) (Nat.le_of_ble_eq_true rfl) (Nat.le_of_ble_eq_true rfl) (by first | exact ⟨by rw [doF, if_neg (by omega)], rfl⟩ | exact ⟨by rw [doF, if_pos (by omega)], rfl⟩)
  ·
    refine v_iload_n (pc := 4) h (dk dt_X0_doingAt 2 rfl) rfl ?_
    refine v_aload_n (pc := 5) h (dk dt_X0_doingAt 3 rfl) rfl ?_
    refine v_geti (pc := 6) h ci0 (C_hd hr) (Nat.le_of_ble_eq_true rfl) (j := 0) wF_X0_9 rfl (dk dt_X0_doingAt 4 rfl) ?_
    refine v_icmp_ge (pc := 9) h 23 (dk dt_X0_doingAt 5 rfl) rfl (by omega) (fun c9 => ?_) (fun c9 => ?_)
    ·
      refine v_iconst (pc := 23) h (dk dt_X0_doingAt 11 rfl) ?_
      exact v_iret (pc := 24) h r (dk dt_X0_doingAt 12 rfl) (Nat.le_of_ble_eq_true rfl) (Nat.le_of_ble_eq_true rfl) (by first | exact ⟨by rw [doF, if_neg (by omega)], rfl⟩ | exact ⟨by rw [doF, if_pos (by omega)], rfl⟩)
    ·
      refine v_aload_n (pc := 12) h (dk dt_X0_doingAt 6 rfl) rfl ?_
      refine v_getr (pc := 13) h ci0 (C_hd hr) (Nat.le_of_ble_eq_true rfl) (j := 1) wF_X0_20 rfl (dk dt_X0_doingAt 7 rfl) ?_
      refine v_iload_n (pc := 16) h (dk dt_X0_doingAt 8 rfl) rfl ?_
      refine v_cVi (pc := 17) h (c_X7_ati h.quiet (C_row hr) (o1 := o + 2) rfl (Nat.le_of_ble_eq_true rfl) (by omega)) kv_X7_at (C_row hr).1 wM_X0_32 rfl rfl (Nat.le_of_ble_eq_true rfl) (RM.of rfl) rfl rfl (dk dt_X0_doingAt 9 rfl) ?_
      refine v_goto (pc := 20) h 24 (dk dt_X0_doingAt 10 rfl) rfl ?_
      exact v_iret (pc := 24) h r (dk dt_X0_doingAt 12 rfl) (Nat.le_of_ble_eq_true rfl) (Nat.le_of_ble_eq_true rfl) (by first | exact ⟨by rw [doF, if_neg (by omega)], rfl⟩ | exact ⟨by rw [doF, if_pos (by omega)], rfl⟩)
theorem c_X0_leftOf (hst : l.stackTraces = false) {o : Nat} (hr : isC o) (hs : okC μ o) {j : Nat} (hj : j < 12) {m : Int} (hm : 0 ≤ m ∧ InR m) :
    Ct l B D E yX0_leftOf (.code yX0_leftOf cX0_leftOf 5 (some .int)) rm_X0_leftOf [.ref (pl B o), iI (j : Int), iI m] μ (ri (μ 5 j - cntJ (μ (o + 2)) j (if m < μ o 0 then m else μ o 0).toNat) μ) NX := by
  have hb := hs.1
  refine ct_of (own := RX0) (lv := [(0, _), (1, _), (2, _)]) hst (by decide) rfl rfl (Nat.le_of_ble_eq_true rfl) fun a h r t => ?_
  have loop : ∀ (d i : Nat), (i : Int) + d = (if m < μ o 0 then m else μ o 0) → VV a B (SP B D E μ) 0 0 15 [(4, iI (i : Int)), (3, iI (μ 5 j - cntJ (μ (o + 2)) j i)), (0, .ref (pl B o)), (1, iI (j : Int)), (2, iI m)] [] := by
    intro d
    induction d with
    | zero =>
      intro i hi
      have hi2 : (if m < μ o 0 then m else μ o 0).toNat = i := by omega
      refine v_iload (pc := 15) h (dk dt_X0_leftOf 8 rfl) rfl ?_
      refine v_aload_n (pc := 17) h (dk dt_X0_leftOf 9 rfl) rfl ?_
      refine v_geti (pc := 18) h ci0 (C_hd hr) (Nat.le_of_ble_eq_true rfl) (j := 0) wF_X0_9 rfl (dk dt_X0_leftOf 10 rfl) ?_
      refine v_icmp_ge (pc := 21) h 52 (dk dt_X0_leftOf 11 rfl) rfl (by omega) (fun c21 => ?_) (fun c21 => ?_)
      ·
        refine v_iload_n (pc := 52) h (dk dt_X0_leftOf 24 rfl) rfl ?_
        exact v_iret (pc := 53) h r (dk dt_X0_leftOf 25 rfl) (Nat.le_of_ble_eq_true rfl) (Nat.le_of_ble_eq_true rfl) ⟨by rw [hi2], rfl⟩
      ·
        refine v_iload (pc := 24) h (dk dt_X0_leftOf 12 rfl) rfl ?_
        refine v_iload_n (pc := 26) h (dk dt_X0_leftOf 13 rfl) rfl ?_
        refine v_icmp_ge (pc := 27) h 52 (dk dt_X0_leftOf 14 rfl) rfl (by omega) (fun c27 => ?_) (fun c27 => ?_)
        ·
          refine v_iload_n (pc := 52) h (dk dt_X0_leftOf 24 rfl) rfl ?_
          exact v_iret (pc := 53) h r (dk dt_X0_leftOf 25 rfl) (Nat.le_of_ble_eq_true rfl) (Nat.le_of_ble_eq_true rfl) ⟨by rw [hi2], rfl⟩
        ·
          exact absurd c27 (by split at hi <;> omega)
    | succ d ih =>
      intro i hi
      have hi3 : (i : Int) < m ∧ (i : Int) < μ o 0 := by split at hi <;> omega
      have hg := hs.2 i hi3.2
      refine v_iload (pc := 15) h (dk dt_X0_leftOf 8 rfl) rfl ?_
      refine v_aload_n (pc := 17) h (dk dt_X0_leftOf 9 rfl) rfl ?_
      refine v_geti (pc := 18) h ci0 (C_hd hr) (Nat.le_of_ble_eq_true rfl) (j := 0) wF_X0_9 rfl (dk dt_X0_leftOf 10 rfl) ?_
      refine v_icmp_ge (pc := 21) h 52 (dk dt_X0_leftOf 11 rfl) rfl (by omega) (fun c21 => ?_) (fun c21 => ?_)
      ·
        exact absurd c21 (by omega)
      ·
        refine v_iload (pc := 24) h (dk dt_X0_leftOf 12 rfl) rfl ?_
        refine v_iload_n (pc := 26) h (dk dt_X0_leftOf 13 rfl) rfl ?_
        refine v_icmp_ge (pc := 27) h 52 (dk dt_X0_leftOf 14 rfl) rfl (by omega) (fun c27 => ?_) (fun c27 => ?_)
        ·
          exact absurd c27 (by omega)
        ·
          refine v_aload_n (pc := 30) h (dk dt_X0_leftOf 15 rfl) rfl ?_
          refine v_getr (pc := 31) h ci0 (C_hd hr) (Nat.le_of_ble_eq_true rfl) (j := 1) wF_X0_20 rfl (dk dt_X0_leftOf 16 rfl) ?_
          refine v_iload (pc := 34) h (dk dt_X0_leftOf 17 rfl) rfl ?_
          refine v_cVi (pc := 36) h (c_X7_atn h.quiet (C_row hr) (o1 := o + 2) rfl (Nat.le_of_ble_eq_true rfl) (by omega)) kv_X7_at (C_row hr).1 wM_X0_32 rfl rfl (Nat.le_of_ble_eq_true rfl) (RM.of rfl) rfl rfl (dk dt_X0_leftOf 18 rfl) ?_
          refine v_iload_n (pc := 39) h (dk dt_X0_leftOf 19 rfl) rfl ?_
          refine v_icmp_ne (pc := 40) h 46 (dk dt_X0_leftOf 20 rfl) rfl (by omega) (fun c40 => ?_) (fun c40 => ?_)
          ·
            refine VV.loc (lv' := [(4, iI (i : Int)), (3, iI (μ 5 j - cntJ (μ (o + 2)) j (i + 1))), (0, .ref (pl B o)), (1, iI (j : Int)), (2, iI m)]) ?_ ⟨rfl, lvI (by rw [cntJ, if_neg c40]; omega), rfl, rfl, rfl, trivial⟩
            refine v_iinc (lv' := [(4, _), (3, _), (0, _), (1, _), (2, _)]) (pc := 46) h (dk dt_X0_leftOf 22 rfl) rfl (Nat.le_of_ble_eq_true rfl) rfl ?_
            refine v_goto (pc := 49) h 15 (dk dt_X0_leftOf 23 rfl) rfl ?_
            exact VV.loc (ih (i + 1) (by omega)) ⟨rfl, rfl, rfl, rfl, rfl, trivial⟩
          ·
            refine v_iinc (lv' := [(3, _), (4, _), (0, _), (1, _), (2, _)]) (pc := 43) h (dk dt_X0_leftOf 21 rfl) rfl (Nat.le_of_ble_eq_true rfl) rfl ?_
            refine VV.loc (lv' := [(4, iI (i : Int)), (3, iI (μ 5 j - cntJ (μ (o + 2)) j (i + 1))), (0, .ref (pl B o)), (1, iI (j : Int)), (2, iI m)]) ?_ ⟨rfl, lvI (by rw [cntJ, if_pos c40]; omega), rfl, rfl, rfl, trivial⟩
            refine v_iinc (lv' := [(4, _), (3, _), (0, _), (1, _), (2, _)]) (pc := 46) h (dk dt_X0_leftOf 22 rfl) rfl (Nat.le_of_ble_eq_true rfl) rfl ?_
            refine v_goto (pc := 49) h 15 (dk dt_X0_leftOf 23 rfl) rfl ?_
            exact VV.loc (ih (i + 1) (by omega)) ⟨rfl, rfl, rfl, rfl, rfl, trivial⟩
  refine v_aload_n (pc := 0) h (dk dt_X0_leftOf 0 rfl) rfl ?_
  refine v_getr (pc := 1) h ci0 (C_hd hr) (Nat.le_of_ble_eq_true rfl) (j := 2) wF_X0_24 rfl (dk dt_X0_leftOf 1 rfl) ?_
  refine v_getr (pc := 4) h ci1 sh1 (Nat.le_of_ble_eq_true rfl) (j := 1) wF_X0_36 rfl (dk dt_X0_leftOf 2 rfl) ?_
  refine v_iload_n (pc := 7) h (dk dt_X0_leftOf 3 rfl) rfl ?_
  refine v_cVi (pc := 8) h (c_X7_atn h.quiet jr1 (o1 := 5) rfl (Nat.le_of_ble_eq_true rfl) (by omega)) kv_X7_at jr1.1 wM_X0_32 rfl rfl (Nat.le_of_ble_eq_true rfl) (RM.of rfl) rfl rfl (dk dt_X0_leftOf 4 rfl) ?_
  refine v_istore_n (lv' := [(3, _), (0, _), (1, _), (2, _)]) (pc := 11) h (dk dt_X0_leftOf 5 rfl) (Nat.le_of_ble_eq_true rfl) rfl ?_
  refine v_iconst (pc := 12) h (dk dt_X0_leftOf 6 rfl) ?_
  refine v_istore (lv' := [(4, _), (3, _), (0, _), (1, _), (2, _)]) (pc := 13) h (dk dt_X0_leftOf 7 rfl) (Nat.le_of_ble_eq_true rfl) rfl ?_
  refine VV.loc (loop (if m < μ o 0 then m else μ o 0).toNat 0 (by split <;> omega)) ⟨rfl, ?_, rfl, rfl, rfl, trivial⟩
  rw [show cntJ (μ (o + 2)) j 0 = 0 from rfl, Int.sub_zero]; rfl
theorem c_X0_firstWork (hst : l.stackTraces = false) {o : Nat} (hr : isC o) (hs : okC μ o) {j : Nat} (hj : j < 12) :
    Ct l B D E yX0_firstWork (.code yX0_firstWork cX0_firstWork 3 (some .int)) rm_X0_firstWork [.ref (pl B o), iI (j : Int)] μ (ri (fstW (μ (o + 2)) j (μ o 0).toNat 0 : Nat) μ) NX := by
  have hb := hs.1
  refine ct_of (own := RX0) (lv := [(0, _), (1, _)]) hst (by decide) rfl rfl (Nat.le_of_ble_eq_true rfl) fun a h r t => ?_
  have loop : ∀ (d i : Nat), (i : Int) + d = μ o 0 → fstW (μ (o + 2)) j (μ o 0).toNat 0 = fstW (μ (o + 2)) j d i → VV a B (SP B D E μ) 0 0 2 [(2, iI (i : Int)), (0, .ref (pl B o)), (1, iI (j : Int))] [] := by
    intro d
    induction d with
    | zero =>
      intro i hi e
      refine v_iload_n (pc := 2) h (dk dt_X0_firstWork 2 rfl) rfl ?_
      refine v_aload_n (pc := 3) h (dk dt_X0_firstWork 3 rfl) rfl ?_
      refine v_geti (pc := 4) h ci0 (C_hd hr) (Nat.le_of_ble_eq_true rfl) (j := 0) wF_X0_9 rfl (dk dt_X0_firstWork 4 rfl) ?_
      refine v_icmp_ge (pc := 7) h 30 (dk dt_X0_firstWork 5 rfl) rfl (by omega) (fun c7 => ?_) (fun c7 => ?_)
      ·
        refine v_aload_n (pc := 30) h (dk dt_X0_firstWork 16 rfl) rfl ?_
        refine v_geti (pc := 31) h ci0 (C_hd hr) (Nat.le_of_ble_eq_true rfl) (j := 0) wF_X0_9 rfl (dk dt_X0_firstWork 17 rfl) ?_
        exact v_iret (pc := 34) h r (dk dt_X0_firstWork 18 rfl) (Nat.le_of_ble_eq_true rfl) (Nat.le_of_ble_eq_true rfl) ⟨by rw [e, fstW, show μ o 0 = (i : Int) by omega], rfl⟩
      ·
        exact absurd c7 (by omega)
    | succ d ih =>
      intro i hi e
      have hg := hs.2 i (by omega)
      refine v_iload_n (pc := 2) h (dk dt_X0_firstWork 2 rfl) rfl ?_
      refine v_aload_n (pc := 3) h (dk dt_X0_firstWork 3 rfl) rfl ?_
      refine v_geti (pc := 4) h ci0 (C_hd hr) (Nat.le_of_ble_eq_true rfl) (j := 0) wF_X0_9 rfl (dk dt_X0_firstWork 4 rfl) ?_
      refine v_icmp_ge (pc := 7) h 30 (dk dt_X0_firstWork 5 rfl) rfl (by omega) (fun c7 => ?_) (fun c7 => ?_)
      ·
        exact absurd c7 (by omega)
      ·
        refine v_aload_n (pc := 10) h (dk dt_X0_firstWork 6 rfl) rfl ?_
        refine v_getr (pc := 11) h ci0 (C_hd hr) (Nat.le_of_ble_eq_true rfl) (j := 1) wF_X0_20 rfl (dk dt_X0_firstWork 7 rfl) ?_
        refine v_iload_n (pc := 14) h (dk dt_X0_firstWork 8 rfl) rfl ?_
        refine v_cVi (pc := 15) h (c_X7_atn h.quiet (C_row hr) (o1 := o + 2) rfl (Nat.le_of_ble_eq_true rfl) (by omega)) kv_X7_at (C_row hr).1 wM_X0_32 rfl rfl (Nat.le_of_ble_eq_true rfl) (RM.of rfl) rfl rfl (dk dt_X0_firstWork 9 rfl) ?_
        refine v_iload_n (pc := 18) h (dk dt_X0_firstWork 10 rfl) rfl ?_
        refine v_icmp_ne (pc := 19) h 24 (dk dt_X0_firstWork 11 rfl) rfl (by omega) (fun c19 => ?_) (fun c19 => ?_)
        ·
          refine v_iinc (lv' := [(2, _), (0, _), (1, _)]) (pc := 24) h (dk dt_X0_firstWork 14 rfl) rfl (Nat.le_of_ble_eq_true rfl) rfl ?_
          refine v_goto (pc := 27) h 2 (dk dt_X0_firstWork 15 rfl) rfl ?_
          exact VV.loc (ih (i + 1) (by omega) (by rw [e, fstW, if_neg c19])) ⟨rfl, rfl, rfl, trivial⟩
        ·
          refine v_iload_n (pc := 22) h (dk dt_X0_firstWork 12 rfl) rfl ?_
          exact v_iret (pc := 23) h r (dk dt_X0_firstWork 13 rfl) (Nat.le_of_ble_eq_true rfl) (Nat.le_of_ble_eq_true rfl) ⟨by rw [e, fstW, if_pos c19], rfl⟩
  refine v_iconst (pc := 0) h (dk dt_X0_firstWork 0 rfl) ?_
  refine v_istore_n (lv' := [(2, _), (0, _), (1, _)]) (pc := 1) h (dk dt_X0_firstWork 1 rfl) (Nat.le_of_ble_eq_true rfl) rfl ?_
  exact VV.loc (loop (μ o 0).toNat 0 (by omega) rfl) ⟨rfl, rfl, rfl, trivial⟩
theorem c_X0_longestGap (hst : l.stackTraces = false) {o : Nat} (hr : isC o) (hs : okC μ o) {j : Nat} (hj : j < 12) {f : Nat} (hf : f ≤ 4000) :
    Ct l B D E yX0_longestGap (.code yX0_longestGap cX0_longestGap 6 (some .int)) rm_X0_longestGap [.ref (pl B o), iI (j : Int), iI (f : Int)] μ (ri (gapJ (μ (o + 2)) j ((μ o 0).toNat - f) f f 0) μ) NX := by
  have hb := hs.1
  refine ct_of (own := RX0) (lv := [(0, _), (1, _), (2, _)]) hst (by decide) rfl rfl (Nat.le_of_ble_eq_true rfl) fun a h r t => ?_
  have loop : ∀ (d i : Nat) (s m : Int), (i + d = (μ o 0).toNat ∨ (d = 0 ∧ μ o 0 ≤ i)) → i ≤ 4000 → (0 ≤ s ∧ s ≤ 5000 ∧ 0 ≤ m ∧ m ≤ 5000) → gapJ (μ (o + 2)) j ((μ o 0).toNat - f) f f 0 = gapJ (μ (o + 2)) j d i s m → VV a B (SP B D E μ) 0 0 8 [(5, iI (i : Int)), (4, iI s), (3, iI m), (0, .ref (pl B o)), (1, iI (j : Int)), (2, iI (f : Int))] [] := by
    intro d
    induction d with
    | zero =>
      intro i s m hi h4 hsm e
      refine v_iload (pc := 8) h (dk dt_X0_longestGap 6 rfl) rfl ?_
      refine v_aload_n (pc := 10) h (dk dt_X0_longestGap 7 rfl) rfl ?_
      refine v_geti (pc := 11) h ci0 (C_hd hr) (Nat.le_of_ble_eq_true rfl) (j := 0) wF_X0_9 rfl (dk dt_X0_longestGap 8 rfl) ?_
      refine v_icmp_ge (pc := 14) h 52 (dk dt_X0_longestGap 9 rfl) rfl (by omega) (fun c14 => ?_) (fun c14 => ?_)
      ·
        refine v_iload_n (pc := 52) h (dk dt_X0_longestGap 28 rfl) rfl ?_
        exact v_iret (pc := 53) h r (dk dt_X0_longestGap 29 rfl) (Nat.le_of_ble_eq_true rfl) (Nat.le_of_ble_eq_true rfl) ⟨by rw [e, gapJ], rfl⟩
      ·
        exact absurd c14 (by omega)
    | succ d ih =>
      intro i s m hi h4 hsm e
      have hg := hs.2 i (by omega)
      refine v_iload (pc := 8) h (dk dt_X0_longestGap 6 rfl) rfl ?_
      refine v_aload_n (pc := 10) h (dk dt_X0_longestGap 7 rfl) rfl ?_
      refine v_geti (pc := 11) h ci0 (C_hd hr) (Nat.le_of_ble_eq_true rfl) (j := 0) wF_X0_9 rfl (dk dt_X0_longestGap 8 rfl) ?_
      refine v_icmp_ge (pc := 14) h 52 (dk dt_X0_longestGap 9 rfl) rfl (by omega) (fun c14 => ?_) (fun c14 => ?_)
      ·
        exact absurd c14 (by omega)
      ·
        refine v_aload_n (pc := 17) h (dk dt_X0_longestGap 10 rfl) rfl ?_
        refine v_getr (pc := 18) h ci0 (C_hd hr) (Nat.le_of_ble_eq_true rfl) (j := 1) wF_X0_20 rfl (dk dt_X0_longestGap 11 rfl) ?_
        refine v_iload (pc := 21) h (dk dt_X0_longestGap 12 rfl) rfl ?_
        refine v_cVi (pc := 23) h (c_X7_atn h.quiet (C_row hr) (o1 := o + 2) rfl (Nat.le_of_ble_eq_true rfl) (by omega)) kv_X7_at (C_row hr).1 wM_X0_32 rfl rfl (Nat.le_of_ble_eq_true rfl) (RM.of rfl) rfl rfl (dk dt_X0_longestGap 13 rfl) ?_
        refine v_iload_n (pc := 26) h (dk dt_X0_longestGap 14 rfl) rfl ?_
        refine v_icmp_ne (pc := 27) h 46 (dk dt_X0_longestGap 15 rfl) rfl (by omega) (fun c27 => ?_) (fun c27 => ?_)
        ·
          refine v_iinc (lv' := [(5, _), (4, _), (3, _), (0, _), (1, _), (2, _)]) (pc := 46) h (dk dt_X0_longestGap 26 rfl) rfl (Nat.le_of_ble_eq_true rfl) rfl ?_
          refine v_goto (pc := 49) h 8 (dk dt_X0_longestGap 27 rfl) rfl ?_
          first
            | exact VV.loc (ih (i + 1) s m (by omega) (by omega) hsm (by have e2 := e; rw [gapJ, if_neg c27] at e2; exact e2)) ⟨rfl, rfl, rfl, rfl, rfl, rfl, trivial⟩
            | exact VV.loc (ih (i + 1) _ _ (by omega) (by omega) (by split <;> omega) (by have e2 := e; rw [gapJ, if_pos c27] at e2; exact e2)) ⟨rfl, rfl, rfl, rfl, rfl, rfl, trivial⟩
        ·
          refine v_iload_n (pc := 30) h (dk dt_X0_longestGap 16 rfl) rfl ?_
          refine v_iload (pc := 31) h (dk dt_X0_longestGap 17 rfl) rfl ?_
          refine v_iload (pc := 33) h (dk dt_X0_longestGap 18 rfl) rfl ?_
          refine v_isub (pc := 35) h (dk dt_X0_longestGap 19 rfl) ?_
          refine v_max (pc := 36) h km_max wM_X0_41 (by omega) (Nat.le_of_ble_eq_true rfl) ⟨Nat.le_of_ble_eq_true rfl, Nat.le_of_ble_eq_true rfl, Nat.le_of_ble_eq_true rfl, Nat.le_of_ble_eq_true rfl⟩ (dk dt_X0_longestGap 20 rfl) ?_
          refine v_istore_n (lv' := [(3, _), (5, _), (4, _), (0, _), (1, _), (2, _)]) (pc := 39) h (dk dt_X0_longestGap 21 rfl) (Nat.le_of_ble_eq_true rfl) rfl ?_
          refine v_iload (pc := 40) h (dk dt_X0_longestGap 22 rfl) rfl ?_
          refine v_iconst (pc := 42) h (dk dt_X0_longestGap 23 rfl) ?_
          refine v_iadd (pc := 43) h (dk dt_X0_longestGap 24 rfl) ?_
          refine v_istore (lv' := [(4, _), (3, _), (5, _), (0, _), (1, _), (2, _)]) (pc := 44) h (dk dt_X0_longestGap 25 rfl) (Nat.le_of_ble_eq_true rfl) rfl ?_
          refine v_iinc (lv' := [(5, _), (4, _), (3, _), (0, _), (1, _), (2, _)]) (pc := 46) h (dk dt_X0_longestGap 26 rfl) rfl (Nat.le_of_ble_eq_true rfl) rfl ?_
          refine v_goto (pc := 49) h 8 (dk dt_X0_longestGap 27 rfl) rfl ?_
          first
            | exact VV.loc (ih (i + 1) s m (by omega) (by omega) hsm (by have e2 := e; rw [gapJ, if_neg c27] at e2; exact e2)) ⟨rfl, rfl, rfl, rfl, rfl, rfl, trivial⟩
            | exact VV.loc (ih (i + 1) _ _ (by omega) (by omega) (by split <;> omega) (by have e2 := e; rw [gapJ, if_pos c27] at e2; exact e2)) ⟨rfl, rfl, rfl, rfl, rfl, rfl, trivial⟩
  refine v_iconst (pc := 0) h (dk dt_X0_longestGap 0 rfl) ?_
  refine v_istore_n (lv' := [(3, _), (0, _), (1, _), (2, _)]) (pc := 1) h (dk dt_X0_longestGap 1 rfl) (Nat.le_of_ble_eq_true rfl) rfl ?_
  refine v_iload_n (pc := 2) h (dk dt_X0_longestGap 2 rfl) rfl ?_
  refine v_istore (lv' := [(4, _), (3, _), (0, _), (1, _), (2, _)]) (pc := 3) h (dk dt_X0_longestGap 3 rfl) (Nat.le_of_ble_eq_true rfl) rfl ?_
  refine v_iload_n (pc := 5) h (dk dt_X0_longestGap 4 rfl) rfl ?_
  refine v_istore (lv' := [(5, _), (4, _), (3, _), (0, _), (1, _), (2, _)]) (pc := 6) h (dk dt_X0_longestGap 5 rfl) (Nat.le_of_ble_eq_true rfl) rfl ?_
  exact VV.loc (loop ((μ o 0).toNat - f) f f 0 (by omega) (by omega) (by omega) rfl) ⟨rfl, rfl, rfl, rfl, rfl, rfl, trivial⟩
theorem c_X0_countWork (hst : l.stackTraces = false) {o : Nat} (hr : isC o) (hs : okC μ o) :
    Ct l B D E yX0_countWork (.code yX0_countWork cX0_countWork 3 (some .int)) rm_X0_countWork [.ref (pl B o)] μ (ri (cntW (μ (o + 2)) (μ o 0).toNat) μ) NX := by
  have hb := hs.1
  refine ct_of (own := RX0) (lv := [(0, _)]) hst (by decide) rfl rfl (Nat.le_of_ble_eq_true rfl) fun a h r t => ?_
  have loop : ∀ (d i : Nat), i + d = (μ o 0).toNat → VV a B (SP B D E μ) 0 0 4 [(2, iI (i : Int)), (1, iI (cntW (μ (o + 2)) i)), (0, .ref (pl B o))] [] := by
    intro d
    induction d with
    | zero =>
      intro i hi
      refine v_iload_n (pc := 4) h (dk dt_X0_countWork 4 rfl) rfl ?_
      refine v_aload_n (pc := 5) h (dk dt_X0_countWork 5 rfl) rfl ?_
      refine v_geti (pc := 6) h ci0 (C_hd hr) (Nat.le_of_ble_eq_true rfl) (j := 0) wF_X0_9 rfl (dk dt_X0_countWork 6 rfl) ?_
      refine v_icmp_ge (pc := 9) h 32 (dk dt_X0_countWork 7 rfl) rfl (by omega) (fun c9 => ?_) (fun c9 => ?_)
      ·
        refine v_iload_n (pc := 32) h (dk dt_X0_countWork 16 rfl) rfl ?_
        exact v_iret (pc := 33) h r (dk dt_X0_countWork 17 rfl) (Nat.le_of_ble_eq_true rfl) (Nat.le_of_ble_eq_true rfl) ⟨by rw [show (μ o 0).toNat = i by omega], rfl⟩
      ·
        exact absurd c9 (by omega)
    | succ d ih =>
      intro i hi
      have hg := hs.2 i (by omega)
      refine v_iload_n (pc := 4) h (dk dt_X0_countWork 4 rfl) rfl ?_
      refine v_aload_n (pc := 5) h (dk dt_X0_countWork 5 rfl) rfl ?_
      refine v_geti (pc := 6) h ci0 (C_hd hr) (Nat.le_of_ble_eq_true rfl) (j := 0) wF_X0_9 rfl (dk dt_X0_countWork 6 rfl) ?_
      refine v_icmp_ge (pc := 9) h 32 (dk dt_X0_countWork 7 rfl) rfl (by omega) (fun c9 => ?_) (fun c9 => ?_)
      ·
        exact absurd c9 (by omega)
      ·
        refine v_aload_n (pc := 12) h (dk dt_X0_countWork 8 rfl) rfl ?_
        refine v_getr (pc := 13) h ci0 (C_hd hr) (Nat.le_of_ble_eq_true rfl) (j := 1) wF_X0_20 rfl (dk dt_X0_countWork 9 rfl) ?_
        refine v_iload_n (pc := 16) h (dk dt_X0_countWork 10 rfl) rfl ?_
        refine v_cVi (pc := 17) h (c_X7_atn h.quiet (C_row hr) (o1 := o + 2) rfl (Nat.le_of_ble_eq_true rfl) (by omega)) kv_X7_at (C_row hr).1 wM_X0_32 rfl rfl (Nat.le_of_ble_eq_true rfl) (RM.of rfl) rfl rfl (dk dt_X0_countWork 11 rfl) ?_
        refine v_if_lt (pc := 20) h 26 (dk dt_X0_countWork 12 rfl) rfl (by omega) (fun c20 => ?_) (fun c20 => ?_)
        ·
          refine v_iinc (lv' := [(2, _), (1, _), (0, _)]) (pc := 26) h (dk dt_X0_countWork 14 rfl) rfl (Nat.le_of_ble_eq_true rfl) rfl ?_
          refine v_goto (pc := 29) h 4 (dk dt_X0_countWork 15 rfl) rfl ?_
          refine VV.loc (ih (i + 1) (by omega)) ⟨rfl, ?_, rfl, trivial⟩
          simp only [cntW]
          first | rw [if_pos (by omega)]; rfl | rw [if_neg (by omega), Int.add_zero]; rfl
        ·
          refine v_iinc (lv' := [(1, _), (2, _), (0, _)]) (pc := 23) h (dk dt_X0_countWork 13 rfl) rfl (Nat.le_of_ble_eq_true rfl) rfl ?_
          refine v_iinc (lv' := [(2, _), (1, _), (0, _)]) (pc := 26) h (dk dt_X0_countWork 14 rfl) rfl (Nat.le_of_ble_eq_true rfl) rfl ?_
          refine v_goto (pc := 29) h 4 (dk dt_X0_countWork 15 rfl) rfl ?_
          refine VV.loc (ih (i + 1) (by omega)) ⟨rfl, ?_, rfl, trivial⟩
          simp only [cntW]
          first | rw [if_pos (by omega)]; rfl | rw [if_neg (by omega), Int.add_zero]; rfl
  refine v_iconst (pc := 0) h (dk dt_X0_countWork 0 rfl) ?_
  refine v_istore_n (lv' := [(1, _), (0, _)]) (pc := 1) h (dk dt_X0_countWork 1 rfl) (Nat.le_of_ble_eq_true rfl) rfl ?_
  refine v_iconst (pc := 2) h (dk dt_X0_countWork 2 rfl) ?_
  refine v_istore_n (lv' := [(2, _), (1, _), (0, _)]) (pc := 3) h (dk dt_X0_countWork 3 rfl) (Nat.le_of_ble_eq_true rfl) rfl ?_
  exact VV.loc (loop (μ o 0).toNat 0 (by omega)) ⟨rfl, rfl, rfl, trivial⟩
theorem c_X0_beginsBusy (hst : l.stackTraces = false) {o : Nat} (hr : isC o) (hs : okC μ o) {i : Nat} (hi : (i : Int) < μ o 0) :
    Ct l B D E yX0_beginsBusy (.code yX0_beginsBusy cX0_beginsBusy 2 (some .boolean)) rm_X0_beginsBusy [.ref (pl B o), iI (i : Int)] μ (ri (if bgn (μ (o + 2)) i then 1 else 0) μ) NX := by
  have hb := hs.1
  have hg := hs.2 i hi
  refine ct_of (own := RX0) (lv := [(0, _), (1, _)]) hst (by decide) rfl rfl (Nat.le_of_ble_eq_true rfl) fun a h r t => ?_
  refine v_aload_n (pc := 0) h (dk dt_X0_beginsBusy 0 rfl) rfl ?_
  refine v_getr (pc := 1) h ci0 (C_hd hr) (Nat.le_of_ble_eq_true rfl) (j := 1) wF_X0_20 rfl (dk dt_X0_beginsBusy 1 rfl) ?_
  refine v_iload_n (pc := 4) h (dk dt_X0_beginsBusy 2 rfl) rfl ?_
  refine v_cVi (pc := 5) h (c_X7_atn h.quiet (C_row hr) (o1 := o + 2) rfl (Nat.le_of_ble_eq_true rfl) (by omega)) kv_X7_at (C_row hr).1 wM_X0_32 rfl rfl (Nat.le_of_ble_eq_true rfl) (RM.of rfl) rfl rfl (dk dt_X0_beginsBusy 3 rfl) ?_
  refine v_iconst (pc := 8) h (dk dt_X0_beginsBusy 4 rfl) ?_
  refine v_icmp_eq (pc := 9) h 34 (dk dt_X0_beginsBusy 5 rfl) rfl (by omega) (fun c9 => ?_) (fun c9 => ?_)
  ·
    have dB : ¬ bgn (μ (o + 2)) i := fun z => z.1 c9
    refine v_iconst (pc := 34) h (dk dt_X0_beginsBusy 18 rfl) ?_
    exact v_zret (pc := 35) h r (dk dt_X0_beginsBusy 19 rfl) (Nat.le_of_ble_eq_true rfl) (Nat.le_of_ble_eq_true rfl) (by omega) ⟨by first | rw [if_pos dB] | rw [if_neg dB], rfl⟩
  ·
    refine v_iload_n (pc := 12) h (dk dt_X0_beginsBusy 6 rfl) rfl ?_
    refine v_if_eq (pc := 13) h 30 (dk dt_X0_beginsBusy 7 rfl) rfl (by omega) (fun c13 => ?_) (fun c13 => ?_)
    ·
      have dB : bgn (μ (o + 2)) i := ⟨c9, Or.inl (by omega)⟩
      refine v_iconst (pc := 30) h (dk dt_X0_beginsBusy 16 rfl) ?_
      refine v_goto (pc := 31) h 35 (dk dt_X0_beginsBusy 17 rfl) rfl ?_
      exact v_zret (pc := 35) h r (dk dt_X0_beginsBusy 19 rfl) (Nat.le_of_ble_eq_true rfl) (Nat.le_of_ble_eq_true rfl) (by omega) ⟨by first | rw [if_pos dB] | rw [if_neg dB], rfl⟩
    ·
      have hg1 := hs.2 (i - 1) (by omega)
      refine v_aload_n (pc := 16) h (dk dt_X0_beginsBusy 8 rfl) rfl ?_
      refine v_getr (pc := 17) h ci0 (C_hd hr) (Nat.le_of_ble_eq_true rfl) (j := 1) wF_X0_20 rfl (dk dt_X0_beginsBusy 9 rfl) ?_
      refine v_iload_n (pc := 20) h (dk dt_X0_beginsBusy 10 rfl) rfl ?_
      refine v_iconst (pc := 21) h (dk dt_X0_beginsBusy 11 rfl) ?_
      refine v_isub (pc := 22) h (dk dt_X0_beginsBusy 12 rfl) ?_
      refine v_cVi (pc := 23) h (c_X7_ati h.quiet (C_row hr) (o1 := o + 2) rfl (Nat.le_of_ble_eq_true rfl) (by omega)) kv_X7_at (C_row hr).1 wM_X0_32 rfl rfl (Nat.le_of_ble_eq_true rfl) (RM.of rfl) rfl rfl (dk dt_X0_beginsBusy 13 rfl) ?_
      rw [show ((i : Int) - 1).toNat = i - 1 by omega]
      refine v_iconst (pc := 26) h (dk dt_X0_beginsBusy 14 rfl) ?_
      refine v_icmp_ne (pc := 27) h 34 (dk dt_X0_beginsBusy 15 rfl) rfl (by omega) (fun c27 => ?_) (fun c27 => ?_)
      ·
        have dB : ¬ bgn (μ (o + 2)) i := fun z => by rcases z.2 with q | q; omega; exact c27 q
        refine v_iconst (pc := 34) h (dk dt_X0_beginsBusy 18 rfl) ?_
        exact v_zret (pc := 35) h r (dk dt_X0_beginsBusy 19 rfl) (Nat.le_of_ble_eq_true rfl) (Nat.le_of_ble_eq_true rfl) (by omega) ⟨by first | rw [if_pos dB] | rw [if_neg dB], rfl⟩
      ·
        have dB : bgn (μ (o + 2)) i := ⟨c9, Or.inr c27⟩
        refine v_iconst (pc := 30) h (dk dt_X0_beginsBusy 16 rfl) ?_
        refine v_goto (pc := 31) h 35 (dk dt_X0_beginsBusy 17 rfl) rfl ?_
        exact v_zret (pc := 35) h r (dk dt_X0_beginsBusy 19 rfl) (Nat.le_of_ble_eq_true rfl) (Nat.le_of_ble_eq_true rfl) (by omega) ⟨by first | rw [if_pos dB] | rw [if_neg dB], rfl⟩
theorem c_X0_countBusy (hst : l.stackTraces = false) {o : Nat} (hr : isC o) (hs : okC μ o) :
    Ct l B D E yX0_countBusy (.code yX0_countBusy cX0_countBusy 3 (some .int)) rm_X0_countBusy [.ref (pl B o)] μ (ri (cntB (μ (o + 2)) (μ o 0).toNat) μ) NX := by
  have hb := hs.1
  refine ct_of (own := RX0) (lv := [(0, _)]) hst (by decide) rfl rfl (Nat.le_of_ble_eq_true rfl) fun a h r t => ?_
  have loop : ∀ (d i : Nat), i + d = (μ o 0).toNat → VV a B (SP B D E μ) 0 0 4 [(2, iI (i : Int)), (1, iI (cntB (μ (o + 2)) i)), (0, .ref (pl B o))] [] := by
    intro d
    induction d with
    | zero =>
      intro i hi
      refine v_iload_n (pc := 4) h (dk dt_X0_countBusy 4 rfl) rfl ?_
      refine v_aload_n (pc := 5) h (dk dt_X0_countBusy 5 rfl) rfl ?_
      refine v_geti (pc := 6) h ci0 (C_hd hr) (Nat.le_of_ble_eq_true rfl) (j := 0) wF_X0_9 rfl (dk dt_X0_countBusy 6 rfl) ?_
      refine v_icmp_ge (pc := 9) h 29 (dk dt_X0_countBusy 7 rfl) rfl (by omega) (fun c9 => ?_) (fun c9 => ?_)
      ·
        refine v_iload_n (pc := 29) h (dk dt_X0_countBusy 15 rfl) rfl ?_
        exact v_iret (pc := 30) h r (dk dt_X0_countBusy 16 rfl) (Nat.le_of_ble_eq_true rfl) (Nat.le_of_ble_eq_true rfl) ⟨by rw [show (μ o 0).toNat = i by omega], rfl⟩
      ·
        exact absurd c9 (by omega)
    | succ d ih =>
      intro i hi
      refine v_iload_n (pc := 4) h (dk dt_X0_countBusy 4 rfl) rfl ?_
      refine v_aload_n (pc := 5) h (dk dt_X0_countBusy 5 rfl) rfl ?_
      refine v_geti (pc := 6) h ci0 (C_hd hr) (Nat.le_of_ble_eq_true rfl) (j := 0) wF_X0_9 rfl (dk dt_X0_countBusy 6 rfl) ?_
      refine v_icmp_ge (pc := 9) h 29 (dk dt_X0_countBusy 7 rfl) rfl (by omega) (fun c9 => ?_) (fun c9 => ?_)
      ·
        exact absurd c9 (by omega)
      ·
        refine v_aload_n (pc := 12) h (dk dt_X0_countBusy 8 rfl) rfl ?_
        refine v_iload_n (pc := 13) h (dk dt_X0_countBusy 9 rfl) rfl ?_
        refine v_cVi (pc := 14) h (c_X0_beginsBusy h.quiet hr (by assumption) (by omega)) kv_X0_beginsBusy (C_hd hr) wM_X0_47 rfl rfl (Nat.le_of_ble_eq_true rfl) (RM.of rfl) rfl rfl (dk dt_X0_countBusy 10 rfl) ?_
        refine v_if_eq (pc := 17) h 23 (dk dt_X0_countBusy 11 rfl) rfl (by split <;> omega) (fun c17 => ?_) (fun c17 => ?_)
        ·
          have d17 : ¬ bgn (μ (o + 2)) i := by intro q; rw [if_pos q] at c17; omega
          refine v_iinc (lv' := [(2, _), (1, _), (0, _)]) (pc := 23) h (dk dt_X0_countBusy 13 rfl) rfl (Nat.le_of_ble_eq_true rfl) rfl ?_
          refine v_goto (pc := 26) h 4 (dk dt_X0_countBusy 14 rfl) rfl ?_
          refine VV.loc (ih (i + 1) (by omega)) ⟨rfl, ?_, rfl, trivial⟩
          simp only [cntB]
          first | rw [if_pos d17]; rfl | rw [if_neg d17, Int.add_zero]; rfl
        ·
          have d17 : bgn (μ (o + 2)) i := by by_cases q : bgn (μ (o + 2)) i; exact q; rw [if_neg q] at c17; omega
          refine v_iinc (lv' := [(1, _), (2, _), (0, _)]) (pc := 20) h (dk dt_X0_countBusy 12 rfl) rfl (Nat.le_of_ble_eq_true rfl) rfl ?_
          refine v_iinc (lv' := [(2, _), (1, _), (0, _)]) (pc := 23) h (dk dt_X0_countBusy 13 rfl) rfl (Nat.le_of_ble_eq_true rfl) rfl ?_
          refine v_goto (pc := 26) h 4 (dk dt_X0_countBusy 14 rfl) rfl ?_
          refine VV.loc (ih (i + 1) (by omega)) ⟨rfl, ?_, rfl, trivial⟩
          simp only [cntB]
          first | rw [if_pos d17]; rfl | rw [if_neg d17, Int.add_zero]; rfl
  refine v_iconst (pc := 0) h (dk dt_X0_countBusy 0 rfl) ?_
  refine v_istore_n (lv' := [(1, _), (0, _)]) (pc := 1) h (dk dt_X0_countBusy 1 rfl) (Nat.le_of_ble_eq_true rfl) rfl ?_
  refine v_iconst (pc := 2) h (dk dt_X0_countBusy 2 rfl) ?_
  refine v_istore_n (lv' := [(2, _), (1, _), (0, _)]) (pc := 3) h (dk dt_X0_countBusy 3 rfl) (Nat.le_of_ble_eq_true rfl) rfl ?_
  exact VV.loc (loop (μ o 0).toNat 0 (by omega)) ⟨rfl, rfl, rfl, trivial⟩
theorem c_X0_busyBegin (hst : l.stackTraces = false) {o : Nat} (hr : isC o) (hs : okC μ o) {x : Int} (hx : InR x) :
    Ct l B D E yX0_busyBegin (.code yX0_busyBegin cX0_busyBegin 4 (some .int)) rm_X0_busyBegin [.ref (pl B o), iI x] μ (ri (bBeg (μ (o + 2)) x (μ o 0).toNat 0 0) μ) NX := by
  have hb := hs.1
  refine ct_of (own := RX0) (lv := [(0, _), (1, _)]) hst (by decide) rfl rfl (Nat.le_of_ble_eq_true rfl) fun a h r t => ?_
  have loop : ∀ (d i : Nat) (e : Int), i + d = (μ o 0).toNat → (0 ≤ e ∧ e ≤ i) → bBeg (μ (o + 2)) x (μ o 0).toNat 0 0 = bBeg (μ (o + 2)) x d i e → VV a B (SP B D E μ) 0 0 4 [(3, iI (i : Int)), (2, iI e), (0, .ref (pl B o)), (1, iI x)] [] := by
    intro d
    induction d with
    | zero =>
      intro i e hi he q
      refine v_iload_n (pc := 4) h (dk dt_X0_busyBegin 4 rfl) rfl ?_
      refine v_aload_n (pc := 5) h (dk dt_X0_busyBegin 5 rfl) rfl ?_
      refine v_geti (pc := 6) h ci0 (C_hd hr) (Nat.le_of_ble_eq_true rfl) (j := 0) wF_X0_9 rfl (dk dt_X0_busyBegin 6 rfl) ?_
      refine v_icmp_ge (pc := 9) h 41 (dk dt_X0_busyBegin 7 rfl) rfl (by omega) (fun c9 => ?_) (fun c9 => ?_)
      ·
        refine v_iconst (pc := 41) h (dk dt_X0_busyBegin 23 rfl) ?_
        exact v_iret (pc := 42) h r (dk dt_X0_busyBegin 24 rfl) (Nat.le_of_ble_eq_true rfl) (Nat.le_of_ble_eq_true rfl) ⟨by rw [q, bBeg], rfl⟩
      ·
        exact absurd c9 (by omega)
    | succ d ih =>
      intro i e hi he q
      refine v_iload_n (pc := 4) h (dk dt_X0_busyBegin 4 rfl) rfl ?_
      refine v_aload_n (pc := 5) h (dk dt_X0_busyBegin 5 rfl) rfl ?_
      refine v_geti (pc := 6) h ci0 (C_hd hr) (Nat.le_of_ble_eq_true rfl) (j := 0) wF_X0_9 rfl (dk dt_X0_busyBegin 6 rfl) ?_
      refine v_icmp_ge (pc := 9) h 41 (dk dt_X0_busyBegin 7 rfl) rfl (by omega) (fun c9 => ?_) (fun c9 => ?_)
      ·
        exact absurd c9 (by omega)
      ·
        refine v_iload_n (pc := 12) h (dk dt_X0_busyBegin 8 rfl) rfl ?_
        refine v_iload_n (pc := 13) h (dk dt_X0_busyBegin 9 rfl) rfl ?_
        refine v_icmp_gt (pc := 14) h 41 (dk dt_X0_busyBegin 10 rfl) rfl (by omega) (fun c14 => ?_) (fun c14 => ?_)
        ·
          refine v_iconst (pc := 41) h (dk dt_X0_busyBegin 23 rfl) ?_
          exact v_iret (pc := 42) h r (dk dt_X0_busyBegin 24 rfl) (Nat.le_of_ble_eq_true rfl) (Nat.le_of_ble_eq_true rfl) ⟨by rw [q, bBeg, if_pos c14], rfl⟩
        ·
          refine v_aload_n (pc := 17) h (dk dt_X0_busyBegin 11 rfl) rfl ?_
          refine v_iload_n (pc := 18) h (dk dt_X0_busyBegin 12 rfl) rfl ?_
          refine v_cVi (pc := 19) h (c_X0_beginsBusy h.quiet hr (by assumption) (by omega)) kv_X0_beginsBusy (C_hd hr) wM_X0_47 rfl rfl (Nat.le_of_ble_eq_true rfl) (RM.of rfl) rfl rfl (dk dt_X0_busyBegin 13 rfl) ?_
          refine v_if_eq (pc := 22) h 35 (dk dt_X0_busyBegin 14 rfl) rfl (by split <;> omega) (fun c22 => ?_) (fun c22 => ?_)
          ·
            have d22 : ¬ bgn (μ (o + 2)) i := by intro q; rw [if_pos q] at c22; omega
            rw [bBeg, if_neg (by omega), if_neg d22] at q
            refine v_iinc (lv' := [(3, _), (2, _), (0, _), (1, _)]) (pc := 35) h (dk dt_X0_busyBegin 21 rfl) rfl (Nat.le_of_ble_eq_true rfl) rfl ?_
            refine v_goto (pc := 38) h 4 (dk dt_X0_busyBegin 22 rfl) rfl ?_
            exact VV.loc (ih (i + 1) _ (by omega) (by omega) q) ⟨rfl, rfl, rfl, rfl, trivial⟩
          ·
            have d22 : bgn (μ (o + 2)) i := by by_cases q : bgn (μ (o + 2)) i; exact q; rw [if_neg q] at c22; omega
            rw [bBeg, if_neg (by omega), if_pos d22] at q
            refine v_iload_n (pc := 25) h (dk dt_X0_busyBegin 15 rfl) rfl ?_
            refine v_iload_n (pc := 26) h (dk dt_X0_busyBegin 16 rfl) rfl ?_
            refine v_icmp_ne (pc := 27) h 32 (dk dt_X0_busyBegin 17 rfl) rfl (by omega) (fun c27 => ?_) (fun c27 => ?_)
            ·
              rw [if_neg c27] at q
              refine v_iinc (lv' := [(2, _), (3, _), (0, _), (1, _)]) (pc := 32) h (dk dt_X0_busyBegin 20 rfl) rfl (Nat.le_of_ble_eq_true rfl) rfl ?_
              refine v_iinc (lv' := [(3, _), (2, _), (0, _), (1, _)]) (pc := 35) h (dk dt_X0_busyBegin 21 rfl) rfl (Nat.le_of_ble_eq_true rfl) rfl ?_
              refine v_goto (pc := 38) h 4 (dk dt_X0_busyBegin 22 rfl) rfl ?_
              exact VV.loc (ih (i + 1) _ (by omega) (by omega) q) ⟨rfl, rfl, rfl, rfl, trivial⟩
            ·
              refine v_iload_n (pc := 30) h (dk dt_X0_busyBegin 18 rfl) rfl ?_
              exact v_iret (pc := 31) h r (dk dt_X0_busyBegin 19 rfl) (Nat.le_of_ble_eq_true rfl) (Nat.le_of_ble_eq_true rfl) ⟨by rw [q, if_pos c27], rfl⟩
  refine v_iconst (pc := 0) h (dk dt_X0_busyBegin 0 rfl) ?_
  refine v_istore_n (lv' := [(2, _), (0, _), (1, _)]) (pc := 1) h (dk dt_X0_busyBegin 1 rfl) (Nat.le_of_ble_eq_true rfl) rfl ?_
  refine v_iconst (pc := 2) h (dk dt_X0_busyBegin 2 rfl) ?_
  refine v_istore_n (lv' := [(3, _), (2, _), (0, _), (1, _)]) (pc := 3) h (dk dt_X0_busyBegin 3 rfl) (Nat.le_of_ble_eq_true rfl) rfl ?_
  exact VV.loc (loop (μ o 0).toNat 0 0 (by omega) (by omega) rfl) ⟨rfl, rfl, rfl, rfl, trivial⟩
theorem c_X0_busyEnd (hst : l.stackTraces = false) {o : Nat} (hr : isC o) (hs : okC μ o) {f : Nat} (hf : (f : Int) ≤ μ o 0) :
    Ct l B D E yX0_busyEnd (.code yX0_busyEnd cX0_busyEnd 3 (some .int)) rm_X0_busyEnd [.ref (pl B o), iI (f : Int)] μ (ri (bEnd (μ (o + 2)) ((μ o 0).toNat - f) f : Nat) μ) NX := by
  have hb := hs.1
  refine ct_of (own := RX0) (lv := [(0, _), (1, _)]) hst (by decide) rfl rfl (Nat.le_of_ble_eq_true rfl) fun a h r t => ?_
  have loop : ∀ (d i : Nat), i + d = (μ o 0).toNat → bEnd (μ (o + 2)) ((μ o 0).toNat - f) f = bEnd (μ (o + 2)) d i → VV a B (SP B D E μ) 0 0 2 [(2, iI (i : Int)), (0, .ref (pl B o)), (1, iI (f : Int))] [] := by
    intro d
    induction d with
    | zero =>
      intro i hi e
      refine v_iload_n (pc := 2) h (dk dt_X0_busyEnd 2 rfl) rfl ?_
      refine v_aload_n (pc := 3) h (dk dt_X0_busyEnd 3 rfl) rfl ?_
      refine v_geti (pc := 4) h ci0 (C_hd hr) (Nat.le_of_ble_eq_true rfl) (j := 0) wF_X0_9 rfl (dk dt_X0_busyEnd 4 rfl) ?_
      refine v_icmp_ge (pc := 7) h 28 (dk dt_X0_busyEnd 5 rfl) rfl (by omega) (fun c7 => ?_) (fun c7 => ?_)
      ·
        refine v_iload_n (pc := 28) h (dk dt_X0_busyEnd 14 rfl) rfl ?_
        exact v_iret (pc := 29) h r (dk dt_X0_busyEnd 15 rfl) (Nat.le_of_ble_eq_true rfl) (Nat.le_of_ble_eq_true rfl) ⟨by rw [e, bEnd], rfl⟩
      ·
        exact absurd c7 (by omega)
    | succ d ih =>
      intro i hi e
      have hg := hs.2 i (by omega)
      refine v_iload_n (pc := 2) h (dk dt_X0_busyEnd 2 rfl) rfl ?_
      refine v_aload_n (pc := 3) h (dk dt_X0_busyEnd 3 rfl) rfl ?_
      refine v_geti (pc := 4) h ci0 (C_hd hr) (Nat.le_of_ble_eq_true rfl) (j := 0) wF_X0_9 rfl (dk dt_X0_busyEnd 4 rfl) ?_
      refine v_icmp_ge (pc := 7) h 28 (dk dt_X0_busyEnd 5 rfl) rfl (by omega) (fun c7 => ?_) (fun c7 => ?_)
      ·
        exact absurd c7 (by omega)
      ·
        refine v_aload_n (pc := 10) h (dk dt_X0_busyEnd 6 rfl) rfl ?_
        refine v_getr (pc := 11) h ci0 (C_hd hr) (Nat.le_of_ble_eq_true rfl) (j := 1) wF_X0_20 rfl (dk dt_X0_busyEnd 7 rfl) ?_
        refine v_iload_n (pc := 14) h (dk dt_X0_busyEnd 8 rfl) rfl ?_
        refine v_cVi (pc := 15) h (c_X7_atn h.quiet (C_row hr) (o1 := o + 2) rfl (Nat.le_of_ble_eq_true rfl) (by omega)) kv_X7_at (C_row hr).1 wM_X0_32 rfl rfl (Nat.le_of_ble_eq_true rfl) (RM.of rfl) rfl rfl (dk dt_X0_busyEnd 9 rfl) ?_
        refine v_iconst (pc := 18) h (dk dt_X0_busyEnd 10 rfl) ?_
        refine v_icmp_eq (pc := 19) h 28 (dk dt_X0_busyEnd 11 rfl) rfl (by omega) (fun c19 => ?_) (fun c19 => ?_)
        ·
          refine v_iload_n (pc := 28) h (dk dt_X0_busyEnd 14 rfl) rfl ?_
          exact v_iret (pc := 29) h r (dk dt_X0_busyEnd 15 rfl) (Nat.le_of_ble_eq_true rfl) (Nat.le_of_ble_eq_true rfl) ⟨by rw [e, bEnd, if_pos c19], rfl⟩
        ·
          refine v_iinc (lv' := [(2, _), (0, _), (1, _)]) (pc := 22) h (dk dt_X0_busyEnd 12 rfl) rfl (Nat.le_of_ble_eq_true rfl) rfl ?_
          refine v_goto (pc := 25) h 2 (dk dt_X0_busyEnd 13 rfl) rfl ?_
          exact VV.loc (ih (i + 1) (by omega) (by rw [e, bEnd, if_neg c19])) ⟨rfl, rfl, rfl, trivial⟩
  refine v_iload_n (pc := 0) h (dk dt_X0_busyEnd 0 rfl) rfl ?_
  refine v_istore_n (lv' := [(2, _), (0, _), (1, _)]) (pc := 1) h (dk dt_X0_busyEnd 1 rfl) (Nat.le_of_ble_eq_true rfl) rfl ?_
  exact VV.loc (loop ((μ o 0).toNat - f) f (by omega) rfl) ⟨rfl, rfl, rfl, trivial⟩
theorem c_X0_isSameAs (hst : l.stackTraces = false) {o o' : Nat} (hr : isC o) (hr' : isC o') (hs : okC μ o) (hs' : okC μ o') :
    Ct l B D E yX0_isSameAs (.code yX0_isSameAs cX0_isSameAs 3 (some .boolean)) rm_X0_isSameAs [.ref (pl B o), .ref (pl B o')] μ (ri (if μ o 0 = μ o' 0 ∧ ∀ t : Nat, t < (μ o 0).toNat → μ (o + 2) t = μ (o' + 2) t then 1 else 0) μ) NX := by
  have hb := hs.1
  have hb' := hs'.1
  refine ct_of (own := RX0) (lv := [(0, _), (1, _)]) hst (by decide) rfl rfl (Nat.le_of_ble_eq_true rfl) fun a h r t => ?_
  have loop : ∀ (d i : Nat), i + d = (μ o 0).toNat → μ o 0 = μ o' 0 → (∀ t : Nat, t < i → μ (o + 2) t = μ (o' + 2) t) → VV a B (SP B D E μ) 0 0 15 [(2, iI (i : Int)), (0, .ref (pl B o)), (1, .ref (pl B o'))] [] := by
    intro d
    induction d with
    | zero =>
      intro i hi e q
      refine v_iload_n (pc := 15) h (dk dt_X0_isSameAs 9 rfl) rfl ?_
      refine v_aload_n (pc := 16) h (dk dt_X0_isSameAs 10 rfl) rfl ?_
      refine v_geti (pc := 17) h ci0 (C_hd hr) (Nat.le_of_ble_eq_true rfl) (j := 0) wF_X0_9 rfl (dk dt_X0_isSameAs 11 rfl) ?_
      refine v_icmp_ge (pc := 20) h 50 (dk dt_X0_isSameAs 12 rfl) rfl (by omega) (fun c20 => ?_) (fun c20 => ?_)
      ·
        refine v_iconst (pc := 50) h (dk dt_X0_isSameAs 26 rfl) ?_
        exact v_zret (pc := 51) h r (dk dt_X0_isSameAs 27 rfl) (Nat.le_of_ble_eq_true rfl) (Nat.le_of_ble_eq_true rfl) (by omega) ⟨by rw [if_pos ⟨e, fun t ht => q t (by omega)⟩], rfl⟩
      ·
        exact absurd c20 (by omega)
    | succ d ih =>
      intro i hi e q
      have hg := hs.2 i (by omega)
      have hg' := hs'.2 i (by omega)
      refine v_iload_n (pc := 15) h (dk dt_X0_isSameAs 9 rfl) rfl ?_
      refine v_aload_n (pc := 16) h (dk dt_X0_isSameAs 10 rfl) rfl ?_
      refine v_geti (pc := 17) h ci0 (C_hd hr) (Nat.le_of_ble_eq_true rfl) (j := 0) wF_X0_9 rfl (dk dt_X0_isSameAs 11 rfl) ?_
      refine v_icmp_ge (pc := 20) h 50 (dk dt_X0_isSameAs 12 rfl) rfl (by omega) (fun c20 => ?_) (fun c20 => ?_)
      ·
        exact absurd c20 (by omega)
      ·
        refine v_aload_n (pc := 23) h (dk dt_X0_isSameAs 13 rfl) rfl ?_
        refine v_getr (pc := 24) h ci0 (C_hd hr) (Nat.le_of_ble_eq_true rfl) (j := 1) wF_X0_20 rfl (dk dt_X0_isSameAs 14 rfl) ?_
        refine v_iload_n (pc := 27) h (dk dt_X0_isSameAs 15 rfl) rfl ?_
        refine v_cVi (pc := 28) h (c_X7_atn h.quiet (C_row hr) (o1 := o + 2) rfl (Nat.le_of_ble_eq_true rfl) (by omega)) kv_X7_at (C_row hr).1 wM_X0_32 rfl rfl (Nat.le_of_ble_eq_true rfl) (RM.of rfl) rfl rfl (dk dt_X0_isSameAs 16 rfl) ?_
        refine v_aload_n (pc := 31) h (dk dt_X0_isSameAs 17 rfl) rfl ?_
        refine v_getr (pc := 32) h ci0 (C_hd hr') (Nat.le_of_ble_eq_true rfl) (j := 1) wF_X0_20 rfl (dk dt_X0_isSameAs 18 rfl) ?_
        refine v_iload_n (pc := 35) h (dk dt_X0_isSameAs 19 rfl) rfl ?_
        refine v_cVi (pc := 36) h (c_X7_atn h.quiet (C_row hr') (o1 := o' + 2) rfl (Nat.le_of_ble_eq_true rfl) (by omega)) kv_X7_at (C_row hr').1 wM_X0_32 rfl rfl (Nat.le_of_ble_eq_true rfl) (RM.of rfl) rfl rfl (dk dt_X0_isSameAs 20 rfl) ?_
        refine v_icmp_eq (pc := 39) h 44 (dk dt_X0_isSameAs 21 rfl) rfl (by omega) (fun c39 => ?_) (fun c39 => ?_)
        ·
          refine v_iinc (lv' := [(2, _), (0, _), (1, _)]) (pc := 44) h (dk dt_X0_isSameAs 24 rfl) rfl (Nat.le_of_ble_eq_true rfl) rfl ?_
          refine v_goto (pc := 47) h 15 (dk dt_X0_isSameAs 25 rfl) rfl ?_
          exact VV.loc (ih (i + 1) (by omega) e (fun t ht => by rcases Nat.lt_succ_iff_lt_or_eq.mp ht with z | z; exact q t z; rw [z]; exact c39)) ⟨rfl, rfl, rfl, trivial⟩
        ·
          refine v_iconst (pc := 42) h (dk dt_X0_isSameAs 22 rfl) ?_
          exact v_zret (pc := 43) h r (dk dt_X0_isSameAs 23 rfl) (Nat.le_of_ble_eq_true rfl) (Nat.le_of_ble_eq_true rfl) (by omega) ⟨by rw [if_neg (fun z => c39 (z.2 i (by omega)))], rfl⟩
  refine v_aload_n (pc := 0) h (dk dt_X0_isSameAs 0 rfl) rfl ?_
  refine v_geti (pc := 1) h ci0 (C_hd hr) (Nat.le_of_ble_eq_true rfl) (j := 0) wF_X0_9 rfl (dk dt_X0_isSameAs 1 rfl) ?_
  refine v_aload_n (pc := 4) h (dk dt_X0_isSameAs 2 rfl) rfl ?_
  refine v_geti (pc := 5) h ci0 (C_hd hr') (Nat.le_of_ble_eq_true rfl) (j := 0) wF_X0_9 rfl (dk dt_X0_isSameAs 3 rfl) ?_
  refine v_icmp_eq (pc := 8) h 13 (dk dt_X0_isSameAs 4 rfl) rfl (by omega) (fun c8 => ?_) (fun c8 => ?_)
  ·
    refine v_iconst (pc := 13) h (dk dt_X0_isSameAs 7 rfl) ?_
    refine v_istore_n (lv' := [(2, _), (0, _), (1, _)]) (pc := 14) h (dk dt_X0_isSameAs 8 rfl) (Nat.le_of_ble_eq_true rfl) rfl ?_
    exact VV.loc (loop (μ o 0).toNat 0 (by omega) c8 (fun t ht => absurd ht (by omega))) ⟨rfl, rfl, rfl, trivial⟩
  ·
    refine v_iconst (pc := 11) h (dk dt_X0_isSameAs 5 rfl) ?_
    exact v_zret (pc := 12) h r (dk dt_X0_isSameAs 6 rfl) (Nat.le_of_ble_eq_true rfl) (Nat.le_of_ble_eq_true rfl) (by omega) ⟨by rw [if_neg (fun z => c8 z.1)], rfl⟩
end
end
section
/-! ===== Jobs ===== -/
/-- what is told of n jobs is in order -/
def okT (c l d w x k lo lf lt e : Nat → Int) (n : Int) : Prop :=
  (0 ≤ n ∧ n ≤ 12) ∧ ∀ j : Nat, (j : Int) < n → (0 ≤ c j ∧ c j ≤ 99) ∧ (1 ≤ l j ∧ l j ≤ 30) ∧ (0 ≤ d j ∧ d j ≤ 400) ∧ (1 ≤ w j ∧ w j ≤ 9) ∧ (0 ≤ x j ∧ x j < (2 ^ j : Nat)) ∧ (0 ≤ k j ∧ k j ≤ 3) ∧
    (∀ i : Nat, (i : Int) < k j → (0 ≤ lo (3 * j + i) ∧ lo (3 * j + i) ≤ 2) ∧ 0 ≤ lf (3 * j + i) ∧ lf (3 * j + i) < lt (3 * j + i) ∧ lt (3 * j + i) ≤ l j) ∧
    (∀ i i' : Nat, (i : Int) < k j → (i' : Int) < k j → i ≠ i' → lt (3 * j + i) ≤ lf (3 * j + i') ∨ lt (3 * j + i') ≤ lf (3 * j + i)) ∧ e j = if d j = 0 then 401 else d j
abbrev okJ (μ : Mm) : Prop := okT (μ 3) (μ 5) (μ 7) (μ 9) (μ 11) (μ 13) (μ 15) (μ 17) (μ 19) (μ 2) (μ 1 9)
/-- the number by which a deadline is compared -/
def kyF (d : Nat → Int) : Nat → Int := fun j => if d j = 0 then 401 else d j
theorem okT_ky {c l d w x k lo lf lt e : Nat → Int} {n : Int} (h : okT c l d w x k lo lf lt e n) : okT c l d w x k lo lf lt (kyF d) n := ⟨h.1, fun j hj => by
  obtain ⟨h1, h2, h3, h4, h5, h6, h7, h8, -⟩ := h.2 j hj
  exact ⟨h1, h2, h3, h4, h5, h6, h7, h8, rfl⟩⟩
def lkAt (lo lf lt : Nat → Int) (j : Nat) (bf dn : Int) : Nat → Nat → Int
  | 0, _ => -1
  | c + 1, i => if lf (3 * j + i) ≤ bf ∧ dn < lt (3 * j + i) then lo (3 * j + i) else lkAt lo lf lt j bf dn c (i + 1)
def lRest (k lo lf lt : Nat → Int) (j : Nat) (y : Int) : Nat → Int
  | 0 => 0
  | p + 1 => if ((p % 3 : Nat) : Int) < k (p / 3) ∧ p / 3 ≠ j ∧ lo p = y then (if lRest k lo lf lt j y p < lt p - lf p - 1 then lt p - lf p - 1 else lRest k lo lf lt j y p) else lRest k lo lf lt j y p
def lMost (k lo lf lt : Nat → Int) (n j : Nat) : Nat → Int
  | 0 => 0
  | i + 1 => lMost k lo lf lt n j i + lRest k lo lf lt j (lo (3 * j + i)) (3 * n)
def higF (w : Nat → Int) : Nat → Int × Int
  | 0 => (0, -1)
  | j + 1 => if (higF w j).1 < w j then (w j, (j : Int)) else if w j = (higF w j).1 then ((higF w j).1, -1) else higF w j
def wbtF (c l d : Nat → Int) (a b : Int) : Nat → Int
  | 0 => 0
  | j + 1 => wbtF c l d a b j + (if a ≤ c j ∧ 0 < d j ∧ d j ≤ b then l j else 0)
def fenF (c l d : Nat → Int) (n : Nat) (a : Int) : Nat → Int
  | 0 => -1
  | j + 1 => if (0 < d j ∧ a ≤ c j) ∧ (fenF c l d n a j = -1 ∨ (if a < d j then d j else a) < fenF c l d n a j) ∧ (if a < d j then d j else a) - a < wbtF c l d a (if a < d j then d j else a) n then (if a < d j then d j else a) else fenF c l d n a j
theorem lRest_b {k lo lf lt : Nat → Int} {j : Nat} {y : Int} (h : ∀ p : Nat, ((p % 3 : Nat) : Int) < k (p / 3) → lt p - lf p ≤ 30) : ∀ p : Nat, 0 ≤ lRest k lo lf lt j y p ∧ lRest k lo lf lt j y p ≤ 30 := by
  intro p
  induction p with
  | zero => simp [lRest]
  | succ p ih =>
    simp only [lRest]
    split
    · rename_i hc
      have := h p hc.1
      split <;> omega
    · exact ih
theorem wbtF_b {c l d : Nat → Int} {a b : Int} {n : Nat} (h : ∀ j : Nat, j < n → 0 ≤ l j ∧ l j ≤ 30) : ∀ j : Nat, j ≤ n → 0 ≤ wbtF c l d a b j ∧ wbtF c l d a b j ≤ 30 * j := by
  intro j
  induction j with
  | zero => intro _; simp [wbtF]
  | succ j ih =>
    intro hj
    have h1 := ih (by omega)
    have h2 := h j (by omega)
    simp only [wbtF]
    split <;> omega
theorem higF_b {w : Nat → Int} {n : Nat} (h : ∀ j : Nat, j < n → 1 ≤ w j ∧ w j ≤ 9) : ∀ j : Nat, j ≤ n → (0 ≤ (higF w j).1 ∧ (higF w j).1 ≤ 9) ∧ -1 ≤ (higF w j).2 ∧ (higF w j).2 < j := by
  intro j
  induction j with
  | zero => intro _; simp [higF]
  | succ j ih =>
    intro hj
    have h1 := ih (by omega)
    have h2 := h j (by omega)
    simp only [higF]
    split
    · simp only; omega
    · split
      · simp only; omega
      · omega
theorem fenF_b {c l d : Nat → Int} {n : Nat} {a : Int} (ha : 0 ≤ a ∧ a ≤ 99) (h : ∀ j : Nat, j < n → 0 ≤ d j ∧ d j ≤ 400) : ∀ j : Nat, j ≤ n → -1 ≤ fenF c l d n a j ∧ fenF c l d n a j ≤ 400 := by
  intro j
  induction j with
  | zero => intro _; simp [fenF]
  | succ j ih =>
    intro hj
    have h1 := ih (by omega)
    have h2 := h j (by omega)
    simp only [fenF]
    generalize hto : (if a < d j then d j else a) = to
    have hto2 : 0 ≤ to ∧ to ≤ 400 := by rw [← hto]; split <;> omega
    split
    · omega
    · exact h1
section
variable {l : Launch} {B : Nat} {D : va_G} {E : Nat → ClassId} {μ : Mm}
def mtell (μ : Mm) (c le d w : Int) : Mm := mup (mup (mup (mup (mup (mup (mup (mup μ 3 (μ 1 9).toNat c) 5 (μ 1 9).toNat le) 7 (μ 1 9).toNat d) 2 (μ 1 9).toNat (if d = 0 then 401 else d)) 9 (μ 1 9).toNat w) 11 (μ 1 9).toNat 0) 13 (μ 1 9).toNat 0) 1 9 (μ 1 9 + 1)
theorem c_X1_tell (hst : l.stackTraces = false) (hn : 0 ≤ μ 1 9 ∧ μ 1 9 < 12) {c le d w : Int} (hd : InR d) :
    Ct l B D E yX1_tell (.code yX1_tell cX1_tell 6 (some .int)) rm_X1_tell [.ref (pl B 1), iI c, iI le, iI d, iI w] μ (ri (μ 1 9) (mtell μ c le d w)) NX := by
  refine ct_of (own := RX1) (lv := [(0, _), (1, _), (2, _), (3, _), (4, _)]) hst (by decide) rfl rfl (Nat.le_of_ble_eq_true rfl) fun a h r t => ?_
  refine v_aload_n (pc := 0) h (dk dt_X1_tell 0 rfl) rfl ?_
  refine v_geti (pc := 1) h ci1 sh1 (Nat.le_of_ble_eq_true rfl) (j := 9) wF_X1_47 rfl (dk dt_X1_tell 1 rfl) ?_
  refine v_istore (lv' := [(5, _), (0, _), (1, _), (2, _), (3, _), (4, _)]) (pc := 4) h (dk dt_X1_tell 2 rfl) (Nat.le_of_ble_eq_true rfl) rfl ?_
  refine v_aload_n (pc := 6) h (dk dt_X1_tell 3 rfl) rfl ?_
  refine v_getr (pc := 7) h ci1 sh1 (Nat.le_of_ble_eq_true rfl) (j := 0) wF_X1_14 rfl (dk dt_X1_tell 4 rfl) ?_
  refine v_iload (pc := 10) h (dk dt_X1_tell 5 rfl) rfl ?_
  refine v_iload_n (pc := 12) h (dk dt_X1_tell 6 rfl) rfl ?_
  refine v_cVv (pc := 13) h (c_X7_puti h.quiet jr0 (o1 := 3) rfl (Nat.le_of_ble_eq_true rfl) (by omega)) kv_X7_put jr0.1 wM_X1_51 rfl rfl (Nat.le_of_ble_eq_true rfl) (RM.of rfl) rfl rfl (dk dt_X1_tell 7 rfl) ?_
  refine v_aload_n (pc := 16) h (dk dt_X1_tell 8 rfl) rfl ?_
  refine v_getr (pc := 17) h ci1 sh1 (Nat.le_of_ble_eq_true rfl) (j := 1) wF_X1_20 rfl (dk dt_X1_tell 9 rfl) ?_
  refine v_iload (pc := 20) h (dk dt_X1_tell 10 rfl) rfl ?_
  refine v_iload_n (pc := 22) h (dk dt_X1_tell 11 rfl) rfl ?_
  refine v_cVv (pc := 23) h (c_X7_puti h.quiet jr1 (o1 := 5) rfl (Nat.le_of_ble_eq_true rfl) (by omega)) kv_X7_put jr1.1 wM_X1_51 rfl rfl (Nat.le_of_ble_eq_true rfl) (RM.of rfl) rfl rfl (dk dt_X1_tell 12 rfl) ?_
  refine v_aload_n (pc := 26) h (dk dt_X1_tell 13 rfl) rfl ?_
  refine v_getr (pc := 27) h ci1 sh1 (Nat.le_of_ble_eq_true rfl) (j := 2) wF_X1_23 rfl (dk dt_X1_tell 14 rfl) ?_
  refine v_iload (pc := 30) h (dk dt_X1_tell 15 rfl) rfl ?_
  refine v_iload_n (pc := 32) h (dk dt_X1_tell 16 rfl) rfl ?_
  refine v_cVv (pc := 33) h (c_X7_puti h.quiet jr2 (o1 := 7) rfl (Nat.le_of_ble_eq_true rfl) (by omega)) kv_X7_put jr2.1 wM_X1_51 rfl rfl (Nat.le_of_ble_eq_true rfl) (RM.of rfl) rfl rfl (dk dt_X1_tell 17 rfl) ?_
  refine v_aload_n (pc := 36) h (dk dt_X1_tell 18 rfl) rfl ?_
  refine v_getr (pc := 37) h ci1 sh1 (Nat.le_of_ble_eq_true rfl) (j := 10) wF_X1_26 rfl (dk dt_X1_tell 19 rfl) ?_
  refine v_iload (pc := 40) h (dk dt_X1_tell 20 rfl) rfl ?_
  refine v_iload_n (pc := 42) h (dk dt_X1_tell 21 rfl) rfl ?_
  refine v_if_ne (pc := 43) h 52 (dk dt_X1_tell 22 rfl) rfl (by omega) (fun c43 => ?_) (fun c43 => ?_)
  ·
    refine v_iload_n (pc := 52) h (dk dt_X1_tell 25 rfl) rfl ?_
    refine v_cVv (pc := 53) h (c_X7_puti h.quiet jr9 (o1 := 2) rfl (Nat.le_of_ble_eq_true rfl) (by omega)) kv_X7_put jr9.1 wM_X1_51 rfl rfl (Nat.le_of_ble_eq_true rfl) (RM.of rfl) rfl rfl (dk dt_X1_tell 26 rfl) ?_
    refine v_aload_n (pc := 56) h (dk dt_X1_tell 27 rfl) rfl ?_
    refine v_getr (pc := 57) h ci1 sh1 (Nat.le_of_ble_eq_true rfl) (j := 3) wF_X1_29 rfl (dk dt_X1_tell 28 rfl) ?_
    refine v_iload (pc := 60) h (dk dt_X1_tell 29 rfl) rfl ?_
    refine v_iload (pc := 62) h (dk dt_X1_tell 30 rfl) rfl ?_
    refine v_cVv (pc := 64) h (c_X7_puti h.quiet jr3 (o1 := 9) rfl (Nat.le_of_ble_eq_true rfl) (by omega)) kv_X7_put jr3.1 wM_X1_51 rfl rfl (Nat.le_of_ble_eq_true rfl) (RM.of rfl) rfl rfl (dk dt_X1_tell 31 rfl) ?_
    refine v_aload_n (pc := 67) h (dk dt_X1_tell 32 rfl) rfl ?_
    refine v_getr (pc := 68) h ci1 sh1 (Nat.le_of_ble_eq_true rfl) (j := 4) wF_X1_32 rfl (dk dt_X1_tell 33 rfl) ?_
    refine v_iload (pc := 71) h (dk dt_X1_tell 34 rfl) rfl ?_
    refine v_iconst (pc := 73) h (dk dt_X1_tell 35 rfl) ?_
    refine v_cVv (pc := 74) h (c_X7_puti h.quiet jr4 (o1 := 11) rfl (Nat.le_of_ble_eq_true rfl) (by omega)) kv_X7_put jr4.1 wM_X1_51 rfl rfl (Nat.le_of_ble_eq_true rfl) (RM.of rfl) rfl rfl (dk dt_X1_tell 36 rfl) ?_
    refine v_aload_n (pc := 77) h (dk dt_X1_tell 37 rfl) rfl ?_
    refine v_getr (pc := 78) h ci1 sh1 (Nat.le_of_ble_eq_true rfl) (j := 5) wF_X1_35 rfl (dk dt_X1_tell 38 rfl) ?_
    refine v_iload (pc := 81) h (dk dt_X1_tell 39 rfl) rfl ?_
    refine v_iconst (pc := 83) h (dk dt_X1_tell 40 rfl) ?_
    refine v_cVv (pc := 84) h (c_X7_puti h.quiet jr5 (o1 := 13) rfl (Nat.le_of_ble_eq_true rfl) (by omega)) kv_X7_put jr5.1 wM_X1_51 rfl rfl (Nat.le_of_ble_eq_true rfl) (RM.of rfl) rfl rfl (dk dt_X1_tell 41 rfl) ?_
    refine v_aload_n (pc := 87) h (dk dt_X1_tell 42 rfl) rfl ?_
    refine v_dup (pc := 88) h (dk dt_X1_tell 43 rfl) rfl ?_
    refine v_geti (pc := 89) h ci1 sh1 (Nat.le_of_ble_eq_true rfl) (j := 9) wF_X1_47 rfl (dk dt_X1_tell 44 rfl) ?_
    refine v_iconst (pc := 92) h (dk dt_X1_tell 45 rfl) ?_
    refine v_iadd (pc := 93) h (dk dt_X1_tell 46 rfl) ?_
    refine v_put (pc := 94) h ci1 sh1 (Nat.le_of_ble_eq_true rfl) (j := 9) wF_X1_47 rfl rfl rfl rfl (dk dt_X1_tell 47 rfl) ?_
    refine v_iload (pc := 97) h (dk dt_X1_tell 48 rfl) rfl ?_
    exact v_iret (pc := 99) h r (dk dt_X1_tell 49 rfl) (Nat.le_of_ble_eq_true rfl) (Nat.le_of_ble_eq_true rfl) ⟨rfl, by unfold mtell; first | rw [if_pos c43] | rw [if_neg c43]⟩
  ·
    refine v_sipush (pc := 46) h (dk dt_X1_tell 23 rfl) rfl ?_
    refine v_goto (pc := 49) h 53 (dk dt_X1_tell 24 rfl) rfl ?_
    refine v_cVv (pc := 53) h (c_X7_puti h.quiet jr9 (o1 := 2) rfl (Nat.le_of_ble_eq_true rfl) (by omega)) kv_X7_put jr9.1 wM_X1_51 rfl rfl (Nat.le_of_ble_eq_true rfl) (RM.of rfl) rfl rfl (dk dt_X1_tell 26 rfl) ?_
    refine v_aload_n (pc := 56) h (dk dt_X1_tell 27 rfl) rfl ?_
    refine v_getr (pc := 57) h ci1 sh1 (Nat.le_of_ble_eq_true rfl) (j := 3) wF_X1_29 rfl (dk dt_X1_tell 28 rfl) ?_
    refine v_iload (pc := 60) h (dk dt_X1_tell 29 rfl) rfl ?_
    refine v_iload (pc := 62) h (dk dt_X1_tell 30 rfl) rfl ?_
    refine v_cVv (pc := 64) h (c_X7_puti h.quiet jr3 (o1 := 9) rfl (Nat.le_of_ble_eq_true rfl) (by omega)) kv_X7_put jr3.1 wM_X1_51 rfl rfl (Nat.le_of_ble_eq_true rfl) (RM.of rfl) rfl rfl (dk dt_X1_tell 31 rfl) ?_
    refine v_aload_n (pc := 67) h (dk dt_X1_tell 32 rfl) rfl ?_
    refine v_getr (pc := 68) h ci1 sh1 (Nat.le_of_ble_eq_true rfl) (j := 4) wF_X1_32 rfl (dk dt_X1_tell 33 rfl) ?_
    refine v_iload (pc := 71) h (dk dt_X1_tell 34 rfl) rfl ?_
    refine v_iconst (pc := 73) h (dk dt_X1_tell 35 rfl) ?_
    refine v_cVv (pc := 74) h (c_X7_puti h.quiet jr4 (o1 := 11) rfl (Nat.le_of_ble_eq_true rfl) (by omega)) kv_X7_put jr4.1 wM_X1_51 rfl rfl (Nat.le_of_ble_eq_true rfl) (RM.of rfl) rfl rfl (dk dt_X1_tell 36 rfl) ?_
    refine v_aload_n (pc := 77) h (dk dt_X1_tell 37 rfl) rfl ?_
    refine v_getr (pc := 78) h ci1 sh1 (Nat.le_of_ble_eq_true rfl) (j := 5) wF_X1_35 rfl (dk dt_X1_tell 38 rfl) ?_
    refine v_iload (pc := 81) h (dk dt_X1_tell 39 rfl) rfl ?_
    refine v_iconst (pc := 83) h (dk dt_X1_tell 40 rfl) ?_
    refine v_cVv (pc := 84) h (c_X7_puti h.quiet jr5 (o1 := 13) rfl (Nat.le_of_ble_eq_true rfl) (by omega)) kv_X7_put jr5.1 wM_X1_51 rfl rfl (Nat.le_of_ble_eq_true rfl) (RM.of rfl) rfl rfl (dk dt_X1_tell 41 rfl) ?_
    refine v_aload_n (pc := 87) h (dk dt_X1_tell 42 rfl) rfl ?_
    refine v_dup (pc := 88) h (dk dt_X1_tell 43 rfl) rfl ?_
    refine v_geti (pc := 89) h ci1 sh1 (Nat.le_of_ble_eq_true rfl) (j := 9) wF_X1_47 rfl (dk dt_X1_tell 44 rfl) ?_
    refine v_iconst (pc := 92) h (dk dt_X1_tell 45 rfl) ?_
    refine v_iadd (pc := 93) h (dk dt_X1_tell 46 rfl) ?_
    refine v_put (pc := 94) h ci1 sh1 (Nat.le_of_ble_eq_true rfl) (j := 9) wF_X1_47 rfl rfl rfl rfl (dk dt_X1_tell 47 rfl) ?_
    refine v_iload (pc := 97) h (dk dt_X1_tell 48 rfl) rfl ?_
    exact v_iret (pc := 99) h r (dk dt_X1_tell 49 rfl) (Nat.le_of_ble_eq_true rfl) (Nat.le_of_ble_eq_true rfl) ⟨rfl, by unfold mtell; first | rw [if_pos c43] | rw [if_neg c43]⟩
theorem c_X1_someWait (hst : l.stackTraces = false) (hs : okJ μ) :
    Ct l B D E yX1_someWait (.code yX1_someWait cX1_someWait 2 (some .boolean)) rm_X1_someWait [.ref (pl B 1)] μ (ri (if ∃ j : Nat, j < (μ 1 9).toNat ∧ μ 11 j ≠ 0 then 1 else 0) μ) NX := by
  have hb := hs.1
  refine ct_of (own := RX1) (lv := [(0, _)]) hst (by decide) rfl rfl (Nat.le_of_ble_eq_true rfl) fun a h r t => ?_
  have loop : ∀ (d i : Nat), i + d = (μ 1 9).toNat → (∀ t : Nat, t < i → μ 11 t = 0) → VV a B (SP B D E μ) 0 0 2 [(1, iI (i : Int)), (0, .ref (pl B 1))] [] := by
    intro d
    induction d with
    | zero =>
      intro i hi q
      refine v_iload_n (pc := 2) h (dk dt_X1_someWait 2 rfl) rfl ?_
      refine v_aload_n (pc := 3) h (dk dt_X1_someWait 3 rfl) rfl ?_
      refine v_geti (pc := 4) h ci1 sh1 (Nat.le_of_ble_eq_true rfl) (j := 9) wF_X1_47 rfl (dk dt_X1_someWait 4 rfl) ?_
      refine v_icmp_ge (pc := 7) h 29 (dk dt_X1_someWait 5 rfl) rfl (by omega) (fun c7 => ?_) (fun c7 => ?_)
      ·
        refine v_iconst (pc := 29) h (dk dt_X1_someWait 15 rfl) ?_
        exact v_zret (pc := 30) h r (dk dt_X1_someWait 16 rfl) (Nat.le_of_ble_eq_true rfl) (Nat.le_of_ble_eq_true rfl) (by omega) ⟨by rw [if_neg (fun z => by obtain ⟨j, h1, h2⟩ := z; exact h2 (q j (by omega)))], rfl⟩
      ·
        exact absurd c7 (by omega)
    | succ d ih =>
      intro i hi q
      have hg := (hs.2 i (by omega)).2.2.2.2.1
      have h2 : 2 ^ i ≤ 2 ^ 11 := Nat.pow_le_pow_right (by decide) (by omega)
      refine v_iload_n (pc := 2) h (dk dt_X1_someWait 2 rfl) rfl ?_
      refine v_aload_n (pc := 3) h (dk dt_X1_someWait 3 rfl) rfl ?_
      refine v_geti (pc := 4) h ci1 sh1 (Nat.le_of_ble_eq_true rfl) (j := 9) wF_X1_47 rfl (dk dt_X1_someWait 4 rfl) ?_
      refine v_icmp_ge (pc := 7) h 29 (dk dt_X1_someWait 5 rfl) rfl (by omega) (fun c7 => ?_) (fun c7 => ?_)
      ·
        exact absurd c7 (by omega)
      ·
        refine v_aload_n (pc := 10) h (dk dt_X1_someWait 6 rfl) rfl ?_
        refine v_getr (pc := 11) h ci1 sh1 (Nat.le_of_ble_eq_true rfl) (j := 4) wF_X1_32 rfl (dk dt_X1_someWait 7 rfl) ?_
        refine v_iload_n (pc := 14) h (dk dt_X1_someWait 8 rfl) rfl ?_
        refine v_cVi (pc := 15) h (c_X7_atn h.quiet jr4 (o1 := 11) rfl (Nat.le_of_ble_eq_true rfl) (by omega)) kv_X7_at jr4.1 wM_X1_55 rfl rfl (Nat.le_of_ble_eq_true rfl) (RM.of rfl) rfl rfl (dk dt_X1_someWait 9 rfl) ?_
        refine v_if_eq (pc := 18) h 23 (dk dt_X1_someWait 10 rfl) rfl (by omega) (fun c18 => ?_) (fun c18 => ?_)
        ·
          refine v_iinc (lv' := [(1, _), (0, _)]) (pc := 23) h (dk dt_X1_someWait 13 rfl) rfl (Nat.le_of_ble_eq_true rfl) rfl ?_
          refine v_goto (pc := 26) h 2 (dk dt_X1_someWait 14 rfl) rfl ?_
          exact VV.loc (ih (i + 1) (by omega) (fun t ht => by rcases Nat.lt_succ_iff_lt_or_eq.mp ht with z | z; exact q t z; rw [z]; exact c18)) ⟨rfl, rfl, trivial⟩
        ·
          refine v_iconst (pc := 21) h (dk dt_X1_someWait 11 rfl) ?_
          exact v_zret (pc := 22) h r (dk dt_X1_someWait 12 rfl) (Nat.le_of_ble_eq_true rfl) (Nat.le_of_ble_eq_true rfl) (by omega) ⟨by rw [if_pos ⟨i, by omega, c18⟩], rfl⟩
  refine v_iconst (pc := 0) h (dk dt_X1_someWait 0 rfl) ?_
  refine v_istore_n (lv' := [(1, _), (0, _)]) (pc := 1) h (dk dt_X1_someWait 1 rfl) (Nat.le_of_ble_eq_true rfl) rfl ?_
  exact VV.loc (loop (μ 1 9).toNat 0 (by omega) (fun t ht => absurd ht (by omega))) ⟨rfl, rfl, trivial⟩
def mstretch (μ : Mm) (j : Nat) (y f t : Int) : Mm := mup (mup (mup (mup μ 15 (3 * j + (μ 13 j).toNat) y) 17 (3 * j + (μ 13 j).toNat) f) 19 (3 * j + (μ 13 j).toNat) t) 13 j (μ 13 j + 1)
theorem c_X1_addStretch (hst : l.stackTraces = false) {j : Nat} (hj : j < 12) (hk : 0 ≤ μ 13 j ∧ μ 13 j < 3) {y f t : Int} :
    Ct l B D E yX1_addStretch (.code yX1_addStretch cX1_addStretch 7 (some .int)) rm_X1_addStretch [.ref (pl B 1), iI (j : Int), iI y, iI f, iI t] μ (ri (μ 13 j + 1) (mstretch μ j y f t)) NX := by
  have e : ((j : Int) * 3 + μ 13 j) = ((3 * j + (μ 13 j).toNat : Nat) : Int) := by omega
  refine ct_of (own := RX1) (lv := [(0, _), (1, _), (2, _), (3, _), (4, _)]) hst (by decide) rfl rfl (Nat.le_of_ble_eq_true rfl) fun a h r t => ?_
  refine v_aload_n (pc := 0) h (dk dt_X1_addStretch 0 rfl) rfl ?_
  refine v_getr (pc := 1) h ci1 sh1 (Nat.le_of_ble_eq_true rfl) (j := 5) wF_X1_35 rfl (dk dt_X1_addStretch 1 rfl) ?_
  refine v_iload_n (pc := 4) h (dk dt_X1_addStretch 2 rfl) rfl ?_
  refine v_cVi (pc := 5) h (c_X7_atn h.quiet jr5 (o1 := 13) rfl (Nat.le_of_ble_eq_true rfl) (by omega)) kv_X7_at jr5.1 wM_X1_55 rfl rfl (Nat.le_of_ble_eq_true rfl) (RM.of rfl) rfl rfl (dk dt_X1_addStretch 3 rfl) ?_
  refine v_istore (lv' := [(5, _), (0, _), (1, _), (2, _), (3, _), (4, _)]) (pc := 8) h (dk dt_X1_addStretch 4 rfl) (Nat.le_of_ble_eq_true rfl) rfl ?_
  refine v_iload_n (pc := 10) h (dk dt_X1_addStretch 5 rfl) rfl ?_
  refine v_iconst (pc := 11) h (dk dt_X1_addStretch 6 rfl) ?_
  refine v_imul (pc := 12) h (dk dt_X1_addStretch 7 rfl) ?_
  refine v_iload (pc := 13) h (dk dt_X1_addStretch 8 rfl) rfl ?_
  refine v_iadd (pc := 15) h (dk dt_X1_addStretch 9 rfl) ?_
  rw [e]
  refine v_istore (lv' := [(6, _), (5, _), (0, _), (1, _), (2, _), (3, _), (4, _)]) (pc := 16) h (dk dt_X1_addStretch 10 rfl) (Nat.le_of_ble_eq_true rfl) rfl ?_
  refine v_aload_n (pc := 18) h (dk dt_X1_addStretch 11 rfl) rfl ?_
  refine v_getr (pc := 19) h ci1 sh1 (Nat.le_of_ble_eq_true rfl) (j := 6) wF_X1_38 rfl (dk dt_X1_addStretch 12 rfl) ?_
  refine v_iload (pc := 22) h (dk dt_X1_addStretch 13 rfl) rfl ?_
  refine v_iload_n (pc := 24) h (dk dt_X1_addStretch 14 rfl) rfl ?_
  refine v_cVv (pc := 25) h (c_X7_putn h.quiet jr6 (o1 := 15) rfl (Nat.le_of_ble_eq_true rfl) (by omega)) kv_X7_put jr6.1 wM_X1_51 rfl rfl (Nat.le_of_ble_eq_true rfl) (RM.of rfl) rfl rfl (dk dt_X1_addStretch 15 rfl) ?_
  refine v_aload_n (pc := 28) h (dk dt_X1_addStretch 16 rfl) rfl ?_
  refine v_getr (pc := 29) h ci1 sh1 (Nat.le_of_ble_eq_true rfl) (j := 7) wF_X1_41 rfl (dk dt_X1_addStretch 17 rfl) ?_
  refine v_iload (pc := 32) h (dk dt_X1_addStretch 18 rfl) rfl ?_
  refine v_iload_n (pc := 34) h (dk dt_X1_addStretch 19 rfl) rfl ?_
  refine v_cVv (pc := 35) h (c_X7_putn h.quiet jr7 (o1 := 17) rfl (Nat.le_of_ble_eq_true rfl) (by omega)) kv_X7_put jr7.1 wM_X1_51 rfl rfl (Nat.le_of_ble_eq_true rfl) (RM.of rfl) rfl rfl (dk dt_X1_addStretch 20 rfl) ?_
  refine v_aload_n (pc := 38) h (dk dt_X1_addStretch 21 rfl) rfl ?_
  refine v_getr (pc := 39) h ci1 sh1 (Nat.le_of_ble_eq_true rfl) (j := 8) wF_X1_44 rfl (dk dt_X1_addStretch 22 rfl) ?_
  refine v_iload (pc := 42) h (dk dt_X1_addStretch 23 rfl) rfl ?_
  refine v_iload (pc := 44) h (dk dt_X1_addStretch 24 rfl) rfl ?_
  refine v_cVv (pc := 46) h (c_X7_putn h.quiet jr8 (o1 := 19) rfl (Nat.le_of_ble_eq_true rfl) (by omega)) kv_X7_put jr8.1 wM_X1_51 rfl rfl (Nat.le_of_ble_eq_true rfl) (RM.of rfl) rfl rfl (dk dt_X1_addStretch 25 rfl) ?_
  refine v_aload_n (pc := 49) h (dk dt_X1_addStretch 26 rfl) rfl ?_
  refine v_getr (pc := 50) h ci1 sh1 (Nat.le_of_ble_eq_true rfl) (j := 5) wF_X1_35 rfl (dk dt_X1_addStretch 27 rfl) ?_
  refine v_iload_n (pc := 53) h (dk dt_X1_addStretch 28 rfl) rfl ?_
  refine v_iload (pc := 54) h (dk dt_X1_addStretch 29 rfl) rfl ?_
  refine v_iconst (pc := 56) h (dk dt_X1_addStretch 30 rfl) ?_
  refine v_iadd (pc := 57) h (dk dt_X1_addStretch 31 rfl) ?_
  refine v_cVv (pc := 58) h (c_X7_putn h.quiet jr5 (o1 := 13) rfl (Nat.le_of_ble_eq_true rfl) (by omega)) kv_X7_put jr5.1 wM_X1_51 rfl rfl (Nat.le_of_ble_eq_true rfl) (RM.of rfl) rfl rfl (dk dt_X1_addStretch 32 rfl) ?_
  refine v_iload (pc := 61) h (dk dt_X1_addStretch 33 rfl) rfl ?_
  refine v_iconst (pc := 63) h (dk dt_X1_addStretch 34 rfl) ?_
  refine v_iadd (pc := 64) h (dk dt_X1_addStretch 35 rfl) ?_
  exact v_iret (pc := 65) h r (dk dt_X1_addStretch 36 rfl) (Nat.le_of_ble_eq_true rfl) (Nat.le_of_ble_eq_true rfl) ⟨rfl, rfl⟩
theorem c_X1_overlaps (hst : l.stackTraces = false) (hs : okJ μ) {j : Nat} (hj : (j : Int) < μ 1 9) {f u : Int} (hf : InR f ∧ InR u) :
    Ct l B D E yX1_overlaps (.code yX1_overlaps cX1_overlaps 6 (some .boolean)) rm_X1_overlaps [.ref (pl B 1), iI (j : Int), iI f, iI u] μ (ri (if ∃ i : Nat, i < (μ 13 j).toNat ∧ f < μ 19 (3 * j + i) ∧ μ 17 (3 * j + i) < u then 1 else 0) μ) NX := by
  have hb := hs.1
  have hq := hs.2 j hj
  refine ct_of (own := RX1) (lv := [(0, _), (1, _), (2, _), (3, _)]) hst (by decide) rfl rfl (Nat.le_of_ble_eq_true rfl) fun a h r t => ?_
  have loop : ∀ (d i : Nat), i + d = (μ 13 j).toNat → (∀ z : Nat, z < i → ¬ (f < μ 19 (3 * j + z) ∧ μ 17 (3 * j + z) < u)) → VV a B (SP B D E μ) 0 0 8 [(5, iI (i : Int)), (4, iI ((3 * j : Nat) : Int)), (0, .ref (pl B 1)), (1, iI (j : Int)), (2, iI f), (3, iI u)] [] := by
    intro d
    induction d with
    | zero =>
      intro i hi q
      refine v_iload (pc := 8) h (dk dt_X1_overlaps 6 rfl) rfl ?_
      refine v_aload_n (pc := 10) h (dk dt_X1_overlaps 7 rfl) rfl ?_
      refine v_getr (pc := 11) h ci1 sh1 (Nat.le_of_ble_eq_true rfl) (j := 5) wF_X1_35 rfl (dk dt_X1_overlaps 8 rfl) ?_
      refine v_iload_n (pc := 14) h (dk dt_X1_overlaps 9 rfl) rfl ?_
      refine v_cVi (pc := 15) h (c_X7_atn h.quiet jr5 (o1 := 13) rfl (Nat.le_of_ble_eq_true rfl) (by omega)) kv_X7_at jr5.1 wM_X1_55 rfl rfl (Nat.le_of_ble_eq_true rfl) (RM.of rfl) rfl rfl (dk dt_X1_overlaps 10 rfl) ?_
      refine v_icmp_ge (pc := 18) h 61 (dk dt_X1_overlaps 11 rfl) rfl (by omega) (fun c18 => ?_) (fun c18 => ?_)
      ·
        refine v_iconst (pc := 61) h (dk dt_X1_overlaps 32 rfl) ?_
        exact v_zret (pc := 62) h r (dk dt_X1_overlaps 33 rfl) (Nat.le_of_ble_eq_true rfl) (Nat.le_of_ble_eq_true rfl) (by omega) ⟨by rw [if_neg (fun z => by obtain ⟨x, h1, h2⟩ := z; exact q x (by omega) h2)], rfl⟩
      ·
        exact absurd c18 (by omega)
    | succ d ih =>
      intro i hi q
      have hg := hq.2.2.2.2.2.2.1 i (by omega)
      have e : (((3 * j : Nat) : Int) + (i : Int)) = ((3 * j + i : Nat) : Int) := by omega
      refine v_iload (pc := 8) h (dk dt_X1_overlaps 6 rfl) rfl ?_
      refine v_aload_n (pc := 10) h (dk dt_X1_overlaps 7 rfl) rfl ?_
      refine v_getr (pc := 11) h ci1 sh1 (Nat.le_of_ble_eq_true rfl) (j := 5) wF_X1_35 rfl (dk dt_X1_overlaps 8 rfl) ?_
      refine v_iload_n (pc := 14) h (dk dt_X1_overlaps 9 rfl) rfl ?_
      refine v_cVi (pc := 15) h (c_X7_atn h.quiet jr5 (o1 := 13) rfl (Nat.le_of_ble_eq_true rfl) (by omega)) kv_X7_at jr5.1 wM_X1_55 rfl rfl (Nat.le_of_ble_eq_true rfl) (RM.of rfl) rfl rfl (dk dt_X1_overlaps 10 rfl) ?_
      refine v_icmp_ge (pc := 18) h 61 (dk dt_X1_overlaps 11 rfl) rfl (by omega) (fun c18 => ?_) (fun c18 => ?_)
      ·
        exact absurd c18 (by omega)
      ·
        refine v_iload_n (pc := 21) h (dk dt_X1_overlaps 12 rfl) rfl ?_
        refine v_aload_n (pc := 22) h (dk dt_X1_overlaps 13 rfl) rfl ?_
        refine v_getr (pc := 23) h ci1 sh1 (Nat.le_of_ble_eq_true rfl) (j := 8) wF_X1_44 rfl (dk dt_X1_overlaps 14 rfl) ?_
        refine v_iload (pc := 26) h (dk dt_X1_overlaps 15 rfl) rfl ?_
        refine v_iload (pc := 28) h (dk dt_X1_overlaps 16 rfl) rfl ?_
        refine v_iadd (pc := 30) h (dk dt_X1_overlaps 17 rfl) ?_
        rw [e]
        refine v_cVi (pc := 31) h (c_X7_atn h.quiet jr8 (o1 := 19) rfl (Nat.le_of_ble_eq_true rfl) (by omega)) kv_X7_at jr8.1 wM_X1_55 rfl rfl (Nat.le_of_ble_eq_true rfl) (RM.of rfl) rfl rfl (dk dt_X1_overlaps 18 rfl) ?_
        refine v_icmp_ge (pc := 34) h 55 (dk dt_X1_overlaps 19 rfl) rfl (by omega) (fun c34 => ?_) (fun c34 => ?_)
        ·
          refine v_iinc (lv' := [(5, _), (4, _), (0, _), (1, _), (2, _), (3, _)]) (pc := 55) h (dk dt_X1_overlaps 30 rfl) rfl (Nat.le_of_ble_eq_true rfl) rfl ?_
          refine v_goto (pc := 58) h 8 (dk dt_X1_overlaps 31 rfl) rfl ?_
          exact VV.loc (ih (i + 1) (by omega) (fun x hx => by rcases Nat.lt_succ_iff_lt_or_eq.mp hx with z | z; exact q x z; rw [z]; omega)) ⟨rfl, rfl, rfl, rfl, rfl, rfl, trivial⟩
        ·
          refine v_aload_n (pc := 37) h (dk dt_X1_overlaps 20 rfl) rfl ?_
          refine v_getr (pc := 38) h ci1 sh1 (Nat.le_of_ble_eq_true rfl) (j := 7) wF_X1_41 rfl (dk dt_X1_overlaps 21 rfl) ?_
          refine v_iload (pc := 41) h (dk dt_X1_overlaps 22 rfl) rfl ?_
          refine v_iload (pc := 43) h (dk dt_X1_overlaps 23 rfl) rfl ?_
          refine v_iadd (pc := 45) h (dk dt_X1_overlaps 24 rfl) ?_
          rw [e]
          refine v_cVi (pc := 46) h (c_X7_atn h.quiet jr7 (o1 := 17) rfl (Nat.le_of_ble_eq_true rfl) (by omega)) kv_X7_at jr7.1 wM_X1_55 rfl rfl (Nat.le_of_ble_eq_true rfl) (RM.of rfl) rfl rfl (dk dt_X1_overlaps 25 rfl) ?_
          refine v_iload_n (pc := 49) h (dk dt_X1_overlaps 26 rfl) rfl ?_
          refine v_icmp_ge (pc := 50) h 55 (dk dt_X1_overlaps 27 rfl) rfl (by omega) (fun c50 => ?_) (fun c50 => ?_)
          ·
            refine v_iinc (lv' := [(5, _), (4, _), (0, _), (1, _), (2, _), (3, _)]) (pc := 55) h (dk dt_X1_overlaps 30 rfl) rfl (Nat.le_of_ble_eq_true rfl) rfl ?_
            refine v_goto (pc := 58) h 8 (dk dt_X1_overlaps 31 rfl) rfl ?_
            exact VV.loc (ih (i + 1) (by omega) (fun x hx => by rcases Nat.lt_succ_iff_lt_or_eq.mp hx with z | z; exact q x z; rw [z]; omega)) ⟨rfl, rfl, rfl, rfl, rfl, rfl, trivial⟩
          ·
            refine v_iconst (pc := 53) h (dk dt_X1_overlaps 28 rfl) ?_
            exact v_zret (pc := 54) h r (dk dt_X1_overlaps 29 rfl) (Nat.le_of_ble_eq_true rfl) (Nat.le_of_ble_eq_true rfl) (by omega) ⟨by rw [if_pos ⟨i, by omega, c34, c50⟩], rfl⟩
  refine v_iload_n (pc := 0) h (dk dt_X1_overlaps 0 rfl) rfl ?_
  refine v_iconst (pc := 1) h (dk dt_X1_overlaps 1 rfl) ?_
  refine v_imul (pc := 2) h (dk dt_X1_overlaps 2 rfl) ?_
  refine v_istore (lv' := [(4, _), (0, _), (1, _), (2, _), (3, _)]) (pc := 3) h (dk dt_X1_overlaps 3 rfl) (Nat.le_of_ble_eq_true rfl) rfl ?_
  refine v_iconst (pc := 5) h (dk dt_X1_overlaps 4 rfl) ?_
  refine v_istore (lv' := [(5, _), (4, _), (0, _), (1, _), (2, _), (3, _)]) (pc := 6) h (dk dt_X1_overlaps 5 rfl) (Nat.le_of_ble_eq_true rfl) rfl ?_
  exact VV.loc (loop (μ 13 j).toNat 0 (by omega) (fun t ht => absurd ht (by omega))) ⟨rfl, lvI (by omega), rfl, rfl, rfl, rfl, trivial⟩
theorem c_X1_lockAt (hst : l.stackTraces = false) (hs : okJ μ) {j : Nat} (hj : (j : Int) < μ 1 9) {dn b : Int} (hd : 0 ≤ dn ∧ dn ≤ 30) (hb2 : b = 0 ∨ b = 1) :
    Ct l B D E yX1_lockAt (.code yX1_lockAt cX1_lockAt 7 (some .int)) rm_X1_lockAt [.ref (pl B 1), iI (j : Int), iI dn, iI b] μ (ri (lkAt (μ 15) (μ 17) (μ 19) j (dn - b) dn (μ 13 j).toNat 0) μ) NX := by
  have hb := hs.1
  have hq := hs.2 j hj
  refine ct_of (own := RX1) (lv := [(0, _), (1, _), (2, _), (3, _)]) hst (by decide) rfl rfl (Nat.le_of_ble_eq_true rfl) fun a h r t => ?_
  have loop : ∀ (d i : Nat), i + d = (μ 13 j).toNat → lkAt (μ 15) (μ 17) (μ 19) j (dn - b) dn (μ 13 j).toNat 0 = lkAt (μ 15) (μ 17) (μ 19) j (dn - b) dn d i → VV a B (SP B D E μ) 0 0 21 [(6, iI (i : Int)), (5, iI (dn - b)), (4, iI ((3 * j : Nat) : Int)), (0, .ref (pl B 1)), (1, iI (j : Int)), (2, iI dn), (3, iI b)] [] := by
    intro d
    induction d with
    | zero =>
      intro i hi q
      refine v_iload (pc := 21) h (dk dt_X1_lockAt 14 rfl) rfl ?_
      refine v_aload_n (pc := 23) h (dk dt_X1_lockAt 15 rfl) rfl ?_
      refine v_getr (pc := 24) h ci1 sh1 (Nat.le_of_ble_eq_true rfl) (j := 5) wF_X1_35 rfl (dk dt_X1_lockAt 16 rfl) ?_
      refine v_iload_n (pc := 27) h (dk dt_X1_lockAt 17 rfl) rfl ?_
      refine v_cVi (pc := 28) h (c_X7_atn h.quiet jr5 (o1 := 13) rfl (Nat.le_of_ble_eq_true rfl) (by omega)) kv_X7_at jr5.1 wM_X1_55 rfl rfl (Nat.le_of_ble_eq_true rfl) (RM.of rfl) rfl rfl (dk dt_X1_lockAt 18 rfl) ?_
      refine v_icmp_ge (pc := 31) h 86 (dk dt_X1_lockAt 19 rfl) rfl (by omega) (fun c31 => ?_) (fun c31 => ?_)
      ·
        refine v_iconst (pc := 86) h (dk dt_X1_lockAt 45 rfl) ?_
        exact v_iret (pc := 87) h r (dk dt_X1_lockAt 46 rfl) (Nat.le_of_ble_eq_true rfl) (Nat.le_of_ble_eq_true rfl) ⟨by rw [q, lkAt], rfl⟩
      ·
        exact absurd c31 (by omega)
    | succ d ih =>
      intro i hi q
      have hg := hq.2.2.2.2.2.2.1 i (by omega)
      have e : (((3 * j : Nat) : Int) + (i : Int)) = ((3 * j + i : Nat) : Int) := by omega
      refine v_iload (pc := 21) h (dk dt_X1_lockAt 14 rfl) rfl ?_
      refine v_aload_n (pc := 23) h (dk dt_X1_lockAt 15 rfl) rfl ?_
      refine v_getr (pc := 24) h ci1 sh1 (Nat.le_of_ble_eq_true rfl) (j := 5) wF_X1_35 rfl (dk dt_X1_lockAt 16 rfl) ?_
      refine v_iload_n (pc := 27) h (dk dt_X1_lockAt 17 rfl) rfl ?_
      refine v_cVi (pc := 28) h (c_X7_atn h.quiet jr5 (o1 := 13) rfl (Nat.le_of_ble_eq_true rfl) (by omega)) kv_X7_at jr5.1 wM_X1_55 rfl rfl (Nat.le_of_ble_eq_true rfl) (RM.of rfl) rfl rfl (dk dt_X1_lockAt 18 rfl) ?_
      refine v_icmp_ge (pc := 31) h 86 (dk dt_X1_lockAt 19 rfl) rfl (by omega) (fun c31 => ?_) (fun c31 => ?_)
      ·
        exact absurd c31 (by omega)
      ·
        refine v_aload_n (pc := 34) h (dk dt_X1_lockAt 20 rfl) rfl ?_
        refine v_getr (pc := 35) h ci1 sh1 (Nat.le_of_ble_eq_true rfl) (j := 7) wF_X1_41 rfl (dk dt_X1_lockAt 21 rfl) ?_
        refine v_iload (pc := 38) h (dk dt_X1_lockAt 22 rfl) rfl ?_
        refine v_iload (pc := 40) h (dk dt_X1_lockAt 23 rfl) rfl ?_
        refine v_iadd (pc := 42) h (dk dt_X1_lockAt 24 rfl) ?_
        rw [e]
        refine v_cVi (pc := 43) h (c_X7_atn h.quiet jr7 (o1 := 17) rfl (Nat.le_of_ble_eq_true rfl) (by omega)) kv_X7_at jr7.1 wM_X1_55 rfl rfl (Nat.le_of_ble_eq_true rfl) (RM.of rfl) rfl rfl (dk dt_X1_lockAt 25 rfl) ?_
        refine v_iload (pc := 46) h (dk dt_X1_lockAt 26 rfl) rfl ?_
        refine v_icmp_gt (pc := 48) h 80 (dk dt_X1_lockAt 27 rfl) rfl (by omega) (fun c48 => ?_) (fun c48 => ?_)
        ·
          refine v_iinc (lv' := [(6, _), (5, _), (4, _), (0, _), (1, _), (2, _), (3, _)]) (pc := 80) h (dk dt_X1_lockAt 43 rfl) rfl (Nat.le_of_ble_eq_true rfl) rfl ?_
          refine v_goto (pc := 83) h 21 (dk dt_X1_lockAt 44 rfl) rfl ?_
          exact VV.loc (ih (i + 1) (by omega) (by rw [q, lkAt, if_neg (by omega)])) ⟨rfl, rfl, rfl, rfl, rfl, rfl, rfl, trivial⟩
        ·
          refine v_iload_n (pc := 51) h (dk dt_X1_lockAt 28 rfl) rfl ?_
          refine v_aload_n (pc := 52) h (dk dt_X1_lockAt 29 rfl) rfl ?_
          refine v_getr (pc := 53) h ci1 sh1 (Nat.le_of_ble_eq_true rfl) (j := 8) wF_X1_44 rfl (dk dt_X1_lockAt 30 rfl) ?_
          refine v_iload (pc := 56) h (dk dt_X1_lockAt 31 rfl) rfl ?_
          refine v_iload (pc := 58) h (dk dt_X1_lockAt 32 rfl) rfl ?_
          refine v_iadd (pc := 60) h (dk dt_X1_lockAt 33 rfl) ?_
          rw [e]
          refine v_cVi (pc := 61) h (c_X7_atn h.quiet jr8 (o1 := 19) rfl (Nat.le_of_ble_eq_true rfl) (by omega)) kv_X7_at jr8.1 wM_X1_55 rfl rfl (Nat.le_of_ble_eq_true rfl) (RM.of rfl) rfl rfl (dk dt_X1_lockAt 34 rfl) ?_
          refine v_icmp_ge (pc := 64) h 80 (dk dt_X1_lockAt 35 rfl) rfl (by omega) (fun c64 => ?_) (fun c64 => ?_)
          ·
            refine v_iinc (lv' := [(6, _), (5, _), (4, _), (0, _), (1, _), (2, _), (3, _)]) (pc := 80) h (dk dt_X1_lockAt 43 rfl) rfl (Nat.le_of_ble_eq_true rfl) rfl ?_
            refine v_goto (pc := 83) h 21 (dk dt_X1_lockAt 44 rfl) rfl ?_
            exact VV.loc (ih (i + 1) (by omega) (by rw [q, lkAt, if_neg (by omega)])) ⟨rfl, rfl, rfl, rfl, rfl, rfl, rfl, trivial⟩
          ·
            refine v_aload_n (pc := 67) h (dk dt_X1_lockAt 36 rfl) rfl ?_
            refine v_getr (pc := 68) h ci1 sh1 (Nat.le_of_ble_eq_true rfl) (j := 6) wF_X1_38 rfl (dk dt_X1_lockAt 37 rfl) ?_
            refine v_iload (pc := 71) h (dk dt_X1_lockAt 38 rfl) rfl ?_
            refine v_iload (pc := 73) h (dk dt_X1_lockAt 39 rfl) rfl ?_
            refine v_iadd (pc := 75) h (dk dt_X1_lockAt 40 rfl) ?_
            rw [e]
            refine v_cVi (pc := 76) h (c_X7_atn h.quiet jr6 (o1 := 15) rfl (Nat.le_of_ble_eq_true rfl) (by omega)) kv_X7_at jr6.1 wM_X1_55 rfl rfl (Nat.le_of_ble_eq_true rfl) (RM.of rfl) rfl rfl (dk dt_X1_lockAt 41 rfl) ?_
            exact v_iret (pc := 79) h r (dk dt_X1_lockAt 42 rfl) (Nat.le_of_ble_eq_true rfl) (Nat.le_of_ble_eq_true rfl) ⟨by rw [q, lkAt, if_pos (by omega)], rfl⟩
  refine v_iload_n (pc := 0) h (dk dt_X1_lockAt 0 rfl) rfl ?_
  refine v_iconst (pc := 1) h (dk dt_X1_lockAt 1 rfl) ?_
  refine v_imul (pc := 2) h (dk dt_X1_lockAt 2 rfl) ?_
  refine v_istore (lv' := [(4, _), (0, _), (1, _), (2, _), (3, _)]) (pc := 3) h (dk dt_X1_lockAt 3 rfl) (Nat.le_of_ble_eq_true rfl) rfl ?_
  refine v_iload_n (pc := 5) h (dk dt_X1_lockAt 4 rfl) rfl ?_
  refine v_if_eq (pc := 6) h 15 (dk dt_X1_lockAt 5 rfl) rfl (by omega) (fun c6 => ?_) (fun c6 => ?_)
  ·
    refine v_iload_n (pc := 15) h (dk dt_X1_lockAt 10 rfl) rfl ?_
    refine v_istore (lv' := [(5, _), (4, _), (0, _), (1, _), (2, _), (3, _)]) (pc := 16) h (dk dt_X1_lockAt 11 rfl) (Nat.le_of_ble_eq_true rfl) rfl ?_
    refine v_iconst (pc := 18) h (dk dt_X1_lockAt 12 rfl) ?_
    refine v_istore (lv' := [(6, _), (5, _), (4, _), (0, _), (1, _), (2, _), (3, _)]) (pc := 19) h (dk dt_X1_lockAt 13 rfl) (Nat.le_of_ble_eq_true rfl) rfl ?_
    exact VV.loc (loop (μ 13 j).toNat 0 (by omega) rfl) ⟨rfl, lvI (by omega), lvI (by omega), rfl, rfl, rfl, rfl, trivial⟩
  ·
    refine v_iload_n (pc := 9) h (dk dt_X1_lockAt 6 rfl) rfl ?_
    refine v_iconst (pc := 10) h (dk dt_X1_lockAt 7 rfl) ?_
    refine v_isub (pc := 11) h (dk dt_X1_lockAt 8 rfl) ?_
    refine v_goto (pc := 12) h 16 (dk dt_X1_lockAt 9 rfl) rfl ?_
    refine v_istore (lv' := [(5, _), (4, _), (0, _), (1, _), (2, _), (3, _)]) (pc := 16) h (dk dt_X1_lockAt 11 rfl) (Nat.le_of_ble_eq_true rfl) rfl ?_
    refine v_iconst (pc := 18) h (dk dt_X1_lockAt 12 rfl) ?_
    refine v_istore (lv' := [(6, _), (5, _), (4, _), (0, _), (1, _), (2, _), (3, _)]) (pc := 19) h (dk dt_X1_lockAt 13 rfl) (Nat.le_of_ble_eq_true rfl) rfl ?_
    exact VV.loc (loop (μ 13 j).toNat 0 (by omega) rfl) ⟨rfl, lvI (by omega), lvI (by omega), rfl, rfl, rfl, rfl, trivial⟩
theorem c_X1_highest (hst : l.stackTraces = false) (hs : okJ μ) :
    Ct l B D E yX1_highest (.code yX1_highest cX1_highest 5 (some .int)) rm_X1_highest [.ref (pl B 1)] μ (ri (higF (μ 9) (μ 1 9).toNat).2 μ) NX := by
  have hb := hs.1
  have hw : ∀ j : Nat, j < (μ 1 9).toNat → 1 ≤ μ 9 j ∧ μ 9 j ≤ 9 := fun j hj => (hs.2 j (by omega)).2.2.2.1
  refine ct_of (own := RX1) (lv := [(0, _)]) hst (by decide) rfl rfl (Nat.le_of_ble_eq_true rfl) fun a h r t => ?_
  have loop : ∀ (d i : Nat), i + d = (μ 1 9).toNat → VV a B (SP B D E μ) 0 0 6 [(3, iI (i : Int)), (2, iI (higF (μ 9) i).2), (1, iI (higF (μ 9) i).1), (0, .ref (pl B 1))] [] := by
    intro d
    induction d with
    | zero =>
      intro i hi
      refine v_iload_n (pc := 6) h (dk dt_X1_highest 6 rfl) rfl ?_
      refine v_aload_n (pc := 7) h (dk dt_X1_highest 7 rfl) rfl ?_
      refine v_geti (pc := 8) h ci1 sh1 (Nat.le_of_ble_eq_true rfl) (j := 9) wF_X1_47 rfl (dk dt_X1_highest 8 rfl) ?_
      refine v_icmp_ge (pc := 11) h 52 (dk dt_X1_highest 9 rfl) rfl (by omega) (fun c11 => ?_) (fun c11 => ?_)
      ·
        refine v_iload_n (pc := 52) h (dk dt_X1_highest 30 rfl) rfl ?_
        exact v_iret (pc := 53) h r (dk dt_X1_highest 31 rfl) (Nat.le_of_ble_eq_true rfl) (Nat.le_of_ble_eq_true rfl) ⟨by rw [show (μ 1 9).toNat = i by omega], rfl⟩
      ·
        exact absurd c11 (by omega)
    | succ d ih =>
      intro i hi
      have h1 := hw i (by omega)
      have h2 := higF_b hw i (by omega)
      refine v_iload_n (pc := 6) h (dk dt_X1_highest 6 rfl) rfl ?_
      refine v_aload_n (pc := 7) h (dk dt_X1_highest 7 rfl) rfl ?_
      refine v_geti (pc := 8) h ci1 sh1 (Nat.le_of_ble_eq_true rfl) (j := 9) wF_X1_47 rfl (dk dt_X1_highest 8 rfl) ?_
      refine v_icmp_ge (pc := 11) h 52 (dk dt_X1_highest 9 rfl) rfl (by omega) (fun c11 => ?_) (fun c11 => ?_)
      ·
        exact absurd c11 (by omega)
      ·
        refine v_aload_n (pc := 14) h (dk dt_X1_highest 10 rfl) rfl ?_
        refine v_getr (pc := 15) h ci1 sh1 (Nat.le_of_ble_eq_true rfl) (j := 3) wF_X1_29 rfl (dk dt_X1_highest 11 rfl) ?_
        refine v_iload_n (pc := 18) h (dk dt_X1_highest 12 rfl) rfl ?_
        refine v_cVi (pc := 19) h (c_X7_atn h.quiet jr3 (o1 := 9) rfl (Nat.le_of_ble_eq_true rfl) (by omega)) kv_X7_at jr3.1 wM_X1_55 rfl rfl (Nat.le_of_ble_eq_true rfl) (RM.of rfl) rfl rfl (dk dt_X1_highest 13 rfl) ?_
        refine v_istore (lv' := [(4, _), (3, _), (2, _), (1, _), (0, _)]) (pc := 22) h (dk dt_X1_highest 14 rfl) (Nat.le_of_ble_eq_true rfl) rfl ?_
        refine v_iload (pc := 24) h (dk dt_X1_highest 15 rfl) rfl ?_
        refine v_iload_n (pc := 26) h (dk dt_X1_highest 16 rfl) rfl ?_
        refine v_icmp_le (pc := 27) h 38 (dk dt_X1_highest 17 rfl) rfl (by omega) (fun c27 => ?_) (fun c27 => ?_)
        ·
          have e : higF (μ 9) (i + 1) = if μ 9 i = (higF (μ 9) i).1 then ((higF (μ 9) i).1, -1) else higF (μ 9) i := by rw [higF, if_neg (by omega)]
          refine v_iload (pc := 38) h (dk dt_X1_highest 23 rfl) rfl ?_
          refine v_iload_n (pc := 40) h (dk dt_X1_highest 24 rfl) rfl ?_
          refine v_icmp_ne (pc := 41) h 46 (dk dt_X1_highest 25 rfl) rfl (by omega) (fun c41 => ?_) (fun c41 => ?_)
          ·
            rw [if_neg c41] at e
            refine v_iinc (lv' := [(3, _), (4, _), (2, _), (1, _), (0, _)]) (pc := 46) h (dk dt_X1_highest 28 rfl) rfl (Nat.le_of_ble_eq_true rfl) rfl ?_
            refine v_goto (pc := 49) h 6 (dk dt_X1_highest 29 rfl) rfl ?_
            exact VV.loc (ih (i + 1) (by omega)) ⟨rfl, lvI (by rw [e]), lvI (by rw [e]), rfl, trivial⟩
          ·
            rw [if_pos c41] at e
            refine v_iconst (pc := 44) h (dk dt_X1_highest 26 rfl) ?_
            refine v_istore_n (lv' := [(2, _), (4, _), (3, _), (1, _), (0, _)]) (pc := 45) h (dk dt_X1_highest 27 rfl) (Nat.le_of_ble_eq_true rfl) rfl ?_
            refine v_iinc (lv' := [(3, _), (2, _), (4, _), (1, _), (0, _)]) (pc := 46) h (dk dt_X1_highest 28 rfl) rfl (Nat.le_of_ble_eq_true rfl) rfl ?_
            refine v_goto (pc := 49) h 6 (dk dt_X1_highest 29 rfl) rfl ?_
            exact VV.loc (ih (i + 1) (by omega)) ⟨rfl, lvI (by rw [e]), lvI (by rw [e]), rfl, trivial⟩
        ·
          have e : higF (μ 9) (i + 1) = (μ 9 i, (i : Int)) := by rw [higF, if_pos c27]
          refine v_iload (pc := 30) h (dk dt_X1_highest 18 rfl) rfl ?_
          refine v_istore_n (lv' := [(1, _), (4, _), (3, _), (2, _), (0, _)]) (pc := 32) h (dk dt_X1_highest 19 rfl) (Nat.le_of_ble_eq_true rfl) rfl ?_
          refine v_iload_n (pc := 33) h (dk dt_X1_highest 20 rfl) rfl ?_
          refine v_istore_n (lv' := [(2, _), (1, _), (4, _), (3, _), (0, _)]) (pc := 34) h (dk dt_X1_highest 21 rfl) (Nat.le_of_ble_eq_true rfl) rfl ?_
          refine v_goto (pc := 35) h 46 (dk dt_X1_highest 22 rfl) rfl ?_
          refine v_iinc (lv' := [(3, _), (2, _), (1, _), (4, _), (0, _)]) (pc := 46) h (dk dt_X1_highest 28 rfl) rfl (Nat.le_of_ble_eq_true rfl) rfl ?_
          refine v_goto (pc := 49) h 6 (dk dt_X1_highest 29 rfl) rfl ?_
          exact VV.loc (ih (i + 1) (by omega)) ⟨rfl, lvI (by rw [e]), lvI (by rw [e]), rfl, trivial⟩
  refine v_iconst (pc := 0) h (dk dt_X1_highest 0 rfl) ?_
  refine v_istore_n (lv' := [(1, _), (0, _)]) (pc := 1) h (dk dt_X1_highest 1 rfl) (Nat.le_of_ble_eq_true rfl) rfl ?_
  refine v_iconst (pc := 2) h (dk dt_X1_highest 2 rfl) ?_
  refine v_istore_n (lv' := [(2, _), (1, _), (0, _)]) (pc := 3) h (dk dt_X1_highest 3 rfl) (Nat.le_of_ble_eq_true rfl) rfl ?_
  refine v_iconst (pc := 4) h (dk dt_X1_highest 4 rfl) ?_
  refine v_istore_n (lv' := [(3, _), (2, _), (1, _), (0, _)]) (pc := 5) h (dk dt_X1_highest 5 rfl) (Nat.le_of_ble_eq_true rfl) rfl ?_
  exact VV.loc (loop (μ 1 9).toNat 0 (by omega)) ⟨rfl, rfl, rfl, rfl, trivial⟩
theorem c_X1_longestRest (hst : l.stackTraces = false) (hs : okJ μ) {j : Nat} (hj : (j : Int) < μ 1 9) {y : Int} (hy : InR y) :
    Ct l B D E yX1_longestRest (.code yX1_longestRest cX1_longestRest 7 (some .int)) rm_X1_longestRest [.ref (pl B 1), iI (j : Int), iI y] μ (ri (lRest (μ 13) (μ 15) (μ 17) (μ 19) j y (3 * (μ 1 9).toNat)) μ) NX := by
  have hb := hs.1
  refine ct_of (own := RX1) (lv := [(0, _), (1, _), (2, _)]) hst (by decide) rfl rfl (Nat.le_of_ble_eq_true rfl) fun a h r t => ?_
  have loop : ∀ (d i : Nat), i + d = 3 * (μ 1 9).toNat → (0 ≤ lRest (μ 13) (μ 15) (μ 17) (μ 19) j y i ∧ lRest (μ 13) (μ 15) (μ 17) (μ 19) j y i ≤ 30) → VV a B (SP B D E μ) 0 0 5 [(4, iI (i : Int)), (3, iI (lRest (μ 13) (μ 15) (μ 17) (μ 19) j y i)), (0, .ref (pl B 1)), (1, iI (j : Int)), (2, iI y)] [] := by
    intro d
    induction d with
    | zero =>
      intro i hi hr
      refine v_iload (pc := 5) h (dk dt_X1_longestRest 4 rfl) rfl ?_
      refine v_aload_n (pc := 7) h (dk dt_X1_longestRest 5 rfl) rfl ?_
      refine v_geti (pc := 8) h ci1 sh1 (Nat.le_of_ble_eq_true rfl) (j := 9) wF_X1_47 rfl (dk dt_X1_longestRest 6 rfl) ?_
      refine v_iconst (pc := 11) h (dk dt_X1_longestRest 7 rfl) ?_
      refine v_imul (pc := 12) h (dk dt_X1_longestRest 8 rfl) ?_
      refine v_icmp_ge (pc := 13) h 101 (dk dt_X1_longestRest 9 rfl) rfl (by omega) (fun c13 => ?_) (fun c13 => ?_)
      ·
        refine v_iload_n (pc := 101) h (dk dt_X1_longestRest 53 rfl) rfl ?_
        exact v_iret (pc := 102) h r (dk dt_X1_longestRest 54 rfl) (Nat.le_of_ble_eq_true rfl) (Nat.le_of_ble_eq_true rfl) ⟨by rw [show 3 * (μ 1 9).toNat = i by omega], rfl⟩
      ·
        exact absurd c13 (by omega)
    | succ d ih =>
      intro i hi hr
      have hq := hs.2 (i / 3) (by omega)
      have hg := hq.2.2.2.2.2.2.1 (i % 3)
      rw [show 3 * (i / 3) + i % 3 = i by omega] at hg
      refine v_iload (pc := 5) h (dk dt_X1_longestRest 4 rfl) rfl ?_
      refine v_aload_n (pc := 7) h (dk dt_X1_longestRest 5 rfl) rfl ?_
      refine v_geti (pc := 8) h ci1 sh1 (Nat.le_of_ble_eq_true rfl) (j := 9) wF_X1_47 rfl (dk dt_X1_longestRest 6 rfl) ?_
      refine v_iconst (pc := 11) h (dk dt_X1_longestRest 7 rfl) ?_
      refine v_imul (pc := 12) h (dk dt_X1_longestRest 8 rfl) ?_
      refine v_icmp_ge (pc := 13) h 101 (dk dt_X1_longestRest 9 rfl) rfl (by omega) (fun c13 => ?_) (fun c13 => ?_)
      ·
        exact absurd c13 (by omega)
      ·
        refine v_iload (pc := 16) h (dk dt_X1_longestRest 10 rfl) rfl ?_
        refine v_iconst (pc := 18) h (dk dt_X1_longestRest 11 rfl) ?_
        refine v_idiv (pc := 19) h (dk dt_X1_longestRest 12 rfl) (by omega) (by omega) ?_
        rw [show (i : Int) / 3 = ((i / 3 : Nat) : Int) from rfl]
        refine v_istore (lv' := [(5, _), (4, _), (3, _), (0, _), (1, _), (2, _)]) (pc := 20) h (dk dt_X1_longestRest 13 rfl) (Nat.le_of_ble_eq_true rfl) rfl ?_
        refine v_iload (pc := 22) h (dk dt_X1_longestRest 14 rfl) rfl ?_
        refine v_iconst (pc := 24) h (dk dt_X1_longestRest 15 rfl) ?_
        refine v_irem (pc := 25) h (dk dt_X1_longestRest 16 rfl) (by omega) (by omega) ?_
        rw [show (i : Int) % 3 = ((i % 3 : Nat) : Int) from rfl]
        refine v_aload_n (pc := 26) h (dk dt_X1_longestRest 17 rfl) rfl ?_
        refine v_getr (pc := 27) h ci1 sh1 (Nat.le_of_ble_eq_true rfl) (j := 5) wF_X1_35 rfl (dk dt_X1_longestRest 18 rfl) ?_
        refine v_iload (pc := 30) h (dk dt_X1_longestRest 19 rfl) rfl ?_
        refine v_cVi (pc := 32) h (c_X7_atn h.quiet jr5 (o1 := 13) rfl (Nat.le_of_ble_eq_true rfl) (by omega)) kv_X7_at jr5.1 wM_X1_55 rfl rfl (Nat.le_of_ble_eq_true rfl) (RM.of rfl) rfl rfl (dk dt_X1_longestRest 20 rfl) ?_
        refine v_icmp_ge (pc := 35) h 42 (dk dt_X1_longestRest 21 rfl) rfl (by omega) (fun c35 => ?_) (fun c35 => ?_)
        ·
          have d35 : ¬ ((i % 3 : Nat) : Int) < μ 13 (i / 3) := Int.not_lt.mpr c35
          refine v_iconst (pc := 42) h (dk dt_X1_longestRest 24 rfl) ?_
          refine v_istore (lv' := [(6, _), (5, _), (4, _), (3, _), (0, _), (1, _), (2, _)]) (pc := 43) h (dk dt_X1_longestRest 25 rfl) (Nat.le_of_ble_eq_true rfl) rfl ?_
          refine v_iload (pc := 45) h (dk dt_X1_longestRest 26 rfl) rfl ?_
          refine v_if_eq (pc := 47) h 95 (dk dt_X1_longestRest 27 rfl) rfl (by omega) (fun c47 => ?_) (fun c47 => ?_)
          ·
            have e : lRest (μ 13) (μ 15) (μ 17) (μ 19) j y (i + 1) = lRest (μ 13) (μ 15) (μ 17) (μ 19) j y i := by first | exact absurd c47 (by decide) | rw [lRest, if_neg (fun z => d35 z.1)]
            refine v_iinc (lv' := [(4, _), (6, _), (5, _), (3, _), (0, _), (1, _), (2, _)]) (pc := 95) h (dk dt_X1_longestRest 51 rfl) rfl (Nat.le_of_ble_eq_true rfl) rfl ?_
            refine v_goto (pc := 98) h 5 (dk dt_X1_longestRest 52 rfl) rfl ?_
            first
              | exact absurd rfl c47
              | exact VV.loc (ih (i + 1) (by omega) (by rw [e]; first | exact hr | (split <;> omega))) ⟨rfl, lvI e.symm, rfl, rfl, rfl, trivial⟩
          ·
            have d47 : ((i % 3 : Nat) : Int) < μ 13 (i / 3) := by first | exact absurd rfl c47 | exact c35
            refine v_iload (pc := 50) h (dk dt_X1_longestRest 28 rfl) rfl ?_
            refine v_iload_n (pc := 52) h (dk dt_X1_longestRest 29 rfl) rfl ?_
            refine v_icmp_eq (pc := 53) h 95 (dk dt_X1_longestRest 30 rfl) rfl (by omega) (fun c53 => ?_) (fun c53 => ?_)
            ·
              have e : lRest (μ 13) (μ 15) (μ 17) (μ 19) j y (i + 1) = lRest (μ 13) (μ 15) (μ 17) (μ 19) j y i := by rw [lRest, if_neg (fun z => z.2.1 (by omega))]
              refine v_iinc (lv' := [(4, _), (6, _), (5, _), (3, _), (0, _), (1, _), (2, _)]) (pc := 95) h (dk dt_X1_longestRest 51 rfl) rfl (Nat.le_of_ble_eq_true rfl) rfl ?_
              refine v_goto (pc := 98) h 5 (dk dt_X1_longestRest 52 rfl) rfl ?_
              first
                | exact absurd rfl c47
                | exact VV.loc (ih (i + 1) (by omega) (by rw [e]; first | exact hr | (split <;> omega))) ⟨rfl, lvI e.symm, rfl, rfl, rfl, trivial⟩
            ·
              refine v_aload_n (pc := 56) h (dk dt_X1_longestRest 31 rfl) rfl ?_
              refine v_getr (pc := 57) h ci1 sh1 (Nat.le_of_ble_eq_true rfl) (j := 6) wF_X1_38 rfl (dk dt_X1_longestRest 32 rfl) ?_
              refine v_iload (pc := 60) h (dk dt_X1_longestRest 33 rfl) rfl ?_
              refine v_cVi (pc := 62) h (c_X7_atn h.quiet jr6 (o1 := 15) rfl (Nat.le_of_ble_eq_true rfl) (by omega)) kv_X7_at jr6.1 wM_X1_55 rfl rfl (Nat.le_of_ble_eq_true rfl) (RM.of rfl) rfl rfl (dk dt_X1_longestRest 34 rfl) ?_
              refine v_iload_n (pc := 65) h (dk dt_X1_longestRest 35 rfl) rfl ?_
              refine v_icmp_ne (pc := 66) h 95 (dk dt_X1_longestRest 36 rfl) rfl (by omega) (fun c66 => ?_) (fun c66 => ?_)
              ·
                have e : lRest (μ 13) (μ 15) (μ 17) (μ 19) j y (i + 1) = lRest (μ 13) (μ 15) (μ 17) (μ 19) j y i := by rw [lRest, if_neg (fun z => c66 z.2.2)]
                refine v_iinc (lv' := [(4, _), (6, _), (5, _), (3, _), (0, _), (1, _), (2, _)]) (pc := 95) h (dk dt_X1_longestRest 51 rfl) rfl (Nat.le_of_ble_eq_true rfl) rfl ?_
                refine v_goto (pc := 98) h 5 (dk dt_X1_longestRest 52 rfl) rfl ?_
                first
                  | exact absurd rfl c47
                  | exact VV.loc (ih (i + 1) (by omega) (by rw [e]; first | exact hr | (split <;> omega))) ⟨rfl, lvI e.symm, rfl, rfl, rfl, trivial⟩
              ·
                have e : lRest (μ 13) (μ 15) (μ 17) (μ 19) j y (i + 1) = if lRest (μ 13) (μ 15) (μ 17) (μ 19) j y i < μ 19 i - μ 17 i - 1 then μ 19 i - μ 17 i - 1 else lRest (μ 13) (μ 15) (μ 17) (μ 19) j y i := by rw [lRest, if_pos ⟨d47, by omega, c66⟩]
                refine v_iload_n (pc := 69) h (dk dt_X1_longestRest 37 rfl) rfl ?_
                refine v_aload_n (pc := 70) h (dk dt_X1_longestRest 38 rfl) rfl ?_
                refine v_getr (pc := 71) h ci1 sh1 (Nat.le_of_ble_eq_true rfl) (j := 8) wF_X1_44 rfl (dk dt_X1_longestRest 39 rfl) ?_
                refine v_iload (pc := 74) h (dk dt_X1_longestRest 40 rfl) rfl ?_
                refine v_cVi (pc := 76) h (c_X7_atn h.quiet jr8 (o1 := 19) rfl (Nat.le_of_ble_eq_true rfl) (by omega)) kv_X7_at jr8.1 wM_X1_55 rfl rfl (Nat.le_of_ble_eq_true rfl) (RM.of rfl) rfl rfl (dk dt_X1_longestRest 41 rfl) ?_
                refine v_aload_n (pc := 79) h (dk dt_X1_longestRest 42 rfl) rfl ?_
                refine v_getr (pc := 80) h ci1 sh1 (Nat.le_of_ble_eq_true rfl) (j := 7) wF_X1_41 rfl (dk dt_X1_longestRest 43 rfl) ?_
                refine v_iload (pc := 83) h (dk dt_X1_longestRest 44 rfl) rfl ?_
                refine v_cVi (pc := 85) h (c_X7_atn h.quiet jr7 (o1 := 17) rfl (Nat.le_of_ble_eq_true rfl) (by omega)) kv_X7_at jr7.1 wM_X1_55 rfl rfl (Nat.le_of_ble_eq_true rfl) (RM.of rfl) rfl rfl (dk dt_X1_longestRest 45 rfl) ?_
                refine v_isub (pc := 88) h (dk dt_X1_longestRest 46 rfl) ?_
                refine v_iconst (pc := 89) h (dk dt_X1_longestRest 47 rfl) ?_
                refine v_isub (pc := 90) h (dk dt_X1_longestRest 48 rfl) ?_
                refine v_max (pc := 91) h km_max wM_X1_68 (by omega) (Nat.le_of_ble_eq_true rfl) ⟨Nat.le_of_ble_eq_true rfl, Nat.le_of_ble_eq_true rfl, Nat.le_of_ble_eq_true rfl, Nat.le_of_ble_eq_true rfl⟩ (dk dt_X1_longestRest 49 rfl) ?_
                refine v_istore_n (lv' := [(3, _), (6, _), (5, _), (4, _), (0, _), (1, _), (2, _)]) (pc := 94) h (dk dt_X1_longestRest 50 rfl) (Nat.le_of_ble_eq_true rfl) rfl ?_
                refine v_iinc (lv' := [(4, _), (3, _), (6, _), (5, _), (0, _), (1, _), (2, _)]) (pc := 95) h (dk dt_X1_longestRest 51 rfl) rfl (Nat.le_of_ble_eq_true rfl) rfl ?_
                refine v_goto (pc := 98) h 5 (dk dt_X1_longestRest 52 rfl) rfl ?_
                first
                  | exact absurd rfl c47
                  | exact VV.loc (ih (i + 1) (by omega) (by rw [e]; first | exact hr | (split <;> omega))) ⟨rfl, lvI e.symm, rfl, rfl, rfl, trivial⟩
        ·
          have hg := hg c35
          refine v_iconst (pc := 38) h (dk dt_X1_longestRest 22 rfl) ?_
          refine v_goto (pc := 39) h 43 (dk dt_X1_longestRest 23 rfl) rfl ?_
          refine v_istore (lv' := [(6, _), (5, _), (4, _), (3, _), (0, _), (1, _), (2, _)]) (pc := 43) h (dk dt_X1_longestRest 25 rfl) (Nat.le_of_ble_eq_true rfl) rfl ?_
          refine v_iload (pc := 45) h (dk dt_X1_longestRest 26 rfl) rfl ?_
          refine v_if_eq (pc := 47) h 95 (dk dt_X1_longestRest 27 rfl) rfl (by omega) (fun c47 => ?_) (fun c47 => ?_)
          ·
            have e : lRest (μ 13) (μ 15) (μ 17) (μ 19) j y (i + 1) = lRest (μ 13) (μ 15) (μ 17) (μ 19) j y i := by first | exact absurd c47 (by decide) | rw [lRest, if_neg (fun z => d35 z.1)]
            refine v_iinc (lv' := [(4, _), (6, _), (5, _), (3, _), (0, _), (1, _), (2, _)]) (pc := 95) h (dk dt_X1_longestRest 51 rfl) rfl (Nat.le_of_ble_eq_true rfl) rfl ?_
            refine v_goto (pc := 98) h 5 (dk dt_X1_longestRest 52 rfl) rfl ?_
            first
              | exact absurd rfl c47
              | exact VV.loc (ih (i + 1) (by omega) (by rw [e]; first | exact hr | (split <;> omega))) ⟨rfl, lvI e.symm, rfl, rfl, rfl, trivial⟩
          ·
            have d47 : ((i % 3 : Nat) : Int) < μ 13 (i / 3) := by first | exact absurd rfl c47 | exact c35
            refine v_iload (pc := 50) h (dk dt_X1_longestRest 28 rfl) rfl ?_
            refine v_iload_n (pc := 52) h (dk dt_X1_longestRest 29 rfl) rfl ?_
            refine v_icmp_eq (pc := 53) h 95 (dk dt_X1_longestRest 30 rfl) rfl (by omega) (fun c53 => ?_) (fun c53 => ?_)
            ·
              have e : lRest (μ 13) (μ 15) (μ 17) (μ 19) j y (i + 1) = lRest (μ 13) (μ 15) (μ 17) (μ 19) j y i := by rw [lRest, if_neg (fun z => z.2.1 (by omega))]
              refine v_iinc (lv' := [(4, _), (6, _), (5, _), (3, _), (0, _), (1, _), (2, _)]) (pc := 95) h (dk dt_X1_longestRest 51 rfl) rfl (Nat.le_of_ble_eq_true rfl) rfl ?_
              refine v_goto (pc := 98) h 5 (dk dt_X1_longestRest 52 rfl) rfl ?_
              first
                | exact absurd rfl c47
                | exact VV.loc (ih (i + 1) (by omega) (by rw [e]; first | exact hr | (split <;> omega))) ⟨rfl, lvI e.symm, rfl, rfl, rfl, trivial⟩
            ·
              refine v_aload_n (pc := 56) h (dk dt_X1_longestRest 31 rfl) rfl ?_
              refine v_getr (pc := 57) h ci1 sh1 (Nat.le_of_ble_eq_true rfl) (j := 6) wF_X1_38 rfl (dk dt_X1_longestRest 32 rfl) ?_
              refine v_iload (pc := 60) h (dk dt_X1_longestRest 33 rfl) rfl ?_
              refine v_cVi (pc := 62) h (c_X7_atn h.quiet jr6 (o1 := 15) rfl (Nat.le_of_ble_eq_true rfl) (by omega)) kv_X7_at jr6.1 wM_X1_55 rfl rfl (Nat.le_of_ble_eq_true rfl) (RM.of rfl) rfl rfl (dk dt_X1_longestRest 34 rfl) ?_
              refine v_iload_n (pc := 65) h (dk dt_X1_longestRest 35 rfl) rfl ?_
              refine v_icmp_ne (pc := 66) h 95 (dk dt_X1_longestRest 36 rfl) rfl (by omega) (fun c66 => ?_) (fun c66 => ?_)
              ·
                have e : lRest (μ 13) (μ 15) (μ 17) (μ 19) j y (i + 1) = lRest (μ 13) (μ 15) (μ 17) (μ 19) j y i := by rw [lRest, if_neg (fun z => c66 z.2.2)]
                refine v_iinc (lv' := [(4, _), (6, _), (5, _), (3, _), (0, _), (1, _), (2, _)]) (pc := 95) h (dk dt_X1_longestRest 51 rfl) rfl (Nat.le_of_ble_eq_true rfl) rfl ?_
                refine v_goto (pc := 98) h 5 (dk dt_X1_longestRest 52 rfl) rfl ?_
                first
                  | exact absurd rfl c47
                  | exact VV.loc (ih (i + 1) (by omega) (by rw [e]; first | exact hr | (split <;> omega))) ⟨rfl, lvI e.symm, rfl, rfl, rfl, trivial⟩
              ·
                have e : lRest (μ 13) (μ 15) (μ 17) (μ 19) j y (i + 1) = if lRest (μ 13) (μ 15) (μ 17) (μ 19) j y i < μ 19 i - μ 17 i - 1 then μ 19 i - μ 17 i - 1 else lRest (μ 13) (μ 15) (μ 17) (μ 19) j y i := by rw [lRest, if_pos ⟨d47, by omega, c66⟩]
                refine v_iload_n (pc := 69) h (dk dt_X1_longestRest 37 rfl) rfl ?_
                refine v_aload_n (pc := 70) h (dk dt_X1_longestRest 38 rfl) rfl ?_
                refine v_getr (pc := 71) h ci1 sh1 (Nat.le_of_ble_eq_true rfl) (j := 8) wF_X1_44 rfl (dk dt_X1_longestRest 39 rfl) ?_
                refine v_iload (pc := 74) h (dk dt_X1_longestRest 40 rfl) rfl ?_
                refine v_cVi (pc := 76) h (c_X7_atn h.quiet jr8 (o1 := 19) rfl (Nat.le_of_ble_eq_true rfl) (by omega)) kv_X7_at jr8.1 wM_X1_55 rfl rfl (Nat.le_of_ble_eq_true rfl) (RM.of rfl) rfl rfl (dk dt_X1_longestRest 41 rfl) ?_
                refine v_aload_n (pc := 79) h (dk dt_X1_longestRest 42 rfl) rfl ?_
                refine v_getr (pc := 80) h ci1 sh1 (Nat.le_of_ble_eq_true rfl) (j := 7) wF_X1_41 rfl (dk dt_X1_longestRest 43 rfl) ?_
                refine v_iload (pc := 83) h (dk dt_X1_longestRest 44 rfl) rfl ?_
                refine v_cVi (pc := 85) h (c_X7_atn h.quiet jr7 (o1 := 17) rfl (Nat.le_of_ble_eq_true rfl) (by omega)) kv_X7_at jr7.1 wM_X1_55 rfl rfl (Nat.le_of_ble_eq_true rfl) (RM.of rfl) rfl rfl (dk dt_X1_longestRest 45 rfl) ?_
                refine v_isub (pc := 88) h (dk dt_X1_longestRest 46 rfl) ?_
                refine v_iconst (pc := 89) h (dk dt_X1_longestRest 47 rfl) ?_
                refine v_isub (pc := 90) h (dk dt_X1_longestRest 48 rfl) ?_
                refine v_max (pc := 91) h km_max wM_X1_68 (by omega) (Nat.le_of_ble_eq_true rfl) ⟨Nat.le_of_ble_eq_true rfl, Nat.le_of_ble_eq_true rfl, Nat.le_of_ble_eq_true rfl, Nat.le_of_ble_eq_true rfl⟩ (dk dt_X1_longestRest 49 rfl) ?_
                refine v_istore_n (lv' := [(3, _), (6, _), (5, _), (4, _), (0, _), (1, _), (2, _)]) (pc := 94) h (dk dt_X1_longestRest 50 rfl) (Nat.le_of_ble_eq_true rfl) rfl ?_
                refine v_iinc (lv' := [(4, _), (3, _), (6, _), (5, _), (0, _), (1, _), (2, _)]) (pc := 95) h (dk dt_X1_longestRest 51 rfl) rfl (Nat.le_of_ble_eq_true rfl) rfl ?_
                refine v_goto (pc := 98) h 5 (dk dt_X1_longestRest 52 rfl) rfl ?_
                first
                  | exact absurd rfl c47
                  | exact VV.loc (ih (i + 1) (by omega) (by rw [e]; first | exact hr | (split <;> omega))) ⟨rfl, lvI e.symm, rfl, rfl, rfl, trivial⟩
  refine v_iconst (pc := 0) h (dk dt_X1_longestRest 0 rfl) ?_
  refine v_istore_n (lv' := [(3, _), (0, _), (1, _), (2, _)]) (pc := 1) h (dk dt_X1_longestRest 1 rfl) (Nat.le_of_ble_eq_true rfl) rfl ?_
  refine v_iconst (pc := 2) h (dk dt_X1_longestRest 2 rfl) ?_
  refine v_istore (lv' := [(4, _), (3, _), (0, _), (1, _), (2, _)]) (pc := 3) h (dk dt_X1_longestRest 3 rfl) (Nat.le_of_ble_eq_true rfl) rfl ?_
  exact VV.loc (loop (3 * (μ 1 9).toNat) 0 (by omega) (by simp [lRest])) ⟨rfl, rfl, rfl, rfl, rfl, trivial⟩
theorem c_X1_mostKept (hst : l.stackTraces = false) (hs : okJ μ) {j : Nat} (hj : (j : Int) < μ 1 9) :
    Ct l B D E yX1_mostKept (.code yX1_mostKept cX1_mostKept 5 (some .int)) rm_X1_mostKept [.ref (pl B 1), iI (j : Int)] μ (ri (lMost (μ 13) (μ 15) (μ 17) (μ 19) (μ 1 9).toNat j (μ 13 j).toNat) μ) NX := by
  have hb := hs.1
  have hq := hs.2 j hj
  refine ct_of (own := RX1) (lv := [(0, _), (1, _)]) hst (by decide) rfl rfl (Nat.le_of_ble_eq_true rfl) fun a h r t => ?_
  have loop : ∀ (d i : Nat), i + d = (μ 13 j).toNat → VV a B (SP B D E μ) 0 0 9 [(4, iI (i : Int)), (3, iI ((3 * j : Nat) : Int)), (2, iI (lMost (μ 13) (μ 15) (μ 17) (μ 19) (μ 1 9).toNat j i)), (0, .ref (pl B 1)), (1, iI (j : Int))] [] := by
    intro d
    induction d with
    | zero =>
      intro i hi
      refine v_iload (pc := 9) h (dk dt_X1_mostKept 8 rfl) rfl ?_
      refine v_aload_n (pc := 11) h (dk dt_X1_mostKept 9 rfl) rfl ?_
      refine v_getr (pc := 12) h ci1 sh1 (Nat.le_of_ble_eq_true rfl) (j := 5) wF_X1_35 rfl (dk dt_X1_mostKept 10 rfl) ?_
      refine v_iload_n (pc := 15) h (dk dt_X1_mostKept 11 rfl) rfl ?_
      refine v_cVi (pc := 16) h (c_X7_atn h.quiet jr5 (o1 := 13) rfl (Nat.le_of_ble_eq_true rfl) (by omega)) kv_X7_at jr5.1 wM_X1_55 rfl rfl (Nat.le_of_ble_eq_true rfl) (RM.of rfl) rfl rfl (dk dt_X1_mostKept 12 rfl) ?_
      refine v_icmp_ge (pc := 19) h 47 (dk dt_X1_mostKept 13 rfl) rfl (by omega) (fun c19 => ?_) (fun c19 => ?_)
      ·
        refine v_iload_n (pc := 47) h (dk dt_X1_mostKept 28 rfl) rfl ?_
        exact v_iret (pc := 48) h r (dk dt_X1_mostKept 29 rfl) (Nat.le_of_ble_eq_true rfl) (Nat.le_of_ble_eq_true rfl) ⟨by rw [show (μ 13 j).toNat = i by omega], rfl⟩
      ·
        exact absurd c19 (by omega)
    | succ d ih =>
      intro i hi
      have hg := hq.2.2.2.2.2.2.1 i (by omega)
      have e : (((3 * j : Nat) : Int) + (i : Int)) = ((3 * j + i : Nat) : Int) := by omega
      refine v_iload (pc := 9) h (dk dt_X1_mostKept 8 rfl) rfl ?_
      refine v_aload_n (pc := 11) h (dk dt_X1_mostKept 9 rfl) rfl ?_
      refine v_getr (pc := 12) h ci1 sh1 (Nat.le_of_ble_eq_true rfl) (j := 5) wF_X1_35 rfl (dk dt_X1_mostKept 10 rfl) ?_
      refine v_iload_n (pc := 15) h (dk dt_X1_mostKept 11 rfl) rfl ?_
      refine v_cVi (pc := 16) h (c_X7_atn h.quiet jr5 (o1 := 13) rfl (Nat.le_of_ble_eq_true rfl) (by omega)) kv_X7_at jr5.1 wM_X1_55 rfl rfl (Nat.le_of_ble_eq_true rfl) (RM.of rfl) rfl rfl (dk dt_X1_mostKept 12 rfl) ?_
      refine v_icmp_ge (pc := 19) h 47 (dk dt_X1_mostKept 13 rfl) rfl (by omega) (fun c19 => ?_) (fun c19 => ?_)
      ·
        exact absurd c19 (by omega)
      ·
        refine v_iload_n (pc := 22) h (dk dt_X1_mostKept 14 rfl) rfl ?_
        refine v_aload_n (pc := 23) h (dk dt_X1_mostKept 15 rfl) rfl ?_
        refine v_iload_n (pc := 24) h (dk dt_X1_mostKept 16 rfl) rfl ?_
        refine v_aload_n (pc := 25) h (dk dt_X1_mostKept 17 rfl) rfl ?_
        refine v_getr (pc := 26) h ci1 sh1 (Nat.le_of_ble_eq_true rfl) (j := 6) wF_X1_38 rfl (dk dt_X1_mostKept 18 rfl) ?_
        refine v_iload_n (pc := 29) h (dk dt_X1_mostKept 19 rfl) rfl ?_
        refine v_iload (pc := 30) h (dk dt_X1_mostKept 20 rfl) rfl ?_
        refine v_iadd (pc := 32) h (dk dt_X1_mostKept 21 rfl) ?_
        rw [e]
        refine v_cVi (pc := 33) h (c_X7_atn h.quiet jr6 (o1 := 15) rfl (Nat.le_of_ble_eq_true rfl) (by omega)) kv_X7_at jr6.1 wM_X1_55 rfl rfl (Nat.le_of_ble_eq_true rfl) (RM.of rfl) rfl rfl (dk dt_X1_mostKept 22 rfl) ?_
        refine v_cVi (pc := 36) h (c_X1_longestRest h.quiet (by assumption) (by omega) (by omega)) kv_X1_longestRest sh1 wM_X1_64 rfl rfl (Nat.le_of_ble_eq_true rfl) (RM.of rfl) rfl rfl (dk dt_X1_mostKept 23 rfl) ?_
        refine v_iadd (pc := 39) h (dk dt_X1_mostKept 24 rfl) ?_
        refine v_istore_n (lv' := [(2, _), (4, _), (3, _), (0, _), (1, _)]) (pc := 40) h (dk dt_X1_mostKept 25 rfl) (Nat.le_of_ble_eq_true rfl) rfl ?_
        refine v_iinc (lv' := [(4, _), (2, _), (3, _), (0, _), (1, _)]) (pc := 41) h (dk dt_X1_mostKept 26 rfl) rfl (Nat.le_of_ble_eq_true rfl) rfl ?_
        refine v_goto (pc := 44) h 9 (dk dt_X1_mostKept 27 rfl) rfl ?_
        exact VV.loc (ih (i + 1) (by omega)) ⟨rfl, rfl, rfl, rfl, rfl, trivial⟩
  refine v_iconst (pc := 0) h (dk dt_X1_mostKept 0 rfl) ?_
  refine v_istore_n (lv' := [(2, _), (0, _), (1, _)]) (pc := 1) h (dk dt_X1_mostKept 1 rfl) (Nat.le_of_ble_eq_true rfl) rfl ?_
  refine v_iload_n (pc := 2) h (dk dt_X1_mostKept 2 rfl) rfl ?_
  refine v_iconst (pc := 3) h (dk dt_X1_mostKept 3 rfl) ?_
  refine v_imul (pc := 4) h (dk dt_X1_mostKept 4 rfl) ?_
  refine v_istore_n (lv' := [(3, _), (2, _), (0, _), (1, _)]) (pc := 5) h (dk dt_X1_mostKept 5 rfl) (Nat.le_of_ble_eq_true rfl) rfl ?_
  refine v_iconst (pc := 6) h (dk dt_X1_mostKept 6 rfl) ?_
  refine v_istore (lv' := [(4, _), (3, _), (2, _), (0, _), (1, _)]) (pc := 7) h (dk dt_X1_mostKept 7 rfl) (Nat.le_of_ble_eq_true rfl) rfl ?_
  exact VV.loc (loop (μ 13 j).toNat 0 (by omega)) ⟨rfl, lvI (by omega), rfl, rfl, rfl, trivial⟩
theorem c_X1_workBetween (hst : l.stackTraces = false) (hs : okJ μ) {f u : Int} (hf : InR f ∧ InR u) :
    Ct l B D E yX1_workBetween (.code yX1_workBetween cX1_workBetween 6 (some .int)) rm_X1_workBetween [.ref (pl B 1), iI f, iI u] μ (ri (wbtF (μ 3) (μ 5) (μ 7) f u (μ 1 9).toNat) μ) NX := by
  have hb := hs.1
  refine ct_of (own := RX1) (lv := [(0, _), (1, _), (2, _)]) hst (by decide) rfl rfl (Nat.le_of_ble_eq_true rfl) fun a h r t => ?_
  have loop : ∀ (d i : Nat), i + d = (μ 1 9).toNat → VV a B (SP B D E μ) 0 0 5 [(4, iI (i : Int)), (3, iI (wbtF (μ 3) (μ 5) (μ 7) f u i)), (0, .ref (pl B 1)), (1, iI f), (2, iI u)] [] := by
    intro d
    induction d with
    | zero =>
      intro i hi
      refine v_iload (pc := 5) h (dk dt_X1_workBetween 4 rfl) rfl ?_
      refine v_aload_n (pc := 7) h (dk dt_X1_workBetween 5 rfl) rfl ?_
      refine v_geti (pc := 8) h ci1 sh1 (Nat.le_of_ble_eq_true rfl) (j := 9) wF_X1_47 rfl (dk dt_X1_workBetween 6 rfl) ?_
      refine v_icmp_ge (pc := 11) h 67 (dk dt_X1_workBetween 7 rfl) rfl (by omega) (fun c11 => ?_) (fun c11 => ?_)
      ·
        refine v_iload_n (pc := 67) h (dk dt_X1_workBetween 33 rfl) rfl ?_
        exact v_iret (pc := 68) h r (dk dt_X1_workBetween 34 rfl) (Nat.le_of_ble_eq_true rfl) (Nat.le_of_ble_eq_true rfl) ⟨by rw [show (μ 1 9).toNat = i by omega], rfl⟩
      ·
        exact absurd c11 (by omega)
    | succ d ih =>
      intro i hi
      have hq := hs.2 i (by omega)
      refine v_iload (pc := 5) h (dk dt_X1_workBetween 4 rfl) rfl ?_
      refine v_aload_n (pc := 7) h (dk dt_X1_workBetween 5 rfl) rfl ?_
      refine v_geti (pc := 8) h ci1 sh1 (Nat.le_of_ble_eq_true rfl) (j := 9) wF_X1_47 rfl (dk dt_X1_workBetween 6 rfl) ?_
      refine v_icmp_ge (pc := 11) h 67 (dk dt_X1_workBetween 7 rfl) rfl (by omega) (fun c11 => ?_) (fun c11 => ?_)
      ·
        exact absurd c11 (by omega)
      ·
        refine v_aload_n (pc := 14) h (dk dt_X1_workBetween 8 rfl) rfl ?_
        refine v_getr (pc := 15) h ci1 sh1 (Nat.le_of_ble_eq_true rfl) (j := 2) wF_X1_23 rfl (dk dt_X1_workBetween 9 rfl) ?_
        refine v_iload (pc := 18) h (dk dt_X1_workBetween 10 rfl) rfl ?_
        refine v_cVi (pc := 20) h (c_X7_atn h.quiet jr2 (o1 := 7) rfl (Nat.le_of_ble_eq_true rfl) (by omega)) kv_X7_at jr2.1 wM_X1_55 rfl rfl (Nat.le_of_ble_eq_true rfl) (RM.of rfl) rfl rfl (dk dt_X1_workBetween 11 rfl) ?_
        refine v_istore (lv' := [(5, _), (4, _), (3, _), (0, _), (1, _), (2, _)]) (pc := 23) h (dk dt_X1_workBetween 12 rfl) (Nat.le_of_ble_eq_true rfl) rfl ?_
        refine v_aload_n (pc := 25) h (dk dt_X1_workBetween 13 rfl) rfl ?_
        refine v_getr (pc := 26) h ci1 sh1 (Nat.le_of_ble_eq_true rfl) (j := 0) wF_X1_14 rfl (dk dt_X1_workBetween 14 rfl) ?_
        refine v_iload (pc := 29) h (dk dt_X1_workBetween 15 rfl) rfl ?_
        refine v_cVi (pc := 31) h (c_X7_atn h.quiet jr0 (o1 := 3) rfl (Nat.le_of_ble_eq_true rfl) (by omega)) kv_X7_at jr0.1 wM_X1_55 rfl rfl (Nat.le_of_ble_eq_true rfl) (RM.of rfl) rfl rfl (dk dt_X1_workBetween 16 rfl) ?_
        refine v_iload_n (pc := 34) h (dk dt_X1_workBetween 17 rfl) rfl ?_
        refine v_icmp_lt (pc := 35) h 61 (dk dt_X1_workBetween 18 rfl) rfl (by omega) (fun c35 => ?_) (fun c35 => ?_)
        ·
          refine v_iinc (lv' := [(4, _), (5, _), (3, _), (0, _), (1, _), (2, _)]) (pc := 61) h (dk dt_X1_workBetween 31 rfl) rfl (Nat.le_of_ble_eq_true rfl) rfl ?_
          refine v_goto (pc := 64) h 5 (dk dt_X1_workBetween 32 rfl) rfl ?_
          first
            | exact VV.loc (lv' := [(4, _), (3, _), (0, _), (1, _), (2, _)]) (ih (i + 1) (by omega)) ⟨rfl, lvI (by rw [wbtF, if_pos (by omega)]), rfl, rfl, rfl, trivial⟩
            | exact VV.loc (lv' := [(4, _), (3, _), (0, _), (1, _), (2, _)]) (ih (i + 1) (by omega)) ⟨rfl, lvI (by rw [wbtF, if_neg (by omega), Int.add_zero]), rfl, rfl, rfl, trivial⟩
        ·
          refine v_iload (pc := 38) h (dk dt_X1_workBetween 19 rfl) rfl ?_
          refine v_if_le (pc := 40) h 61 (dk dt_X1_workBetween 20 rfl) rfl (by omega) (fun c40 => ?_) (fun c40 => ?_)
          ·
            refine v_iinc (lv' := [(4, _), (5, _), (3, _), (0, _), (1, _), (2, _)]) (pc := 61) h (dk dt_X1_workBetween 31 rfl) rfl (Nat.le_of_ble_eq_true rfl) rfl ?_
            refine v_goto (pc := 64) h 5 (dk dt_X1_workBetween 32 rfl) rfl ?_
            first
              | exact VV.loc (lv' := [(4, _), (3, _), (0, _), (1, _), (2, _)]) (ih (i + 1) (by omega)) ⟨rfl, lvI (by rw [wbtF, if_pos (by omega)]), rfl, rfl, rfl, trivial⟩
              | exact VV.loc (lv' := [(4, _), (3, _), (0, _), (1, _), (2, _)]) (ih (i + 1) (by omega)) ⟨rfl, lvI (by rw [wbtF, if_neg (by omega), Int.add_zero]), rfl, rfl, rfl, trivial⟩
          ·
            refine v_iload (pc := 43) h (dk dt_X1_workBetween 21 rfl) rfl ?_
            refine v_iload_n (pc := 45) h (dk dt_X1_workBetween 22 rfl) rfl ?_
            refine v_icmp_gt (pc := 46) h 61 (dk dt_X1_workBetween 23 rfl) rfl (by omega) (fun c46 => ?_) (fun c46 => ?_)
            ·
              refine v_iinc (lv' := [(4, _), (5, _), (3, _), (0, _), (1, _), (2, _)]) (pc := 61) h (dk dt_X1_workBetween 31 rfl) rfl (Nat.le_of_ble_eq_true rfl) rfl ?_
              refine v_goto (pc := 64) h 5 (dk dt_X1_workBetween 32 rfl) rfl ?_
              first
                | exact VV.loc (lv' := [(4, _), (3, _), (0, _), (1, _), (2, _)]) (ih (i + 1) (by omega)) ⟨rfl, lvI (by rw [wbtF, if_pos (by omega)]), rfl, rfl, rfl, trivial⟩
                | exact VV.loc (lv' := [(4, _), (3, _), (0, _), (1, _), (2, _)]) (ih (i + 1) (by omega)) ⟨rfl, lvI (by rw [wbtF, if_neg (by omega), Int.add_zero]), rfl, rfl, rfl, trivial⟩
            ·
              refine v_iload_n (pc := 49) h (dk dt_X1_workBetween 24 rfl) rfl ?_
              refine v_aload_n (pc := 50) h (dk dt_X1_workBetween 25 rfl) rfl ?_
              refine v_getr (pc := 51) h ci1 sh1 (Nat.le_of_ble_eq_true rfl) (j := 1) wF_X1_20 rfl (dk dt_X1_workBetween 26 rfl) ?_
              refine v_iload (pc := 54) h (dk dt_X1_workBetween 27 rfl) rfl ?_
              refine v_cVi (pc := 56) h (c_X7_atn h.quiet jr1 (o1 := 5) rfl (Nat.le_of_ble_eq_true rfl) (by omega)) kv_X7_at jr1.1 wM_X1_55 rfl rfl (Nat.le_of_ble_eq_true rfl) (RM.of rfl) rfl rfl (dk dt_X1_workBetween 28 rfl) ?_
              refine v_iadd (pc := 59) h (dk dt_X1_workBetween 29 rfl) ?_
              refine v_istore_n (lv' := [(3, _), (5, _), (4, _), (0, _), (1, _), (2, _)]) (pc := 60) h (dk dt_X1_workBetween 30 rfl) (Nat.le_of_ble_eq_true rfl) rfl ?_
              refine v_iinc (lv' := [(4, _), (3, _), (5, _), (0, _), (1, _), (2, _)]) (pc := 61) h (dk dt_X1_workBetween 31 rfl) rfl (Nat.le_of_ble_eq_true rfl) rfl ?_
              refine v_goto (pc := 64) h 5 (dk dt_X1_workBetween 32 rfl) rfl ?_
              first
                | exact VV.loc (lv' := [(4, _), (3, _), (0, _), (1, _), (2, _)]) (ih (i + 1) (by omega)) ⟨rfl, lvI (by rw [wbtF, if_pos (by omega)]), rfl, rfl, rfl, trivial⟩
                | exact VV.loc (lv' := [(4, _), (3, _), (0, _), (1, _), (2, _)]) (ih (i + 1) (by omega)) ⟨rfl, lvI (by rw [wbtF, if_neg (by omega), Int.add_zero]), rfl, rfl, rfl, trivial⟩
  refine v_iconst (pc := 0) h (dk dt_X1_workBetween 0 rfl) ?_
  refine v_istore_n (lv' := [(3, _), (0, _), (1, _), (2, _)]) (pc := 1) h (dk dt_X1_workBetween 1 rfl) (Nat.le_of_ble_eq_true rfl) rfl ?_
  refine v_iconst (pc := 2) h (dk dt_X1_workBetween 2 rfl) ?_
  refine v_istore (lv' := [(4, _), (3, _), (0, _), (1, _), (2, _)]) (pc := 3) h (dk dt_X1_workBetween 3 rfl) (Nat.le_of_ble_eq_true rfl) rfl ?_
  exact VV.loc (loop (μ 1 9).toNat 0 (by omega)) ⟨rfl, rfl, rfl, rfl, rfl, trivial⟩
theorem c_X1_fullEnd (hst : l.stackTraces = false) (hs : okJ μ) {f : Int} (hf : 0 ≤ f ∧ f ≤ 99) :
    Ct l B D E yX1_fullEnd (.code yX1_fullEnd cX1_fullEnd 6 (some .int)) rm_X1_fullEnd [.ref (pl B 1), iI f] μ (ri (fenF (μ 3) (μ 5) (μ 7) (μ 1 9).toNat f (μ 1 9).toNat) μ) NX := by
  have hb := hs.1
  have hl : ∀ j : Nat, j < (μ 1 9).toNat → 0 ≤ μ 5 j ∧ μ 5 j ≤ 30 := fun j hj => by have := (hs.2 j (by omega)).2.1; omega
  have hd : ∀ j : Nat, j < (μ 1 9).toNat → 0 ≤ μ 7 j ∧ μ 7 j ≤ 400 := fun j hj => by have := (hs.2 j (by omega)).2.2.1; omega
  refine ct_of (own := RX1) (lv := [(0, _), (1, _)]) hst (by decide) rfl rfl (Nat.le_of_ble_eq_true rfl) fun a h r t => ?_
  have loop : ∀ (d i : Nat), i + d = (μ 1 9).toNat → VV a B (SP B D E μ) 0 0 4 [(3, iI (i : Int)), (2, iI (fenF (μ 3) (μ 5) (μ 7) (μ 1 9).toNat f i)), (0, .ref (pl B 1)), (1, iI f)] [] := by
    intro d
    induction d with
    | zero =>
      intro i hi
      refine v_iload_n (pc := 4) h (dk dt_X1_fullEnd 4 rfl) rfl ?_
      refine v_aload_n (pc := 5) h (dk dt_X1_fullEnd 5 rfl) rfl ?_
      refine v_geti (pc := 6) h ci1 sh1 (Nat.le_of_ble_eq_true rfl) (j := 9) wF_X1_47 rfl (dk dt_X1_fullEnd 6 rfl) ?_
      refine v_icmp_ge (pc := 9) h 95 (dk dt_X1_fullEnd 7 rfl) rfl (by omega) (fun c9 => ?_) (fun c9 => ?_)
      ·
        refine v_iload_n (pc := 95) h (dk dt_X1_fullEnd 50 rfl) rfl ?_
        exact v_iret (pc := 96) h r (dk dt_X1_fullEnd 51 rfl) (Nat.le_of_ble_eq_true rfl) (Nat.le_of_ble_eq_true rfl) ⟨by rw [show fenF (μ 3) (μ 5) (μ 7) (μ 1 9).toNat f (μ 1 9).toNat = fenF (μ 3) (μ 5) (μ 7) (μ 1 9).toNat f i from by rw [show i = (μ 1 9).toNat by omega]], rfl⟩
      ·
        exact absurd c9 (by omega)
    | succ d ih =>
      intro i hi
      have hq := hs.2 i (by omega)
      have h2 := fenF_b (c := μ 3) (l := μ 5) (d := μ 7) (n := (μ 1 9).toNat) hf hd i (by omega)
      generalize hto : (if f < μ 7 i then μ 7 i else f) = to
      have hto2 : 0 ≤ to ∧ to ≤ 400 := by rw [← hto]; split <;> omega
      have h3 := wbtF_b (c := μ 3) (d := μ 7) (a := f) (b := to) hl (μ 1 9).toNat (Nat.le_refl _)
      have e0 : fenF (μ 3) (μ 5) (μ 7) (μ 1 9).toNat f (i + 1) = if (0 < μ 7 i ∧ f ≤ μ 3 i) ∧ (fenF (μ 3) (μ 5) (μ 7) (μ 1 9).toNat f i = -1 ∨ to < fenF (μ 3) (μ 5) (μ 7) (μ 1 9).toNat f i) ∧ to - f < wbtF (μ 3) (μ 5) (μ 7) f to (μ 1 9).toNat then to else fenF (μ 3) (μ 5) (μ 7) (μ 1 9).toNat f i := by rw [fenF, hto]
      refine v_iload_n (pc := 4) h (dk dt_X1_fullEnd 4 rfl) rfl ?_
      refine v_aload_n (pc := 5) h (dk dt_X1_fullEnd 5 rfl) rfl ?_
      refine v_geti (pc := 6) h ci1 sh1 (Nat.le_of_ble_eq_true rfl) (j := 9) wF_X1_47 rfl (dk dt_X1_fullEnd 6 rfl) ?_
      refine v_icmp_ge (pc := 9) h 95 (dk dt_X1_fullEnd 7 rfl) rfl (by omega) (fun c9 => ?_) (fun c9 => ?_)
      ·
        exact absurd c9 (by omega)
      ·
        refine v_iload_n (pc := 12) h (dk dt_X1_fullEnd 8 rfl) rfl ?_
        refine v_aload_n (pc := 13) h (dk dt_X1_fullEnd 9 rfl) rfl ?_
        refine v_getr (pc := 14) h ci1 sh1 (Nat.le_of_ble_eq_true rfl) (j := 2) wF_X1_23 rfl (dk dt_X1_fullEnd 10 rfl) ?_
        refine v_iload_n (pc := 17) h (dk dt_X1_fullEnd 11 rfl) rfl ?_
        refine v_cVi (pc := 18) h (c_X7_atn h.quiet jr2 (o1 := 7) rfl (Nat.le_of_ble_eq_true rfl) (by omega)) kv_X7_at jr2.1 wM_X1_55 rfl rfl (Nat.le_of_ble_eq_true rfl) (RM.of rfl) rfl rfl (dk dt_X1_fullEnd 12 rfl) ?_
        refine v_max (pc := 21) h km_max wM_X1_68 (by omega) (Nat.le_of_ble_eq_true rfl) ⟨Nat.le_of_ble_eq_true rfl, Nat.le_of_ble_eq_true rfl, Nat.le_of_ble_eq_true rfl, Nat.le_of_ble_eq_true rfl⟩ (dk dt_X1_fullEnd 13 rfl) ?_
        rw [hto]
        refine v_istore (lv' := [(4, _), (3, _), (2, _), (0, _), (1, _)]) (pc := 24) h (dk dt_X1_fullEnd 14 rfl) (Nat.le_of_ble_eq_true rfl) rfl ?_
        refine v_aload_n (pc := 26) h (dk dt_X1_fullEnd 15 rfl) rfl ?_
        refine v_getr (pc := 27) h ci1 sh1 (Nat.le_of_ble_eq_true rfl) (j := 2) wF_X1_23 rfl (dk dt_X1_fullEnd 16 rfl) ?_
        refine v_iload_n (pc := 30) h (dk dt_X1_fullEnd 17 rfl) rfl ?_
        refine v_cVi (pc := 31) h (c_X7_atn h.quiet jr2 (o1 := 7) rfl (Nat.le_of_ble_eq_true rfl) (by omega)) kv_X7_at jr2.1 wM_X1_55 rfl rfl (Nat.le_of_ble_eq_true rfl) (RM.of rfl) rfl rfl (dk dt_X1_fullEnd 18 rfl) ?_
        refine v_if_le (pc := 34) h 53 (dk dt_X1_fullEnd 19 rfl) rfl (by omega) (fun c34 => ?_) (fun c34 => ?_)
        ·
          refine v_iconst (pc := 53) h (dk dt_X1_fullEnd 28 rfl) ?_
          refine v_istore (lv' := [(5, _), (4, _), (3, _), (2, _), (0, _), (1, _)]) (pc := 54) h (dk dt_X1_fullEnd 29 rfl) (Nat.le_of_ble_eq_true rfl) rfl ?_
          refine v_iload (pc := 56) h (dk dt_X1_fullEnd 30 rfl) rfl ?_
          refine v_if_eq (pc := 58) h 89 (dk dt_X1_fullEnd 31 rfl) rfl (by omega) (fun c58 => ?_) (fun c58 => ?_)
          ·
            refine v_iinc (lv' := [(3, _), (5, _), (4, _), (2, _), (0, _), (1, _)]) (pc := 89) h (dk dt_X1_fullEnd 48 rfl) rfl (Nat.le_of_ble_eq_true rfl) rfl ?_
            refine v_goto (pc := 92) h 4 (dk dt_X1_fullEnd 49 rfl) rfl ?_
            first
              | exact absurd c58 (by omega)
              | exact VV.loc (lv' := [(3, _), (2, _), (0, _), (1, _)]) (ih (i + 1) (by omega)) ⟨rfl, lvI (by rw [e0, if_pos (by omega)]), rfl, rfl, trivial⟩
              | exact VV.loc (lv' := [(3, _), (2, _), (0, _), (1, _)]) (ih (i + 1) (by omega)) ⟨rfl, lvI (by rw [e0, if_neg (by omega)]), rfl, rfl, trivial⟩
          ·
            refine v_iload_n (pc := 61) h (dk dt_X1_fullEnd 32 rfl) rfl ?_
            refine v_iconst (pc := 62) h (dk dt_X1_fullEnd 33 rfl) ?_
            refine v_icmp_eq (pc := 63) h 72 (dk dt_X1_fullEnd 34 rfl) rfl (by omega) (fun c63 => ?_) (fun c63 => ?_)
            ·
              refine v_aload_n (pc := 72) h (dk dt_X1_fullEnd 38 rfl) rfl ?_
              refine v_iload_n (pc := 73) h (dk dt_X1_fullEnd 39 rfl) rfl ?_
              refine v_iload (pc := 74) h (dk dt_X1_fullEnd 40 rfl) rfl ?_
              refine v_cVi (pc := 76) h (c_X1_workBetween h.quiet (by assumption) (by omega)) kv_X1_workBetween sh1 wM_X1_73 rfl rfl (Nat.le_of_ble_eq_true rfl) (RM.of rfl) rfl rfl (dk dt_X1_fullEnd 41 rfl) ?_
              refine v_iload (pc := 79) h (dk dt_X1_fullEnd 42 rfl) rfl ?_
              refine v_iload_n (pc := 81) h (dk dt_X1_fullEnd 43 rfl) rfl ?_
              refine v_isub (pc := 82) h (dk dt_X1_fullEnd 44 rfl) ?_
              refine v_icmp_le (pc := 83) h 89 (dk dt_X1_fullEnd 45 rfl) rfl (by omega) (fun c83 => ?_) (fun c83 => ?_)
              ·
                refine v_iinc (lv' := [(3, _), (5, _), (4, _), (2, _), (0, _), (1, _)]) (pc := 89) h (dk dt_X1_fullEnd 48 rfl) rfl (Nat.le_of_ble_eq_true rfl) rfl ?_
                refine v_goto (pc := 92) h 4 (dk dt_X1_fullEnd 49 rfl) rfl ?_
                first
                  | exact absurd c58 (by omega)
                  | exact VV.loc (lv' := [(3, _), (2, _), (0, _), (1, _)]) (ih (i + 1) (by omega)) ⟨rfl, lvI (by rw [e0, if_pos (by omega)]), rfl, rfl, trivial⟩
                  | exact VV.loc (lv' := [(3, _), (2, _), (0, _), (1, _)]) (ih (i + 1) (by omega)) ⟨rfl, lvI (by rw [e0, if_neg (by omega)]), rfl, rfl, trivial⟩
              ·
                refine v_iload (pc := 86) h (dk dt_X1_fullEnd 46 rfl) rfl ?_
                refine v_istore_n (lv' := [(2, _), (5, _), (4, _), (3, _), (0, _), (1, _)]) (pc := 88) h (dk dt_X1_fullEnd 47 rfl) (Nat.le_of_ble_eq_true rfl) rfl ?_
                refine v_iinc (lv' := [(3, _), (2, _), (5, _), (4, _), (0, _), (1, _)]) (pc := 89) h (dk dt_X1_fullEnd 48 rfl) rfl (Nat.le_of_ble_eq_true rfl) rfl ?_
                refine v_goto (pc := 92) h 4 (dk dt_X1_fullEnd 49 rfl) rfl ?_
                first
                  | exact absurd c58 (by omega)
                  | exact VV.loc (lv' := [(3, _), (2, _), (0, _), (1, _)]) (ih (i + 1) (by omega)) ⟨rfl, lvI (by rw [e0, if_pos (by omega)]), rfl, rfl, trivial⟩
                  | exact VV.loc (lv' := [(3, _), (2, _), (0, _), (1, _)]) (ih (i + 1) (by omega)) ⟨rfl, lvI (by rw [e0, if_neg (by omega)]), rfl, rfl, trivial⟩
            ·
              refine v_iload (pc := 66) h (dk dt_X1_fullEnd 35 rfl) rfl ?_
              refine v_iload_n (pc := 68) h (dk dt_X1_fullEnd 36 rfl) rfl ?_
              refine v_icmp_ge (pc := 69) h 89 (dk dt_X1_fullEnd 37 rfl) rfl (by omega) (fun c69 => ?_) (fun c69 => ?_)
              ·
                refine v_iinc (lv' := [(3, _), (5, _), (4, _), (2, _), (0, _), (1, _)]) (pc := 89) h (dk dt_X1_fullEnd 48 rfl) rfl (Nat.le_of_ble_eq_true rfl) rfl ?_
                refine v_goto (pc := 92) h 4 (dk dt_X1_fullEnd 49 rfl) rfl ?_
                first
                  | exact absurd c58 (by omega)
                  | exact VV.loc (lv' := [(3, _), (2, _), (0, _), (1, _)]) (ih (i + 1) (by omega)) ⟨rfl, lvI (by rw [e0, if_pos (by omega)]), rfl, rfl, trivial⟩
                  | exact VV.loc (lv' := [(3, _), (2, _), (0, _), (1, _)]) (ih (i + 1) (by omega)) ⟨rfl, lvI (by rw [e0, if_neg (by omega)]), rfl, rfl, trivial⟩
              ·
                refine v_aload_n (pc := 72) h (dk dt_X1_fullEnd 38 rfl) rfl ?_
                refine v_iload_n (pc := 73) h (dk dt_X1_fullEnd 39 rfl) rfl ?_
                refine v_iload (pc := 74) h (dk dt_X1_fullEnd 40 rfl) rfl ?_
                refine v_cVi (pc := 76) h (c_X1_workBetween h.quiet (by assumption) (by omega)) kv_X1_workBetween sh1 wM_X1_73 rfl rfl (Nat.le_of_ble_eq_true rfl) (RM.of rfl) rfl rfl (dk dt_X1_fullEnd 41 rfl) ?_
                refine v_iload (pc := 79) h (dk dt_X1_fullEnd 42 rfl) rfl ?_
                refine v_iload_n (pc := 81) h (dk dt_X1_fullEnd 43 rfl) rfl ?_
                refine v_isub (pc := 82) h (dk dt_X1_fullEnd 44 rfl) ?_
                refine v_icmp_le (pc := 83) h 89 (dk dt_X1_fullEnd 45 rfl) rfl (by omega) (fun c83 => ?_) (fun c83 => ?_)
                ·
                  refine v_iinc (lv' := [(3, _), (5, _), (4, _), (2, _), (0, _), (1, _)]) (pc := 89) h (dk dt_X1_fullEnd 48 rfl) rfl (Nat.le_of_ble_eq_true rfl) rfl ?_
                  refine v_goto (pc := 92) h 4 (dk dt_X1_fullEnd 49 rfl) rfl ?_
                  first
                    | exact absurd c58 (by omega)
                    | exact VV.loc (lv' := [(3, _), (2, _), (0, _), (1, _)]) (ih (i + 1) (by omega)) ⟨rfl, lvI (by rw [e0, if_pos (by omega)]), rfl, rfl, trivial⟩
                    | exact VV.loc (lv' := [(3, _), (2, _), (0, _), (1, _)]) (ih (i + 1) (by omega)) ⟨rfl, lvI (by rw [e0, if_neg (by omega)]), rfl, rfl, trivial⟩
                ·
                  refine v_iload (pc := 86) h (dk dt_X1_fullEnd 46 rfl) rfl ?_
                  refine v_istore_n (lv' := [(2, _), (5, _), (4, _), (3, _), (0, _), (1, _)]) (pc := 88) h (dk dt_X1_fullEnd 47 rfl) (Nat.le_of_ble_eq_true rfl) rfl ?_
                  refine v_iinc (lv' := [(3, _), (2, _), (5, _), (4, _), (0, _), (1, _)]) (pc := 89) h (dk dt_X1_fullEnd 48 rfl) rfl (Nat.le_of_ble_eq_true rfl) rfl ?_
                  refine v_goto (pc := 92) h 4 (dk dt_X1_fullEnd 49 rfl) rfl ?_
                  first
                    | exact absurd c58 (by omega)
                    | exact VV.loc (lv' := [(3, _), (2, _), (0, _), (1, _)]) (ih (i + 1) (by omega)) ⟨rfl, lvI (by rw [e0, if_pos (by omega)]), rfl, rfl, trivial⟩
                    | exact VV.loc (lv' := [(3, _), (2, _), (0, _), (1, _)]) (ih (i + 1) (by omega)) ⟨rfl, lvI (by rw [e0, if_neg (by omega)]), rfl, rfl, trivial⟩
        ·
          refine v_aload_n (pc := 37) h (dk dt_X1_fullEnd 20 rfl) rfl ?_
          refine v_getr (pc := 38) h ci1 sh1 (Nat.le_of_ble_eq_true rfl) (j := 0) wF_X1_14 rfl (dk dt_X1_fullEnd 21 rfl) ?_
          refine v_iload_n (pc := 41) h (dk dt_X1_fullEnd 22 rfl) rfl ?_
          refine v_cVi (pc := 42) h (c_X7_atn h.quiet jr0 (o1 := 3) rfl (Nat.le_of_ble_eq_true rfl) (by omega)) kv_X7_at jr0.1 wM_X1_55 rfl rfl (Nat.le_of_ble_eq_true rfl) (RM.of rfl) rfl rfl (dk dt_X1_fullEnd 23 rfl) ?_
          refine v_iload_n (pc := 45) h (dk dt_X1_fullEnd 24 rfl) rfl ?_
          refine v_icmp_lt (pc := 46) h 53 (dk dt_X1_fullEnd 25 rfl) rfl (by omega) (fun c46 => ?_) (fun c46 => ?_)
          ·
            refine v_iconst (pc := 53) h (dk dt_X1_fullEnd 28 rfl) ?_
            refine v_istore (lv' := [(5, _), (4, _), (3, _), (2, _), (0, _), (1, _)]) (pc := 54) h (dk dt_X1_fullEnd 29 rfl) (Nat.le_of_ble_eq_true rfl) rfl ?_
            refine v_iload (pc := 56) h (dk dt_X1_fullEnd 30 rfl) rfl ?_
            refine v_if_eq (pc := 58) h 89 (dk dt_X1_fullEnd 31 rfl) rfl (by omega) (fun c58 => ?_) (fun c58 => ?_)
            ·
              refine v_iinc (lv' := [(3, _), (5, _), (4, _), (2, _), (0, _), (1, _)]) (pc := 89) h (dk dt_X1_fullEnd 48 rfl) rfl (Nat.le_of_ble_eq_true rfl) rfl ?_
              refine v_goto (pc := 92) h 4 (dk dt_X1_fullEnd 49 rfl) rfl ?_
              first
                | exact absurd c58 (by omega)
                | exact VV.loc (lv' := [(3, _), (2, _), (0, _), (1, _)]) (ih (i + 1) (by omega)) ⟨rfl, lvI (by rw [e0, if_pos (by omega)]), rfl, rfl, trivial⟩
                | exact VV.loc (lv' := [(3, _), (2, _), (0, _), (1, _)]) (ih (i + 1) (by omega)) ⟨rfl, lvI (by rw [e0, if_neg (by omega)]), rfl, rfl, trivial⟩
            ·
              refine v_iload_n (pc := 61) h (dk dt_X1_fullEnd 32 rfl) rfl ?_
              refine v_iconst (pc := 62) h (dk dt_X1_fullEnd 33 rfl) ?_
              refine v_icmp_eq (pc := 63) h 72 (dk dt_X1_fullEnd 34 rfl) rfl (by omega) (fun c63 => ?_) (fun c63 => ?_)
              ·
                refine v_aload_n (pc := 72) h (dk dt_X1_fullEnd 38 rfl) rfl ?_
                refine v_iload_n (pc := 73) h (dk dt_X1_fullEnd 39 rfl) rfl ?_
                refine v_iload (pc := 74) h (dk dt_X1_fullEnd 40 rfl) rfl ?_
                refine v_cVi (pc := 76) h (c_X1_workBetween h.quiet (by assumption) (by omega)) kv_X1_workBetween sh1 wM_X1_73 rfl rfl (Nat.le_of_ble_eq_true rfl) (RM.of rfl) rfl rfl (dk dt_X1_fullEnd 41 rfl) ?_
                refine v_iload (pc := 79) h (dk dt_X1_fullEnd 42 rfl) rfl ?_
                refine v_iload_n (pc := 81) h (dk dt_X1_fullEnd 43 rfl) rfl ?_
                refine v_isub (pc := 82) h (dk dt_X1_fullEnd 44 rfl) ?_
                refine v_icmp_le (pc := 83) h 89 (dk dt_X1_fullEnd 45 rfl) rfl (by omega) (fun c83 => ?_) (fun c83 => ?_)
                ·
                  refine v_iinc (lv' := [(3, _), (5, _), (4, _), (2, _), (0, _), (1, _)]) (pc := 89) h (dk dt_X1_fullEnd 48 rfl) rfl (Nat.le_of_ble_eq_true rfl) rfl ?_
                  refine v_goto (pc := 92) h 4 (dk dt_X1_fullEnd 49 rfl) rfl ?_
                  first
                    | exact absurd c58 (by omega)
                    | exact VV.loc (lv' := [(3, _), (2, _), (0, _), (1, _)]) (ih (i + 1) (by omega)) ⟨rfl, lvI (by rw [e0, if_pos (by omega)]), rfl, rfl, trivial⟩
                    | exact VV.loc (lv' := [(3, _), (2, _), (0, _), (1, _)]) (ih (i + 1) (by omega)) ⟨rfl, lvI (by rw [e0, if_neg (by omega)]), rfl, rfl, trivial⟩
                ·
                  refine v_iload (pc := 86) h (dk dt_X1_fullEnd 46 rfl) rfl ?_
                  refine v_istore_n (lv' := [(2, _), (5, _), (4, _), (3, _), (0, _), (1, _)]) (pc := 88) h (dk dt_X1_fullEnd 47 rfl) (Nat.le_of_ble_eq_true rfl) rfl ?_
                  refine v_iinc (lv' := [(3, _), (2, _), (5, _), (4, _), (0, _), (1, _)]) (pc := 89) h (dk dt_X1_fullEnd 48 rfl) rfl (Nat.le_of_ble_eq_true rfl) rfl ?_
                  refine v_goto (pc := 92) h 4 (dk dt_X1_fullEnd 49 rfl) rfl ?_
                  first
                    | exact absurd c58 (by omega)
                    | exact VV.loc (lv' := [(3, _), (2, _), (0, _), (1, _)]) (ih (i + 1) (by omega)) ⟨rfl, lvI (by rw [e0, if_pos (by omega)]), rfl, rfl, trivial⟩
                    | exact VV.loc (lv' := [(3, _), (2, _), (0, _), (1, _)]) (ih (i + 1) (by omega)) ⟨rfl, lvI (by rw [e0, if_neg (by omega)]), rfl, rfl, trivial⟩
              ·
                refine v_iload (pc := 66) h (dk dt_X1_fullEnd 35 rfl) rfl ?_
                refine v_iload_n (pc := 68) h (dk dt_X1_fullEnd 36 rfl) rfl ?_
                refine v_icmp_ge (pc := 69) h 89 (dk dt_X1_fullEnd 37 rfl) rfl (by omega) (fun c69 => ?_) (fun c69 => ?_)
                ·
                  refine v_iinc (lv' := [(3, _), (5, _), (4, _), (2, _), (0, _), (1, _)]) (pc := 89) h (dk dt_X1_fullEnd 48 rfl) rfl (Nat.le_of_ble_eq_true rfl) rfl ?_
                  refine v_goto (pc := 92) h 4 (dk dt_X1_fullEnd 49 rfl) rfl ?_
                  first
                    | exact absurd c58 (by omega)
                    | exact VV.loc (lv' := [(3, _), (2, _), (0, _), (1, _)]) (ih (i + 1) (by omega)) ⟨rfl, lvI (by rw [e0, if_pos (by omega)]), rfl, rfl, trivial⟩
                    | exact VV.loc (lv' := [(3, _), (2, _), (0, _), (1, _)]) (ih (i + 1) (by omega)) ⟨rfl, lvI (by rw [e0, if_neg (by omega)]), rfl, rfl, trivial⟩
                ·
                  refine v_aload_n (pc := 72) h (dk dt_X1_fullEnd 38 rfl) rfl ?_
                  refine v_iload_n (pc := 73) h (dk dt_X1_fullEnd 39 rfl) rfl ?_
                  refine v_iload (pc := 74) h (dk dt_X1_fullEnd 40 rfl) rfl ?_
                  refine v_cVi (pc := 76) h (c_X1_workBetween h.quiet (by assumption) (by omega)) kv_X1_workBetween sh1 wM_X1_73 rfl rfl (Nat.le_of_ble_eq_true rfl) (RM.of rfl) rfl rfl (dk dt_X1_fullEnd 41 rfl) ?_
                  refine v_iload (pc := 79) h (dk dt_X1_fullEnd 42 rfl) rfl ?_
                  refine v_iload_n (pc := 81) h (dk dt_X1_fullEnd 43 rfl) rfl ?_
                  refine v_isub (pc := 82) h (dk dt_X1_fullEnd 44 rfl) ?_
                  refine v_icmp_le (pc := 83) h 89 (dk dt_X1_fullEnd 45 rfl) rfl (by omega) (fun c83 => ?_) (fun c83 => ?_)
                  ·
                    refine v_iinc (lv' := [(3, _), (5, _), (4, _), (2, _), (0, _), (1, _)]) (pc := 89) h (dk dt_X1_fullEnd 48 rfl) rfl (Nat.le_of_ble_eq_true rfl) rfl ?_
                    refine v_goto (pc := 92) h 4 (dk dt_X1_fullEnd 49 rfl) rfl ?_
                    first
                      | exact absurd c58 (by omega)
                      | exact VV.loc (lv' := [(3, _), (2, _), (0, _), (1, _)]) (ih (i + 1) (by omega)) ⟨rfl, lvI (by rw [e0, if_pos (by omega)]), rfl, rfl, trivial⟩
                      | exact VV.loc (lv' := [(3, _), (2, _), (0, _), (1, _)]) (ih (i + 1) (by omega)) ⟨rfl, lvI (by rw [e0, if_neg (by omega)]), rfl, rfl, trivial⟩
                  ·
                    refine v_iload (pc := 86) h (dk dt_X1_fullEnd 46 rfl) rfl ?_
                    refine v_istore_n (lv' := [(2, _), (5, _), (4, _), (3, _), (0, _), (1, _)]) (pc := 88) h (dk dt_X1_fullEnd 47 rfl) (Nat.le_of_ble_eq_true rfl) rfl ?_
                    refine v_iinc (lv' := [(3, _), (2, _), (5, _), (4, _), (0, _), (1, _)]) (pc := 89) h (dk dt_X1_fullEnd 48 rfl) rfl (Nat.le_of_ble_eq_true rfl) rfl ?_
                    refine v_goto (pc := 92) h 4 (dk dt_X1_fullEnd 49 rfl) rfl ?_
                    first
                      | exact absurd c58 (by omega)
                      | exact VV.loc (lv' := [(3, _), (2, _), (0, _), (1, _)]) (ih (i + 1) (by omega)) ⟨rfl, lvI (by rw [e0, if_pos (by omega)]), rfl, rfl, trivial⟩
                      | exact VV.loc (lv' := [(3, _), (2, _), (0, _), (1, _)]) (ih (i + 1) (by omega)) ⟨rfl, lvI (by rw [e0, if_neg (by omega)]), rfl, rfl, trivial⟩
          ·
            refine v_iconst (pc := 49) h (dk dt_X1_fullEnd 26 rfl) ?_
            refine v_goto (pc := 50) h 54 (dk dt_X1_fullEnd 27 rfl) rfl ?_
            refine v_istore (lv' := [(5, _), (4, _), (3, _), (2, _), (0, _), (1, _)]) (pc := 54) h (dk dt_X1_fullEnd 29 rfl) (Nat.le_of_ble_eq_true rfl) rfl ?_
            refine v_iload (pc := 56) h (dk dt_X1_fullEnd 30 rfl) rfl ?_
            refine v_if_eq (pc := 58) h 89 (dk dt_X1_fullEnd 31 rfl) rfl (by omega) (fun c58 => ?_) (fun c58 => ?_)
            ·
              refine v_iinc (lv' := [(3, _), (5, _), (4, _), (2, _), (0, _), (1, _)]) (pc := 89) h (dk dt_X1_fullEnd 48 rfl) rfl (Nat.le_of_ble_eq_true rfl) rfl ?_
              refine v_goto (pc := 92) h 4 (dk dt_X1_fullEnd 49 rfl) rfl ?_
              first
                | exact absurd c58 (by omega)
                | exact VV.loc (lv' := [(3, _), (2, _), (0, _), (1, _)]) (ih (i + 1) (by omega)) ⟨rfl, lvI (by rw [e0, if_pos (by omega)]), rfl, rfl, trivial⟩
                | exact VV.loc (lv' := [(3, _), (2, _), (0, _), (1, _)]) (ih (i + 1) (by omega)) ⟨rfl, lvI (by rw [e0, if_neg (by omega)]), rfl, rfl, trivial⟩
            ·
              refine v_iload_n (pc := 61) h (dk dt_X1_fullEnd 32 rfl) rfl ?_
              refine v_iconst (pc := 62) h (dk dt_X1_fullEnd 33 rfl) ?_
              refine v_icmp_eq (pc := 63) h 72 (dk dt_X1_fullEnd 34 rfl) rfl (by omega) (fun c63 => ?_) (fun c63 => ?_)
              ·
                refine v_aload_n (pc := 72) h (dk dt_X1_fullEnd 38 rfl) rfl ?_
                refine v_iload_n (pc := 73) h (dk dt_X1_fullEnd 39 rfl) rfl ?_
                refine v_iload (pc := 74) h (dk dt_X1_fullEnd 40 rfl) rfl ?_
                refine v_cVi (pc := 76) h (c_X1_workBetween h.quiet (by assumption) (by omega)) kv_X1_workBetween sh1 wM_X1_73 rfl rfl (Nat.le_of_ble_eq_true rfl) (RM.of rfl) rfl rfl (dk dt_X1_fullEnd 41 rfl) ?_
                refine v_iload (pc := 79) h (dk dt_X1_fullEnd 42 rfl) rfl ?_
                refine v_iload_n (pc := 81) h (dk dt_X1_fullEnd 43 rfl) rfl ?_
                refine v_isub (pc := 82) h (dk dt_X1_fullEnd 44 rfl) ?_
                refine v_icmp_le (pc := 83) h 89 (dk dt_X1_fullEnd 45 rfl) rfl (by omega) (fun c83 => ?_) (fun c83 => ?_)
                ·
                  refine v_iinc (lv' := [(3, _), (5, _), (4, _), (2, _), (0, _), (1, _)]) (pc := 89) h (dk dt_X1_fullEnd 48 rfl) rfl (Nat.le_of_ble_eq_true rfl) rfl ?_
                  refine v_goto (pc := 92) h 4 (dk dt_X1_fullEnd 49 rfl) rfl ?_
                  first
                    | exact absurd c58 (by omega)
                    | exact VV.loc (lv' := [(3, _), (2, _), (0, _), (1, _)]) (ih (i + 1) (by omega)) ⟨rfl, lvI (by rw [e0, if_pos (by omega)]), rfl, rfl, trivial⟩
                    | exact VV.loc (lv' := [(3, _), (2, _), (0, _), (1, _)]) (ih (i + 1) (by omega)) ⟨rfl, lvI (by rw [e0, if_neg (by omega)]), rfl, rfl, trivial⟩
                ·
                  refine v_iload (pc := 86) h (dk dt_X1_fullEnd 46 rfl) rfl ?_
                  refine v_istore_n (lv' := [(2, _), (5, _), (4, _), (3, _), (0, _), (1, _)]) (pc := 88) h (dk dt_X1_fullEnd 47 rfl) (Nat.le_of_ble_eq_true rfl) rfl ?_
                  refine v_iinc (lv' := [(3, _), (2, _), (5, _), (4, _), (0, _), (1, _)]) (pc := 89) h (dk dt_X1_fullEnd 48 rfl) rfl (Nat.le_of_ble_eq_true rfl) rfl ?_
                  refine v_goto (pc := 92) h 4 (dk dt_X1_fullEnd 49 rfl) rfl ?_
                  first
                    | exact absurd c58 (by omega)
                    | exact VV.loc (lv' := [(3, _), (2, _), (0, _), (1, _)]) (ih (i + 1) (by omega)) ⟨rfl, lvI (by rw [e0, if_pos (by omega)]), rfl, rfl, trivial⟩
                    | exact VV.loc (lv' := [(3, _), (2, _), (0, _), (1, _)]) (ih (i + 1) (by omega)) ⟨rfl, lvI (by rw [e0, if_neg (by omega)]), rfl, rfl, trivial⟩
              ·
                refine v_iload (pc := 66) h (dk dt_X1_fullEnd 35 rfl) rfl ?_
                refine v_iload_n (pc := 68) h (dk dt_X1_fullEnd 36 rfl) rfl ?_
                refine v_icmp_ge (pc := 69) h 89 (dk dt_X1_fullEnd 37 rfl) rfl (by omega) (fun c69 => ?_) (fun c69 => ?_)
                ·
                  refine v_iinc (lv' := [(3, _), (5, _), (4, _), (2, _), (0, _), (1, _)]) (pc := 89) h (dk dt_X1_fullEnd 48 rfl) rfl (Nat.le_of_ble_eq_true rfl) rfl ?_
                  refine v_goto (pc := 92) h 4 (dk dt_X1_fullEnd 49 rfl) rfl ?_
                  first
                    | exact absurd c58 (by omega)
                    | exact VV.loc (lv' := [(3, _), (2, _), (0, _), (1, _)]) (ih (i + 1) (by omega)) ⟨rfl, lvI (by rw [e0, if_pos (by omega)]), rfl, rfl, trivial⟩
                    | exact VV.loc (lv' := [(3, _), (2, _), (0, _), (1, _)]) (ih (i + 1) (by omega)) ⟨rfl, lvI (by rw [e0, if_neg (by omega)]), rfl, rfl, trivial⟩
                ·
                  refine v_aload_n (pc := 72) h (dk dt_X1_fullEnd 38 rfl) rfl ?_
                  refine v_iload_n (pc := 73) h (dk dt_X1_fullEnd 39 rfl) rfl ?_
                  refine v_iload (pc := 74) h (dk dt_X1_fullEnd 40 rfl) rfl ?_
                  refine v_cVi (pc := 76) h (c_X1_workBetween h.quiet (by assumption) (by omega)) kv_X1_workBetween sh1 wM_X1_73 rfl rfl (Nat.le_of_ble_eq_true rfl) (RM.of rfl) rfl rfl (dk dt_X1_fullEnd 41 rfl) ?_
                  refine v_iload (pc := 79) h (dk dt_X1_fullEnd 42 rfl) rfl ?_
                  refine v_iload_n (pc := 81) h (dk dt_X1_fullEnd 43 rfl) rfl ?_
                  refine v_isub (pc := 82) h (dk dt_X1_fullEnd 44 rfl) ?_
                  refine v_icmp_le (pc := 83) h 89 (dk dt_X1_fullEnd 45 rfl) rfl (by omega) (fun c83 => ?_) (fun c83 => ?_)
                  ·
                    refine v_iinc (lv' := [(3, _), (5, _), (4, _), (2, _), (0, _), (1, _)]) (pc := 89) h (dk dt_X1_fullEnd 48 rfl) rfl (Nat.le_of_ble_eq_true rfl) rfl ?_
                    refine v_goto (pc := 92) h 4 (dk dt_X1_fullEnd 49 rfl) rfl ?_
                    first
                      | exact absurd c58 (by omega)
                      | exact VV.loc (lv' := [(3, _), (2, _), (0, _), (1, _)]) (ih (i + 1) (by omega)) ⟨rfl, lvI (by rw [e0, if_pos (by omega)]), rfl, rfl, trivial⟩
                      | exact VV.loc (lv' := [(3, _), (2, _), (0, _), (1, _)]) (ih (i + 1) (by omega)) ⟨rfl, lvI (by rw [e0, if_neg (by omega)]), rfl, rfl, trivial⟩
                  ·
                    refine v_iload (pc := 86) h (dk dt_X1_fullEnd 46 rfl) rfl ?_
                    refine v_istore_n (lv' := [(2, _), (5, _), (4, _), (3, _), (0, _), (1, _)]) (pc := 88) h (dk dt_X1_fullEnd 47 rfl) (Nat.le_of_ble_eq_true rfl) rfl ?_
                    refine v_iinc (lv' := [(3, _), (2, _), (5, _), (4, _), (0, _), (1, _)]) (pc := 89) h (dk dt_X1_fullEnd 48 rfl) rfl (Nat.le_of_ble_eq_true rfl) rfl ?_
                    refine v_goto (pc := 92) h 4 (dk dt_X1_fullEnd 49 rfl) rfl ?_
                    first
                      | exact absurd c58 (by omega)
                      | exact VV.loc (lv' := [(3, _), (2, _), (0, _), (1, _)]) (ih (i + 1) (by omega)) ⟨rfl, lvI (by rw [e0, if_pos (by omega)]), rfl, rfl, trivial⟩
                      | exact VV.loc (lv' := [(3, _), (2, _), (0, _), (1, _)]) (ih (i + 1) (by omega)) ⟨rfl, lvI (by rw [e0, if_neg (by omega)]), rfl, rfl, trivial⟩
  refine v_iconst (pc := 0) h (dk dt_X1_fullEnd 0 rfl) ?_
  refine v_istore_n (lv' := [(2, _), (0, _), (1, _)]) (pc := 1) h (dk dt_X1_fullEnd 1 rfl) (Nat.le_of_ble_eq_true rfl) rfl ?_
  refine v_iconst (pc := 2) h (dk dt_X1_fullEnd 2 rfl) ?_
  refine v_istore_n (lv' := [(3, _), (2, _), (0, _), (1, _)]) (pc := 3) h (dk dt_X1_fullEnd 3 rfl) (Nat.le_of_ble_eq_true rfl) rfl ?_
  exact VV.loc (loop (μ 1 9).toNat 0 (by omega)) ⟨rfl, rfl, rfl, rfl, trivial⟩
end
end
