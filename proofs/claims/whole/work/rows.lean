section
-- ===== PART A: goes FIRST, ahead of the names: the tables' words, and 'selects' of the private methods out of them =====
/-- a private method of a class that the tables say can be made, by its rows of tables_1 -/
def lw_okq (q : MethodName × Nat) : Prop := (q.1.cls ≠ "java/lang/invoke/MethodHandle" ∧ q.1.cls ≠ "java/lang/invoke/VarHandle") ∧ Cond.instantiable q.1.cls q.2 ∈ tables_1 ∧ Cond.privateMethod q.1 ∈ tables_1 ∧ Cond.instanceMethod q.1 ∈ tables_1
theorem lw_p0 : lw_okq (⟨"Slicehouse$Worker", "begin", "()V"⟩, 18) := ⟨⟨by decide +kernel, by decide +kernel⟩, List.mem_of_getElem? (i := 151) (by decide +kernel), List.mem_of_getElem? (i := 378) (by decide +kernel), List.mem_of_getElem? (i := 379) (by decide +kernel)⟩
theorem lw_p1 : lw_okq (⟨"Slicehouse$Worker", "beginMoment", "(I)V"⟩, 18) := ⟨⟨by decide +kernel, by decide +kernel⟩, List.mem_of_getElem? (i := 151) (by decide +kernel), List.mem_of_getElem? (i := 410) (by decide +kernel), List.mem_of_getElem? (i := 411) (by decide +kernel)⟩
theorem lw_p2 : lw_okq (⟨"Slicehouse$Worker", "leastCount", "(I)I"⟩, 18) := ⟨⟨by decide +kernel, by decide +kernel⟩, List.mem_of_getElem? (i := 151) (by decide +kernel), List.mem_of_getElem? (i := 430) (by decide +kernel), List.mem_of_getElem? (i := 431) (by decide +kernel)⟩
theorem lw_p3 : lw_okq (⟨"Slicehouse$Worker", "welcome", "(II)V"⟩, 18) := ⟨⟨by decide +kernel, by decide +kernel⟩, List.mem_of_getElem? (i := 151) (by decide +kernel), List.mem_of_getElem? (i := 435) (by decide +kernel), List.mem_of_getElem? (i := 436) (by decide +kernel)⟩
theorem lw_p4 : lw_okq (⟨"Slicehouse$Worker", "usesLevels", "()Z"⟩, 18) := ⟨⟨by decide +kernel, by decide +kernel⟩, List.mem_of_getElem? (i := 151) (by decide +kernel), List.mem_of_getElem? (i := 440) (by decide +kernel), List.mem_of_getElem? (i := 441) (by decide +kernel)⟩
theorem lw_p5 : lw_okq (⟨"Slicehouse$Worker", "endSlice", "()V"⟩, 18) := ⟨⟨by decide +kernel, by decide +kernel⟩, List.mem_of_getElem? (i := 151) (by decide +kernel), List.mem_of_getElem? (i := 449) (by decide +kernel), List.mem_of_getElem? (i := 450) (by decide +kernel)⟩
theorem lw_p6 : lw_okq (⟨"Slicehouse$Worker", "choose", "()V"⟩, 18) := ⟨⟨by decide +kernel, by decide +kernel⟩, List.mem_of_getElem? (i := 151) (by decide +kernel), List.mem_of_getElem? (i := 483) (by decide +kernel), List.mem_of_getElem? (i := 484) (by decide +kernel)⟩
theorem lw_p7 : lw_okq (⟨"Slicehouse$Worker", "drawn", "()I"⟩, 18) := ⟨⟨by decide +kernel, by decide +kernel⟩, List.mem_of_getElem? (i := 151) (by decide +kernel), List.mem_of_getElem? (i := 499) (by decide +kernel), List.mem_of_getElem? (i := 500) (by decide +kernel)⟩
theorem lw_p8 : lw_okq (⟨"Slicehouse$Worker", "leastByKey", "()I"⟩, 18) := ⟨⟨by decide +kernel, by decide +kernel⟩, List.mem_of_getElem? (i := 151) (by decide +kernel), List.mem_of_getElem? (i := 509) (by decide +kernel), List.mem_of_getElem? (i := 510) (by decide +kernel)⟩
theorem lw_p9 : lw_okq (⟨"Slicehouse$Worker", "keyOf", "(I)I"⟩, 18) := ⟨⟨by decide +kernel, by decide +kernel⟩, List.mem_of_getElem? (i := 151) (by decide +kernel), List.mem_of_getElem? (i := 513) (by decide +kernel), List.mem_of_getElem? (i := 514) (by decide +kernel)⟩
theorem lw_p10 : lw_okq (⟨"Slicehouse$Worker", "turnOf", "(I)I"⟩, 18) := ⟨⟨by decide +kernel, by decide +kernel⟩, List.mem_of_getElem? (i := 151) (by decide +kernel), List.mem_of_getElem? (i := 521) (by decide +kernel), List.mem_of_getElem? (i := 522) (by decide +kernel)⟩
theorem lw_p11 : lw_okq (⟨"Slicehouse$Worker", "pass", "(I)V"⟩, 18) := ⟨⟨by decide +kernel, by decide +kernel⟩, List.mem_of_getElem? (i := 151) (by decide +kernel), List.mem_of_getElem? (i := 525) (by decide +kernel), List.mem_of_getElem? (i := 526) (by decide +kernel)⟩
theorem lw_p12 : lw_okq (⟨"Slicehouse$Worker", "countKept", "()V"⟩, 18) := ⟨⟨by decide +kernel, by decide +kernel⟩, List.mem_of_getElem? (i := 151) (by decide +kernel), List.mem_of_getElem? (i := 534) (by decide +kernel), List.mem_of_getElem? (i := 535) (by decide +kernel)⟩
theorem lw_p13 : lw_okq (⟨"Slicehouse$Worker", "workAtChosen", "(I)V"⟩, 18) := ⟨⟨by decide +kernel, by decide +kernel⟩, List.mem_of_getElem? (i := 151) (by decide +kernel), List.mem_of_getElem? (i := 543) (by decide +kernel), List.mem_of_getElem? (i := 544) (by decide +kernel)⟩
theorem lw_p14 : lw_okq (⟨"Slicehouse$Pair", "least", "(ZI)I"⟩, 2) := ⟨⟨by decide +kernel, by decide +kernel⟩, List.mem_of_getElem? (i := 325) (by decide +kernel), List.mem_of_getElem? (i := 567) (by decide +kernel), List.mem_of_getElem? (i := 568) (by decide +kernel)⟩
theorem lw_p15 : lw_okq (⟨"Slicehouse", "haveRulesSameBusyTime", "()Z"⟩, 8) := ⟨⟨by decide +kernel, by decide +kernel⟩, List.mem_of_getElem? (i := 24) (by decide +kernel), List.mem_of_getElem? (i := 596) (by decide +kernel), List.mem_of_getElem? (i := 597) (by decide +kernel)⟩
def lw_privs_1 : List (MethodName × Nat) := [(⟨"Slicehouse$Worker", "begin", "()V"⟩, 18), (⟨"Slicehouse$Worker", "beginMoment", "(I)V"⟩, 18), (⟨"Slicehouse$Worker", "leastCount", "(I)I"⟩, 18), (⟨"Slicehouse$Worker", "welcome", "(II)V"⟩, 18), (⟨"Slicehouse$Worker", "usesLevels", "()Z"⟩, 18), (⟨"Slicehouse$Worker", "endSlice", "()V"⟩, 18), (⟨"Slicehouse$Worker", "choose", "()V"⟩, 18), (⟨"Slicehouse$Worker", "drawn", "()I"⟩, 18), (⟨"Slicehouse$Worker", "leastByKey", "()I"⟩, 18), (⟨"Slicehouse$Worker", "keyOf", "(I)I"⟩, 18), (⟨"Slicehouse$Worker", "turnOf", "(I)I"⟩, 18), (⟨"Slicehouse$Worker", "pass", "(I)V"⟩, 18), (⟨"Slicehouse$Worker", "countKept", "()V"⟩, 18), (⟨"Slicehouse$Worker", "workAtChosen", "(I)V"⟩, 18), (⟨"Slicehouse$Pair", "least", "(ZI)I"⟩, 2), (⟨"Slicehouse", "haveRulesSameBusyTime", "()Z"⟩, 8)]
theorem lw_r1 : ∀ q ∈ lw_privs_1, lw_okq q := List.forall_mem_cons.mpr ⟨lw_p0, List.forall_mem_cons.mpr ⟨lw_p1, List.forall_mem_cons.mpr ⟨lw_p2, List.forall_mem_cons.mpr ⟨lw_p3, List.forall_mem_cons.mpr ⟨lw_p4, List.forall_mem_cons.mpr ⟨lw_p5, List.forall_mem_cons.mpr ⟨lw_p6, List.forall_mem_cons.mpr ⟨lw_p7, List.forall_mem_cons.mpr ⟨lw_p8, List.forall_mem_cons.mpr ⟨lw_p9, List.forall_mem_cons.mpr ⟨lw_p10, List.forall_mem_cons.mpr ⟨lw_p11, List.forall_mem_cons.mpr ⟨lw_p12, List.forall_mem_cons.mpr ⟨lw_p13, List.forall_mem_cons.mpr ⟨lw_p14, List.forall_mem_cons.mpr ⟨lw_p15, fun _ h => absurd h List.not_mem_nil⟩⟩⟩⟩⟩⟩⟩⟩⟩⟩⟩⟩⟩⟩⟩⟩
theorem lw_p16 : lw_okq (⟨"Slicehouse", "keepsDeadlines", "(I)Z"⟩, 8) := ⟨⟨by decide +kernel, by decide +kernel⟩, List.mem_of_getElem? (i := 24) (by decide +kernel), List.mem_of_getElem? (i := 614) (by decide +kernel), List.mem_of_getElem? (i := 615) (by decide +kernel)⟩
theorem lw_p17 : lw_okq (⟨"Slicehouse", "hasLeastLeftLeastEnds", "()Z"⟩, 8) := ⟨⟨by decide +kernel, by decide +kernel⟩, List.mem_of_getElem? (i := 24) (by decide +kernel), List.mem_of_getElem? (i := 618) (by decide +kernel), List.mem_of_getElem? (i := 619) (by decide +kernel)⟩
theorem lw_p18 : lw_okq (⟨"Slicehouse", "doesSomeRuleKeepDeadlines", "()Z"⟩, 8) := ⟨⟨by decide +kernel, by decide +kernel⟩, List.mem_of_getElem? (i := 24) (by decide +kernel), List.mem_of_getElem? (i := 622) (by decide +kernel), List.mem_of_getElem? (i := 623) (by decide +kernel)⟩
theorem lw_p19 : lw_okq (⟨"java/lang/Throwable", "fillInStackTrace", "(I)Ljava/lang/Throwable;"⟩, 6) := ⟨⟨by decide +kernel, by decide +kernel⟩, List.mem_of_getElem? (i := 672) (by decide +kernel), List.mem_of_getElem? (i := 670) (by decide +kernel), List.mem_of_getElem? (i := 671) (by decide +kernel)⟩
theorem lw_p20 : lw_okq (⟨"Slicehouse", "isRingFair", "()Z"⟩, 8) := ⟨⟨by decide +kernel, by decide +kernel⟩, List.mem_of_getElem? (i := 24) (by decide +kernel), List.mem_of_getElem? (i := 707) (by decide +kernel), List.mem_of_getElem? (i := 708) (by decide +kernel)⟩
theorem lw_p21 : lw_okq (⟨"Slicehouse", "isHighestFreeInTime", "()Z"⟩, 8) := ⟨⟨by decide +kernel, by decide +kernel⟩, List.mem_of_getElem? (i := 24) (by decide +kernel), List.mem_of_getElem? (i := 719) (by decide +kernel), List.mem_of_getElem? (i := 720) (by decide +kernel)⟩
theorem lw_p22 : lw_okq (⟨"Slicehouse$Jobs", "longestRest", "(II)I"⟩, 10) := ⟨⟨by decide +kernel, by decide +kernel⟩, List.mem_of_getElem? (i := 32) (by decide +kernel), List.mem_of_getElem? (i := 731) (by decide +kernel), List.mem_of_getElem? (i := 732) (by decide +kernel)⟩
theorem lw_p23 : lw_okq (⟨"Slicehouse", "needJob", "(I)V"⟩, 8) := ⟨⟨by decide +kernel, by decide +kernel⟩, List.mem_of_getElem? (i := 24) (by decide +kernel), List.mem_of_getElem? (i := 772) (by decide +kernel), List.mem_of_getElem? (i := 773) (by decide +kernel)⟩
theorem lw_p24 : lw_okq (⟨"Slicehouse", "needMoment", "(I)V"⟩, 8) := ⟨⟨by decide +kernel, by decide +kernel⟩, List.mem_of_getElem? (i := 24) (by decide +kernel), List.mem_of_getElem? (i := 837) (by decide +kernel), List.mem_of_getElem? (i := 838) (by decide +kernel)⟩
theorem lw_p25 : lw_okq (⟨"Slicehouse", "needRun", "()V"⟩, 8) := ⟨⟨by decide +kernel, by decide +kernel⟩, List.mem_of_getElem? (i := 24) (by decide +kernel), List.mem_of_getElem? (i := 841) (by decide +kernel), List.mem_of_getElem? (i := 842) (by decide +kernel)⟩
theorem lw_p26 : lw_okq (⟨"Slicehouse$Course", "beginsBusy", "(I)Z"⟩, 3) := ⟨⟨by decide +kernel, by decide +kernel⟩, List.mem_of_getElem? (i := 223) (by decide +kernel), List.mem_of_getElem? (i := 919) (by decide +kernel), List.mem_of_getElem? (i := 920) (by decide +kernel)⟩
theorem lw_p27 : lw_okq (⟨"Slicehouse$Tasks", "goesAhead", "(II)Z"⟩, 4) := ⟨⟨by decide +kernel, by decide +kernel⟩, List.mem_of_getElem? (i := 97) (by decide +kernel), List.mem_of_getElem? (i := 999) (by decide +kernel), List.mem_of_getElem? (i := 1000) (by decide +kernel)⟩
theorem lw_p28 : lw_okq (⟨"SlicehouseModel", "refuse", "(I)I"⟩, 43) := ⟨⟨by decide +kernel, by decide +kernel⟩, List.mem_of_getElem? (i := 1021) (by decide +kernel), List.mem_of_getElem? (i := 1169) (by decide +kernel), List.mem_of_getElem? (i := 1170) (by decide +kernel)⟩
theorem lw_p29 : lw_okq (⟨"SlicehouseModel", "changed", "(I)I"⟩, 43) := ⟨⟨by decide +kernel, by decide +kernel⟩, List.mem_of_getElem? (i := 1021) (by decide +kernel), List.mem_of_getElem? (i := 1173) (by decide +kernel), List.mem_of_getElem? (i := 1174) (by decide +kernel)⟩
theorem lw_p30 : lw_okq (⟨"SlicehouseModel", "told", "(I)I"⟩, 43) := ⟨⟨by decide +kernel, by decide +kernel⟩, List.mem_of_getElem? (i := 1021) (by decide +kernel), List.mem_of_getElem? (i := 1177) (by decide +kernel), List.mem_of_getElem? (i := 1178) (by decide +kernel)⟩
theorem lw_p31 : lw_okq (⟨"SlicehouseModel", "isJob", "(I)Z"⟩, 43) := ⟨⟨by decide +kernel, by decide +kernel⟩, List.mem_of_getElem? (i := 1021) (by decide +kernel), List.mem_of_getElem? (i := 1185) (by decide +kernel), List.mem_of_getElem? (i := 1186) (by decide +kernel)⟩
def lw_privs_2 : List (MethodName × Nat) := [(⟨"Slicehouse", "keepsDeadlines", "(I)Z"⟩, 8), (⟨"Slicehouse", "hasLeastLeftLeastEnds", "()Z"⟩, 8), (⟨"Slicehouse", "doesSomeRuleKeepDeadlines", "()Z"⟩, 8), (⟨"java/lang/Throwable", "fillInStackTrace", "(I)Ljava/lang/Throwable;"⟩, 6), (⟨"Slicehouse", "isRingFair", "()Z"⟩, 8), (⟨"Slicehouse", "isHighestFreeInTime", "()Z"⟩, 8), (⟨"Slicehouse$Jobs", "longestRest", "(II)I"⟩, 10), (⟨"Slicehouse", "needJob", "(I)V"⟩, 8), (⟨"Slicehouse", "needMoment", "(I)V"⟩, 8), (⟨"Slicehouse", "needRun", "()V"⟩, 8), (⟨"Slicehouse$Course", "beginsBusy", "(I)Z"⟩, 3), (⟨"Slicehouse$Tasks", "goesAhead", "(II)Z"⟩, 4), (⟨"SlicehouseModel", "refuse", "(I)I"⟩, 43), (⟨"SlicehouseModel", "changed", "(I)I"⟩, 43), (⟨"SlicehouseModel", "told", "(I)I"⟩, 43), (⟨"SlicehouseModel", "isJob", "(I)Z"⟩, 43)]
theorem lw_r2 : ∀ q ∈ lw_privs_2, lw_okq q := List.forall_mem_cons.mpr ⟨lw_p16, List.forall_mem_cons.mpr ⟨lw_p17, List.forall_mem_cons.mpr ⟨lw_p18, List.forall_mem_cons.mpr ⟨lw_p19, List.forall_mem_cons.mpr ⟨lw_p20, List.forall_mem_cons.mpr ⟨lw_p21, List.forall_mem_cons.mpr ⟨lw_p22, List.forall_mem_cons.mpr ⟨lw_p23, List.forall_mem_cons.mpr ⟨lw_p24, List.forall_mem_cons.mpr ⟨lw_p25, List.forall_mem_cons.mpr ⟨lw_p26, List.forall_mem_cons.mpr ⟨lw_p27, List.forall_mem_cons.mpr ⟨lw_p28, List.forall_mem_cons.mpr ⟨lw_p29, List.forall_mem_cons.mpr ⟨lw_p30, List.forall_mem_cons.mpr ⟨lw_p31, fun _ h => absurd h List.not_mem_nil⟩⟩⟩⟩⟩⟩⟩⟩⟩⟩⟩⟩⟩⟩⟩⟩
theorem lw_p32 : lw_okq (⟨"SlicehouseModel", "runs", "(IIIZ)V"⟩, 43) := ⟨⟨by decide +kernel, by decide +kernel⟩, List.mem_of_getElem? (i := 1021) (by decide +kernel), List.mem_of_getElem? (i := 1208) (by decide +kernel), List.mem_of_getElem? (i := 1209) (by decide +kernel)⟩
theorem lw_p33 : lw_okq (⟨"SlicehouseModel", "begins", "()V"⟩, 43) := ⟨⟨by decide +kernel, by decide +kernel⟩, List.mem_of_getElem? (i := 1021) (by decide +kernel), List.mem_of_getElem? (i := 1212) (by decide +kernel), List.mem_of_getElem? (i := 1213) (by decide +kernel)⟩
theorem lw_p34 : lw_okq (⟨"SlicehouseModel", "rises", "()V"⟩, 43) := ⟨⟨by decide +kernel, by decide +kernel⟩, List.mem_of_getElem? (i := 1021) (by decide +kernel), List.mem_of_getElem? (i := 1216) (by decide +kernel), List.mem_of_getElem? (i := 1217) (by decide +kernel)⟩
theorem lw_p35 : lw_okq (⟨"SlicehouseModel", "takes", "(I)I"⟩, 43) := ⟨⟨by decide +kernel, by decide +kernel⟩, List.mem_of_getElem? (i := 1021) (by decide +kernel), List.mem_of_getElem? (i := 1220) (by decide +kernel), List.mem_of_getElem? (i := 1221) (by decide +kernel)⟩
theorem lw_p36 : lw_okq (⟨"SlicehouseModel", "joins", "(II)V"⟩, 43) := ⟨⟨by decide +kernel, by decide +kernel⟩, List.mem_of_getElem? (i := 1021) (by decide +kernel), List.mem_of_getElem? (i := 1224) (by decide +kernel), List.mem_of_getElem? (i := 1225) (by decide +kernel)⟩
theorem lw_p37 : lw_okq (⟨"SlicehouseModel", "becomesReady", "(II)V"⟩, 43) := ⟨⟨by decide +kernel, by decide +kernel⟩, List.mem_of_getElem? (i := 1021) (by decide +kernel), List.mem_of_getElem? (i := 1228) (by decide +kernel), List.mem_of_getElem? (i := 1229) (by decide +kernel)⟩
theorem lw_p38 : lw_okq (⟨"SlicehouseModel", "canBegin", "(II)Z"⟩, 43) := ⟨⟨by decide +kernel, by decide +kernel⟩, List.mem_of_getElem? (i := 1021) (by decide +kernel), List.mem_of_getElem? (i := 1232) (by decide +kernel), List.mem_of_getElem? (i := 1233) (by decide +kernel)⟩
theorem lw_p39 : lw_okq (⟨"SlicehouseModel", "leastCount", "(I)I"⟩, 43) := ⟨⟨by decide +kernel, by decide +kernel⟩, List.mem_of_getElem? (i := 1021) (by decide +kernel), List.mem_of_getElem? (i := 1236) (by decide +kernel), List.mem_of_getElem? (i := 1237) (by decide +kernel)⟩
theorem lw_p40 : lw_okq (⟨"SlicehouseModel", "chooses", "(IZ)I"⟩, 43) := ⟨⟨by decide +kernel, by decide +kernel⟩, List.mem_of_getElem? (i := 1021) (by decide +kernel), List.mem_of_getElem? (i := 1240) (by decide +kernel), List.mem_of_getElem? (i := 1241) (by decide +kernel)⟩
theorem lw_p41 : lw_okq (⟨"SlicehouseModel", "isThere", "(I)Z"⟩, 43) := ⟨⟨by decide +kernel, by decide +kernel⟩, List.mem_of_getElem? (i := 1021) (by decide +kernel), List.mem_of_getElem? (i := 1244) (by decide +kernel), List.mem_of_getElem? (i := 1245) (by decide +kernel)⟩
theorem lw_p42 : lw_okq (⟨"SlicehouseModel", "keeper", "(I)I"⟩, 43) := ⟨⟨by decide +kernel, by decide +kernel⟩, List.mem_of_getElem? (i := 1021) (by decide +kernel), List.mem_of_getElem? (i := 1248) (by decide +kernel), List.mem_of_getElem? (i := 1249) (by decide +kernel)⟩
theorem lw_p43 : lw_okq (⟨"SlicehouseModel", "needs", "(I)I"⟩, 43) := ⟨⟨by decide +kernel, by decide +kernel⟩, List.mem_of_getElem? (i := 1021) (by decide +kernel), List.mem_of_getElem? (i := 1252) (by decide +kernel), List.mem_of_getElem? (i := 1253) (by decide +kernel)⟩
theorem lw_p44 : lw_okq (⟨"SlicehouseModel", "has", "(II)Z"⟩, 43) := ⟨⟨by decide +kernel, by decide +kernel⟩, List.mem_of_getElem? (i := 1021) (by decide +kernel), List.mem_of_getElem? (i := 1256) (by decide +kernel), List.mem_of_getElem? (i := 1257) (by decide +kernel)⟩
theorem lw_p45 : lw_okq (⟨"SlicehouseModel", "keyOf", "(IIZ)I"⟩, 43) := ⟨⟨by decide +kernel, by decide +kernel⟩, List.mem_of_getElem? (i := 1021) (by decide +kernel), List.mem_of_getElem? (i := 1260) (by decide +kernel), List.mem_of_getElem? (i := 1261) (by decide +kernel)⟩
theorem lw_p46 : lw_okq (⟨"SlicehouseModel", "rankOf", "(IZ)I"⟩, 43) := ⟨⟨by decide +kernel, by decide +kernel⟩, List.mem_of_getElem? (i := 1021) (by decide +kernel), List.mem_of_getElem? (i := 1264) (by decide +kernel), List.mem_of_getElem? (i := 1265) (by decide +kernel)⟩
theorem lw_p47 : lw_okq (⟨"SlicehouseModel", "drawnJob", "()I"⟩, 43) := ⟨⟨by decide +kernel, by decide +kernel⟩, List.mem_of_getElem? (i := 1021) (by decide +kernel), List.mem_of_getElem? (i := 1268) (by decide +kernel), List.mem_of_getElem? (i := 1269) (by decide +kernel)⟩
def lw_privs_3 : List (MethodName × Nat) := [(⟨"SlicehouseModel", "runs", "(IIIZ)V"⟩, 43), (⟨"SlicehouseModel", "begins", "()V"⟩, 43), (⟨"SlicehouseModel", "rises", "()V"⟩, 43), (⟨"SlicehouseModel", "takes", "(I)I"⟩, 43), (⟨"SlicehouseModel", "joins", "(II)V"⟩, 43), (⟨"SlicehouseModel", "becomesReady", "(II)V"⟩, 43), (⟨"SlicehouseModel", "canBegin", "(II)Z"⟩, 43), (⟨"SlicehouseModel", "leastCount", "(I)I"⟩, 43), (⟨"SlicehouseModel", "chooses", "(IZ)I"⟩, 43), (⟨"SlicehouseModel", "isThere", "(I)Z"⟩, 43), (⟨"SlicehouseModel", "keeper", "(I)I"⟩, 43), (⟨"SlicehouseModel", "needs", "(I)I"⟩, 43), (⟨"SlicehouseModel", "has", "(II)Z"⟩, 43), (⟨"SlicehouseModel", "keyOf", "(IIZ)I"⟩, 43), (⟨"SlicehouseModel", "rankOf", "(IZ)I"⟩, 43), (⟨"SlicehouseModel", "drawnJob", "()I"⟩, 43)]
theorem lw_r3 : ∀ q ∈ lw_privs_3, lw_okq q := List.forall_mem_cons.mpr ⟨lw_p32, List.forall_mem_cons.mpr ⟨lw_p33, List.forall_mem_cons.mpr ⟨lw_p34, List.forall_mem_cons.mpr ⟨lw_p35, List.forall_mem_cons.mpr ⟨lw_p36, List.forall_mem_cons.mpr ⟨lw_p37, List.forall_mem_cons.mpr ⟨lw_p38, List.forall_mem_cons.mpr ⟨lw_p39, List.forall_mem_cons.mpr ⟨lw_p40, List.forall_mem_cons.mpr ⟨lw_p41, List.forall_mem_cons.mpr ⟨lw_p42, List.forall_mem_cons.mpr ⟨lw_p43, List.forall_mem_cons.mpr ⟨lw_p44, List.forall_mem_cons.mpr ⟨lw_p45, List.forall_mem_cons.mpr ⟨lw_p46, List.forall_mem_cons.mpr ⟨lw_p47, fun _ h => absurd h List.not_mem_nil⟩⟩⟩⟩⟩⟩⟩⟩⟩⟩⟩⟩⟩⟩⟩⟩
theorem lw_p48 : lw_okq (⟨"SlicehouseModel", "draws", "(I)I"⟩, 43) := ⟨⟨by decide +kernel, by decide +kernel⟩, List.mem_of_getElem? (i := 1021) (by decide +kernel), List.mem_of_getElem? (i := 1272) (by decide +kernel), List.mem_of_getElem? (i := 1273) (by decide +kernel)⟩
theorem lw_p49 : lw_okq (⟨"SlicehouseModel", "turnOf", "(III)I"⟩, 43) := ⟨⟨by decide +kernel, by decide +kernel⟩, List.mem_of_getElem? (i := 1021) (by decide +kernel), List.mem_of_getElem? (i := 1277) (by decide +kernel), List.mem_of_getElem? (i := 1278) (by decide +kernel)⟩
theorem lw_p50 : lw_okq (⟨"SlicehouseModel", "keepsWaiting", "(I)V"⟩, 43) := ⟨⟨by decide +kernel, by decide +kernel⟩, List.mem_of_getElem? (i := 1021) (by decide +kernel), List.mem_of_getElem? (i := 1281) (by decide +kernel), List.mem_of_getElem? (i := 1282) (by decide +kernel)⟩
theorem lw_p51 : lw_okq (⟨"SlicehouseModel", "isRun", "()Z"⟩, 43) := ⟨⟨by decide +kernel, by decide +kernel⟩, List.mem_of_getElem? (i := 1021) (by decide +kernel), List.mem_of_getElem? (i := 1289) (by decide +kernel), List.mem_of_getElem? (i := 1290) (by decide +kernel)⟩
theorem lw_p52 : lw_okq (⟨"SlicehouseModel", "atMoment", "(I)I"⟩, 43) := ⟨⟨by decide +kernel, by decide +kernel⟩, List.mem_of_getElem? (i := 1021) (by decide +kernel), List.mem_of_getElem? (i := 1293) (by decide +kernel), List.mem_of_getElem? (i := 1294) (by decide +kernel)⟩
theorem lw_p53 : lw_okq (⟨"SlicehouseModel", "leftOf", "(II)I"⟩, 43) := ⟨⟨by decide +kernel, by decide +kernel⟩, List.mem_of_getElem? (i := 1021) (by decide +kernel), List.mem_of_getElem? (i := 1301) (by decide +kernel), List.mem_of_getElem? (i := 1302) (by decide +kernel)⟩
theorem lw_p54 : lw_okq (⟨"SlicehouseModel", "sumOf", "()I"⟩, 43) := ⟨⟨by decide +kernel, by decide +kernel⟩, List.mem_of_getElem? (i := 1021) (by decide +kernel), List.mem_of_getElem? (i := 1317) (by decide +kernel), List.mem_of_getElem? (i := 1318) (by decide +kernel)⟩
theorem lw_p55 : lw_okq (⟨"SlicehouseModel", "isLikeLatest", "()Z"⟩, 43) := ⟨⟨by decide +kernel, by decide +kernel⟩, List.mem_of_getElem? (i := 1021) (by decide +kernel), List.mem_of_getElem? (i := 1355) (by decide +kernel), List.mem_of_getElem? (i := 1356) (by decide +kernel)⟩
theorem lw_p56 : lw_okq (⟨"SlicehouseModel", "sumOfWork", "()I"⟩, 43) := ⟨⟨by decide +kernel, by decide +kernel⟩, List.mem_of_getElem? (i := 1021) (by decide +kernel), List.mem_of_getElem? (i := 1363) (by decide +kernel), List.mem_of_getElem? (i := 1364) (by decide +kernel)⟩
theorem lw_p57 : lw_okq (⟨"SlicehouseModel", "works", "(II)V"⟩, 43) := ⟨⟨by decide +kernel, by decide +kernel⟩, List.mem_of_getElem? (i := 1021) (by decide +kernel), List.mem_of_getElem? (i := 1371) (by decide +kernel), List.mem_of_getElem? (i := 1372) (by decide +kernel)⟩
theorem lw_p58 : lw_okq (⟨"SlicehouseModel", "isAnyWaiting", "()Z"⟩, 43) := ⟨⟨by decide +kernel, by decide +kernel⟩, List.mem_of_getElem? (i := 1021) (by decide +kernel), List.mem_of_getElem? (i := 1379) (by decide +kernel), List.mem_of_getElem? (i := 1380) (by decide +kernel)⟩
theorem lw_p59 : lw_okq (⟨"SlicehouseModel", "denies", "(I)Z"⟩, 43) := ⟨⟨by decide +kernel, by decide +kernel⟩, List.mem_of_getElem? (i := 1021) (by decide +kernel), List.mem_of_getElem? (i := 1383) (by decide +kernel), List.mem_of_getElem? (i := 1384) (by decide +kernel)⟩
theorem lw_p60 : lw_okq (⟨"SlicehouseModel", "areKept", "()Z"⟩, 43) := ⟨⟨by decide +kernel, by decide +kernel⟩, List.mem_of_getElem? (i := 1021) (by decide +kernel), List.mem_of_getElem? (i := 1387) (by decide +kernel), List.mem_of_getElem? (i := 1388) (by decide +kernel)⟩
theorem lw_p61 : lw_okq (⟨"SlicehouseModel", "isAnyFull", "()Z"⟩, 43) := ⟨⟨by decide +kernel, by decide +kernel⟩, List.mem_of_getElem? (i := 1021) (by decide +kernel), List.mem_of_getElem? (i := 1395) (by decide +kernel), List.mem_of_getElem? (i := 1396) (by decide +kernel)⟩
theorem lw_p62 : lw_okq (⟨"SlicehouseModel", "workWithin", "(II)I"⟩, 43) := ⟨⟨by decide +kernel, by decide +kernel⟩, List.mem_of_getElem? (i := 1021) (by decide +kernel), List.mem_of_getElem? (i := 1399) (by decide +kernel), List.mem_of_getElem? (i := 1400) (by decide +kernel)⟩
theorem lw_p63 : lw_okq (⟨"SlicehouseModel", "isLikeBusy", "()Z"⟩, 43) := ⟨⟨by decide +kernel, by decide +kernel⟩, List.mem_of_getElem? (i := 1021) (by decide +kernel), List.mem_of_getElem? (i := 1427) (by decide +kernel), List.mem_of_getElem? (i := 1428) (by decide +kernel)⟩
def lw_privs_4 : List (MethodName × Nat) := [(⟨"SlicehouseModel", "draws", "(I)I"⟩, 43), (⟨"SlicehouseModel", "turnOf", "(III)I"⟩, 43), (⟨"SlicehouseModel", "keepsWaiting", "(I)V"⟩, 43), (⟨"SlicehouseModel", "isRun", "()Z"⟩, 43), (⟨"SlicehouseModel", "atMoment", "(I)I"⟩, 43), (⟨"SlicehouseModel", "leftOf", "(II)I"⟩, 43), (⟨"SlicehouseModel", "sumOf", "()I"⟩, 43), (⟨"SlicehouseModel", "isLikeLatest", "()Z"⟩, 43), (⟨"SlicehouseModel", "sumOfWork", "()I"⟩, 43), (⟨"SlicehouseModel", "works", "(II)V"⟩, 43), (⟨"SlicehouseModel", "isAnyWaiting", "()Z"⟩, 43), (⟨"SlicehouseModel", "denies", "(I)Z"⟩, 43), (⟨"SlicehouseModel", "areKept", "()Z"⟩, 43), (⟨"SlicehouseModel", "isAnyFull", "()Z"⟩, 43), (⟨"SlicehouseModel", "workWithin", "(II)I"⟩, 43), (⟨"SlicehouseModel", "isLikeBusy", "()Z"⟩, 43)]
theorem lw_r4 : ∀ q ∈ lw_privs_4, lw_okq q := List.forall_mem_cons.mpr ⟨lw_p48, List.forall_mem_cons.mpr ⟨lw_p49, List.forall_mem_cons.mpr ⟨lw_p50, List.forall_mem_cons.mpr ⟨lw_p51, List.forall_mem_cons.mpr ⟨lw_p52, List.forall_mem_cons.mpr ⟨lw_p53, List.forall_mem_cons.mpr ⟨lw_p54, List.forall_mem_cons.mpr ⟨lw_p55, List.forall_mem_cons.mpr ⟨lw_p56, List.forall_mem_cons.mpr ⟨lw_p57, List.forall_mem_cons.mpr ⟨lw_p58, List.forall_mem_cons.mpr ⟨lw_p59, List.forall_mem_cons.mpr ⟨lw_p60, List.forall_mem_cons.mpr ⟨lw_p61, List.forall_mem_cons.mpr ⟨lw_p62, List.forall_mem_cons.mpr ⟨lw_p63, fun _ h => absurd h List.not_mem_nil⟩⟩⟩⟩⟩⟩⟩⟩⟩⟩⟩⟩⟩⟩⟩⟩
theorem lw_p64 : lw_okq (⟨"SlicehouseModel", "lentErrors", "()I"⟩, 43) := ⟨⟨by decide +kernel, by decide +kernel⟩, List.mem_of_getElem? (i := 1021) (by decide +kernel), List.mem_of_getElem? (i := 1431) (by decide +kernel), List.mem_of_getElem? (i := 1432) (by decide +kernel)⟩
theorem lw_p65 : lw_okq (⟨"SlicehouseModel", "longestFor", "(II)I"⟩, 43) := ⟨⟨by decide +kernel, by decide +kernel⟩, List.mem_of_getElem? (i := 1021) (by decide +kernel), List.mem_of_getElem? (i := 1435) (by decide +kernel), List.mem_of_getElem? (i := 1436) (by decide +kernel)⟩
def lw_privs_5 : List (MethodName × Nat) := [(⟨"SlicehouseModel", "lentErrors", "()I"⟩, 43), (⟨"SlicehouseModel", "longestFor", "(II)I"⟩, 43)]
theorem lw_r5 : ∀ q ∈ lw_privs_5, lw_okq q := List.forall_mem_cons.mpr ⟨lw_p64, List.forall_mem_cons.mpr ⟨lw_p65, fun _ h => absurd h List.not_mem_nil⟩⟩
def lw_privs : List (MethodName × Nat) := lw_privs_1 ++ (lw_privs_2 ++ (lw_privs_3 ++ (lw_privs_4 ++ (lw_privs_5))))
def lw_tbl : List Cond := k2_sels lw_privs ++ tables_1
theorem lw_privs_ok : ∀ q ∈ lw_privs, lw_okq q := by
  show ∀ q ∈ lw_privs_1 ++ (lw_privs_2 ++ (lw_privs_3 ++ (lw_privs_4 ++ (lw_privs_5)))), lw_okq q
  exact List.forall_mem_append.mpr ⟨lw_r1, List.forall_mem_append.mpr ⟨lw_r2, List.forall_mem_append.mpr ⟨lw_r3, List.forall_mem_append.mpr ⟨lw_r4, lw_r5⟩⟩⟩⟩
/-- the streams that the claim lets the run draw from -/
abbrev lw_cs : List Choice := [Jvm.Choice.named "NaN.bits"]
theorem lw_bits : nanBits ∈ lw_cs := by first | decide | exact List.mem_cons_self | simp [lw_cs, nanBits]
-- ===== end of PART A; then your names; then what follows =====
end
section
/-! ===== BEGIN words of one list among another's, by their places ===== -/
theorem goodIn_r {big : List Cond} (ws : List Cond) (ps : List Nat) (hp : ws = ps.filterMap (fun i => big[i]?)) (h : ws.all goodWord = true) : GoodIn big ws := by
  intro w hw
  have h1 := List.all_eq_true.mp h w hw
  rw [hp] at hw
  obtain ⟨i, -, hi⟩ := List.mem_filterMap.mp hw
  have hm : w ∈ big := by first | exact List.mem_of_getElem? hi | exact List.getElem?_mem hi
  exact ⟨hm, good_of_word h1⟩
theorem goodIn_app {big a b : List Cond} (ha : GoodIn big a) (hb : GoodIn big b) : GoodIn big (a ++ b) := fun w h => (List.mem_append.mp h).elim (ha w) (hb w)
theorem goodIn_ca {big a b : List Cond} {c : Cond} (ha : GoodIn big (c :: a)) (hb : GoodIn big b) : GoodIn big (c :: (a ++ b)) := fun w h => (List.mem_cons.mp h).elim (fun e => ha w (List.mem_cons.mpr (Or.inl e))) (fun h => (List.mem_append.mp h).elim (fun h => ha w (List.mem_cons.mpr (Or.inr h))) (hb w))
theorem goodIn_sub {big ws : List Cond} (hm : ∀ w ∈ ws, w ∈ big) (h : ws.all goodWord = true) : GoodIn big ws := fun w hw => ⟨hm w hw, good_of_word (List.all_eq_true.mp h w hw)⟩
/-! ===== END ===== -/

/-! ===== BEGIN exceptions that leave a method, and their catching by the caller (launches without stack traces) ===== -/
section VXA
/-! The laws vx_back, vx_callV, vx_callS, vx_callSW, vx_throw0, vx_throwS follow proofs of the library, with one case more: JvmDerived/Free/Laws.lean (Back.of_free), Shelf42/LK1.lean (callV, callS), Shelf/KitTraced.lean (throwNew0V, throwNewS). -/
/-- where a method has thrown q: the class by its name, the cell, what was written, the world -/
def vx_T (XC : String → State → State → Prop) (st : State) (q : Addr) (t : State) (mc ms : Nat) (free : Addr → Prop) : Prop :=
  ∃ (E : String) (ce : Cell) (L : List Loc), XC E st t ∧ t.heap[q]? = some ce ∧ ce.vm = .none ∧ st.vm.findClass E = some ce.cls ∧ st.WarmedH t.vm ∧ st.sameButNew ({ t with vm := st.vm } : State) L mc ms ∧ ∀ z ∈ L, free z.base
def vx_Q (Qc : Array Value → State → Outcome → State → Prop) (XC : String → State → State → Prop) (mc ms : Nat) (free : Addr → Prop) : Array Value → State → Outcome → State → Prop := fun a st o t =>
  (Qc a st o t ∧ ∃ L, FrameEnd st o t L mc ms ∧ ∀ q ∈ L, free q.base) ∨ ∃ q, o = .threw q ∧ vx_T XC st q t mc ms free
/-- a callee that returns or throws -/
def vx_Met (l : Launch) (y : MethodName) (ws : List Cond) (rm : Room) (Pc : Array Value → State → Prop) (Qc : Array Value → State → Outcome → State → Prop) (XC : String → State → State → Prop) (mc ms : Nat) (free : Addr → Prop) : Prop :=
  MetFree l y (headSpec ws rm) Pc (fun _ _ _ _ _ => True) (vx_Q Qc XC mc ms free)
def vx_Post (XC : String → State → State → Prop) (mc ms : Nat) (free : Addr → Prop) : Pt → Array Value → Addr → Pt → Prop := fun A a q B =>
  ∃ (g : JFrame) (mk : MethodId) (t : State) (L : List Loc) (E : String) (ce : Cell), B.U.heap = t.heap ∧ B.U.vm = t.vm ∧ XC E (A.U.calling g mk a) t ∧ t.heap[q]? = some ce ∧ ce.vm = .none ∧ A.U.vm.findClass E = some ce.cls ∧ B.locs = A.locs ++ L ∧ (∀ z ∈ L, free z.base) ∧ B.cells = A.cells + mc ∧ B.slots = A.slots + ms
def vx_Back (l : Launch) (R : Room) (p : Program) (e : Env) (below : List Frame) (s : State) (sargs : Array Value) (y : MethodName) (len W9 : Nat)
    (Pre : Pt → Array Value → Prop) (Post : Pt → Array Value → Option Value → Pt → Prop) (PostX : Pt → Array Value → Addr → Pt → Prop) : Prop :=
  ∀ (m : MethodId) (meth : Method) (c : Code) (A : Pt) (g : JFrame) (ig : Instr) (mk : MethodId) (a : Array Value),
    Stand p l e R s m sargs below meth c A.U A.locs A.cells A.slots → g.method = m → g.locals.size = c.maxLocals → decode c.code g.pc = .ok (ig, len) →
    2 * g.monitorRoom + (g.stack.map fun v => v.category).sum ≤ W9 → A.U.methodNamed? y = some mk → Pre A a →
    (∃ (v : Option Value) (B : Pt), Stand p l e R s m sargs below meth c B.U B.locs B.cells B.slots ∧ Post A a v B ∧
      Steps p.tables e below (doInvoke e (A.U.setTop g) [] mk a).1 (B.U.setTop { g with pc := g.pc + len, stack := v.toList ++ g.stack })) ∨
    (∃ (q : Addr) (B : Pt), Stand p l e R s m sargs below meth c B.U B.locs B.cells B.slots ∧ PostX A a q B ∧
      Steps p.tables e below (doInvoke e (A.U.setTop g) [] mk a).1 ((B.U.setTop g).pushFrame (.throwing q)))
section Payer
variable {l : Launch} {R : Room} {p : Program} {e : Env} {below : List Frame} {s : State} {sargs : Array Value} {y : MethodName} {len W9 : Nat}
theorem vx_back {ws : List Cond} {rm : Room} {Pc : Array Value → State → Prop} {Qc : Array Value → State → Outcome → State → Prop} {XC : String → State → State → Prop} {mc ms : Nat} {free : Addr → Prop} {bytes : ByteArray} {maxL : Nat} {ret : Option FieldType}
    (hM : vx_Met l y ws rm Pc Qc XC mc ms free) (hblind : FrameBlind Pc) (hrc : rm.cells = mc) (hrs : rm.slots = ms)
    (hframes : rm.frames + 1 ≤ R.frames) (hlocals : W9 + (maxL + 11) + rm.locals ≤ R.locals)
    (hws : ∀ w ∈ ws, ∀ a' U, s.WarmedH U.vm → w.before a' U = true) (hcode : Cond.code y bytes maxL ret ∈ ws) (hinit : ∀ a' U, s.WarmedH U.vm → (Cond.initialized y.cls).before a' U = true) :
    vx_Back l R p e below s sargs y len W9 (PreOf R mc ms Pc) (PostOf Qc mc ms free) (vx_Post XC mc ms free) := by
  intro m meth c A g ig mk a X hg hsize hdg hW hn hp
  have h1 : (headSpec ws rm).pre.before a A.U = true := atoms_intro fun w hw => hws w hw _ _ X.warmed
  have h2 : (Cond.code y bytes maxL ret).before a A.U = true := hws _ hcode _ _ X.warmed
  have h3 : (Cond.initialized y.cls).before a A.U = true := hinit _ _ X.warmed
  have h4 : A.cells + (headSpec ws rm).room.cells ≤ R.cells := by rw [show (headSpec ws rm).room.cells = mc from hrc]; exact hp.1
  have h5 : A.slots + (headSpec ws rm).room.slots ≤ R.slots := by rw [show (headSpec ws rm).room.slots = ms from hrs]; exact hp.2.1
  have hPc : Pc a (A.U.calling g mk a) := hblind _ _ _ _ hp.2.2
  obtain ⟨U, Ls, c0, s0⟩ := A
  dsimp only [Pt.U, Pt.locs, Pt.cells, Pt.slots] at h1 h2 h3 h4 h5 X hn hPc ⊢
  obtain ⟨methY, cY, hmY, hcY, -, hlY, -, -, -, -⟩ := Cond.code_spec hn h2
  obtain ⟨kY, hkY, -⟩ := className_of_methodNamed hn
  have hinitY : kY.init = .initialized := Cond.initialized_spec (findClass_of_methodNamed hn) hkY h3
  have h : At U g.method c below := by rw [hg]; exact X.here
  have hlocals9 : W9 + (maxL + 11) + (headSpec ws rm).room.locals ≤ R.locals := hlocals
  have happ : (headSpec ws rm).appliesLoose y e.platform (U.calling g mk a) = true :=
    Spec.appliesLoose_calling (g := g) h hdg hn hkY hinitY
      (X.room_calling (g := g) (R' := (headSpec ws rm).room) hsize hmY hcY hframes (by rw [hlY]; omega) h4 h5) h1
  obtain ⟨mid, hmid⟩ := h.above
  have hfr : (U.setTop g).frames = (.java g :: mid) ++ below := by rw [State.frames_setTop' g h.top, hmid]; rfl
  obtain ⟨o, s₂, hsteps, -, hend, hq⟩ := Steps.callFree hM p X.admits X.cas X.clock (acts := []) hfr happ hPc trivial
  have hq' : vx_Q Qc XC mc ms free a (U.calling g mk a) o s₂ := hq
  rw [State.frames_setTop' g h.top] at hend
  obtain ⟨g₀, hg0⟩ := Option.isSome_iff_exists.mp h.top
  obtain ⟨r, hr⟩ := State.topJava?_eq_some.mp hg0
  have hr' : (({ U with heap := s₂.heap, slotsUsed := s₂.slotsUsed } : State).setVm s₂.vm).frames = .java g₀ :: r := hr
  rcases hq' with ⟨hqc, L, hfe, hL⟩ | ⟨q, rfl, E, ce, L, hx, hce, hcv, hcl, hW₂, hsm, hL⟩
  · obtain ⟨⟨v, rfl⟩, hW₂, e2, q2, q3, q4, q5, q6⟩ := id hfe
    have e3 : s₂ = ({ (U.calling g mk a).setFrames s₂.frames with heap := s₂.heap, slotsUsed := s₂.slotsUsed } : State).setVm s₂.vm := by
      have : s₂ = ({ s₂ with vm := (U.calling g mk a).vm } : State).setVm s₂.vm := rfl
      rw [e2] at this
      exact this
    obtain ⟨c₂, i₂, len₂, hc₂, hd₂, hf₂⟩ := hend
    have hW' : U.WarmedH s₂.vm := hW₂
    have hcc : c₂ = c := by
      have h1 : s₂.code? g.method = U.code? g.method := by
        rw [State.code?_eq, State.code?_eq, hW'.alike.method?]
      exact Option.some.inj (hc₂.symm.trans (h1.trans h.code))
    subst hcc
    have hlen : len₂ = len := by rw [hdg] at hd₂; cases hd₂; rfl
    subst hlen
    have hs₂ : s₂ = (({ U with heap := s₂.heap, slotsUsed := s₂.slotsUsed } : State).setVm s₂.vm).setTop { g with pc := g.pc + len₂, stack := v.toList ++ g.stack } := by
      refine e3.trans ?_
      rw [hf₂, State.calling_eq h.top, State.setFrames_setFrames, State.setTop_of_frames _ hr', hr]
      rfl
    have hsame : U.sameButNew ({ U with heap := s₂.heap, slotsUsed := s₂.slotsUsed } : State) L mc ms := by
      refine ⟨?_, q2, q3, q4, q5, q6⟩
      obtain ⟨t, ht, -⟩ := State.frames_cons hr
      show ({ U with heap := s₂.heap, slotsUsed := s₂.slotsUsed } : State) = { U.setFrames U.frames with heap := s₂.heap, slotsUsed := s₂.slotsUsed }
      rw [State.setFrames_self ht]
    subst hg
    refine Or.inl ⟨v, ⟨(({ U with heap := s₂.heap, slotsUsed := s₂.slotsUsed } : State).setVm s₂.vm), Ls ++ L, c0 + mc, s0 + ms⟩,
      ⟨X.admits, X.cas, X.clock, X.frames, X.room, X.hears, X.method, X.code, (X.here.setHeapUsed s₂.heap s₂.slotsUsed).setVm hW'.alike, X.tail, State.WarmedH.trans X.warmed hW', X.limits, X.bytes, X.same.trans (hsame.setVm s.vm)⟩,
      ⟨g, mk, s₂, L, rfl, rfl, hqc, rfl, hL, rfl, rfl⟩, ?_⟩
    show Steps p.tables e below _ ((({ U with heap := s₂.heap, slotsUsed := s₂.slotsUsed } : State).setVm s₂.vm).setTop { g with pc := g.pc + len₂, stack := v.toList ++ g.stack })
    rw [← hs₂]
    exact hsteps
  · obtain ⟨e2, q2, q3, q4, q5, q6⟩ := id hsm
    have e3 : s₂ = ({ (U.calling g mk a).setFrames s₂.frames with heap := s₂.heap, slotsUsed := s₂.slotsUsed } : State).setVm s₂.vm := by
      have : s₂ = ({ s₂ with vm := (U.calling g mk a).vm } : State).setVm s₂.vm := rfl
      rw [e2] at this
      exact this
    have hf₂ : s₂.frames = .throwing q :: .java g :: U.frames.tail := hend
    have hW' : U.WarmedH s₂.vm := hW₂
    have hs₂ : s₂ = ((({ U with heap := s₂.heap, slotsUsed := s₂.slotsUsed } : State).setVm s₂.vm).setTop g).pushFrame (.throwing q) := by
      refine e3.trans ?_
      rw [hf₂, State.calling_eq h.top, State.setFrames_setFrames, State.pushFrame, State.frames_setTop _ hr', State.setTop_of_frames _ hr', State.setFrames_setFrames, hr]
      rfl
    have hsame : U.sameButNew ({ U with heap := s₂.heap, slotsUsed := s₂.slotsUsed } : State) L mc ms := by
      refine ⟨?_, q2, q3, q4, q5, q6⟩
      obtain ⟨t, ht, -⟩ := State.frames_cons hr
      show ({ U with heap := s₂.heap, slotsUsed := s₂.slotsUsed } : State) = { U.setFrames U.frames with heap := s₂.heap, slotsUsed := s₂.slotsUsed }
      rw [State.setFrames_self ht]
    subst hg
    refine Or.inr ⟨q, ⟨(({ U with heap := s₂.heap, slotsUsed := s₂.slotsUsed } : State).setVm s₂.vm), Ls ++ L, c0 + mc, s0 + ms⟩,
      ⟨X.admits, X.cas, X.clock, X.frames, X.room, X.hears, X.method, X.code, (X.here.setHeapUsed s₂.heap s₂.slotsUsed).setVm hW'.alike, X.tail, State.WarmedH.trans X.warmed hW', X.limits, X.bytes, X.same.trans (hsame.setVm s.vm)⟩,
      ⟨g, mk, s₂, L, E, ce, rfl, rfl, hx, hce, hcv, hcl, rfl, hL, rfl, rfl⟩, ?_⟩
    show Steps p.tables e below _ (((({ U with heap := s₂.heap, slotsUsed := s₂.slotsUsed } : State).setVm s₂.vm).setTop g).pushFrame (.throwing q))
    rw [← hs₂]
    exact hsteps
end Payer
section Calls
variable {p : Program} {l : Launch} {e : Env} {R : Room} {s : State} {m : MethodId} {args : Array Value} {below : List Frame} {meth : Method} {c : Code} {T : State} {locs : List Loc} {cells slots : Nat}
theorem vx_callV (X : Stand p l e R s m args below meth c T locs cells slots) (hexec : p.tables.exec = Jvm.exec) {own C : String} {index : Nat} {y : MethodName} {bytes : ByteArray} {maxL : Nat} {ret : Option FieldType}
    (hown : s.vm.findClass own = some m.cls) (hlink : (Cond.methodLink own index y).before args s = true) (hinst : (Cond.instanceMethod y).before args s = true) (hsel : (Cond.selects C y y).before args s = true)
    (hcode : (Cond.code y bytes maxL ret).before args s = true) (hy : y.cls ≠ "java/lang/invoke/MethodHandle" ∧ y.cls ≠ "java/lang/invoke/VarHandle")
    {W9 : Nat} {Pre : Pt → Array Value → Prop} {Post : Pt → Array Value → Option Value → Pt → Prop} {PostX : Pt → Array Value → Addr → Pt → Prop} (hK : vx_Back l R p e below s args y 3 W9 Pre Post PostX)
    {b : Addr} {cellB : Cell} (hcell : T.heap[b]? = some cellB) (hobj : cellB.vm.isStatics = false) (hcls : s.vm.findClass C = some cellB.cls)
    {g : JFrame} (hg : g.method = m) (hsize : g.locals.size = c.maxLocals) {argsL rest : List Value} (hlen : ∀ sig, parseMethodDescriptor y.desc = some sig → argsL.length = sig.parameters.length)
    (hstack : g.stack = argsL.reverse ++ .ref b :: rest) (hW : 2 * g.monitorRoom + (rest.map fun v => v.category).sum ≤ W9) (hdg : decode c.code g.pc = .ok (.invokevirtual index, 3))
    (hpre : ∀ vm₁, s.WarmedH vm₁ → Pre ⟨T.setVm vm₁, locs, cells, slots⟩ (Value.ref b :: argsL).toArray) :
    (∃ (v : Option Value) (vm₁ : Vm) (B : Pt), s.WarmedH vm₁ ∧ Stand p l e R s m args below meth c B.U B.locs B.cells B.slots ∧ Post ⟨T.setVm vm₁, locs, cells, slots⟩ (Value.ref b :: argsL).toArray v B ∧
      ∀ target, Steps p.tables e below (B.U.setTop { g with pc := g.pc + 3, stack := v.toList ++ rest }) target → Steps p.tables e below (T.setTop g) target) ∨
    (∃ (q : Addr) (vm₁ : Vm) (B : Pt), s.WarmedH vm₁ ∧ Stand p l e R s m args below meth c B.U B.locs B.cells B.slots ∧ PostX ⟨T.setVm vm₁, locs, cells, slots⟩ (Value.ref b :: argsL).toArray q B ∧
      Steps p.tables e below (T.setTop g) ((B.U.setTop { g with stack := rest }).pushFrame (.throwing q))) := by
  obtain ⟨mk, methM, hnamed, hmethM, hstM, habM⟩ := Cond.instanceMethod_spec hinst
  obtain ⟨methM', cM, hmethM', -, -, -, -, -, -, hsigM⟩ := Cond.code_spec hnamed hcode
  cases hmethM.symm.trans hmethM'
  obtain ⟨c2, r2, m2, q1, q2, q3, q4, kP, hkP, hkPi⟩ := Cond.selects_spec hsel
  cases hcls.symm.trans q1
  cases (State.methodFound?_of_named hnamed hy).symm.trans q2
  cases hnamed.symm.trans q3
  have hselP : selectMethod e.platform s.vm cellB.cls mk = .method mk := by rw [Launch.admits_selectMethod X.admits]; exact q4
  obtain ⟨vm₁, X₁, hstep₁⟩ := X.invokevirtual hexec hown hlink hnamed hmethM hstM hkP hkPi hy (a := b) (cell := cellB) hcell
    (fun z h => by rw [h] at hobj; cases hobj) hselP hmethM habM hkP hkPi (g := g) hg (argsL := argsL) (rest := rest) (hlen _ hsigM) hstack hdg
  rcases hK m meth c ⟨T.setVm vm₁, locs, cells, slots⟩ { g with stack := rest } (.invokevirtual index) mk (Value.ref b :: argsL).toArray X₁ hg hsize hdg hW (X₁.named hnamed) (hpre vm₁ X₁.warmed) with ⟨v, B, X', hpost, hsteps⟩ | ⟨q, B, X', hpost, hsteps⟩
  · exact Or.inl ⟨v, vm₁, B, X₁.warmed, X', hpost, fun target h => hstep₁ _ fun acts => by rw [doInvoke_state]; exact hsteps.trans h⟩
  · exact Or.inr ⟨q, vm₁, B, X₁.warmed, X', hpost, hstep₁ _ fun acts => by rw [doInvoke_state]; exact hsteps⟩
theorem vx_callS (X : Stand p l e R s m args below meth c T locs cells slots) (hexec : p.tables.exec = Jvm.exec) {own : String} {index : Nat} {y : MethodName} {bytes : ByteArray} {maxL : Nat} {ret : Option FieldType}
    (hown : s.vm.findClass own = some m.cls) (hlink : (Cond.methodLink own index y).before args s = true) (hstat : (Cond.static y).before args s = true) (hinit : (Cond.initialized y.cls).before args s = true)
    (hcode : (Cond.code y bytes maxL ret).before args s = true) (hy : y.cls ≠ "java/lang/invoke/MethodHandle" ∧ y.cls ≠ "java/lang/invoke/VarHandle")
    {W9 : Nat} {Pre : Pt → Array Value → Prop} {Post : Pt → Array Value → Option Value → Pt → Prop} {PostX : Pt → Array Value → Addr → Pt → Prop} (hK : vx_Back l R p e below s args y 3 W9 Pre Post PostX)
    {g : JFrame} (hg : g.method = m) (hsize : g.locals.size = c.maxLocals) {argsL rest : List Value} (hlen : ∀ sig, parseMethodDescriptor y.desc = some sig → argsL.length = sig.parameters.length)
    (hstack : g.stack = argsL.reverse ++ rest) (hW : 2 * g.monitorRoom + (rest.map fun v => v.category).sum ≤ W9) (hdg : decode c.code g.pc = .ok (.invokestatic index, 3))
    (hpre : ∀ vm₁, s.WarmedH vm₁ → Pre ⟨T.setVm vm₁, locs, cells, slots⟩ argsL.toArray) :
    (∃ (v : Option Value) (vm₁ : Vm) (B : Pt), s.WarmedH vm₁ ∧ Stand p l e R s m args below meth c B.U B.locs B.cells B.slots ∧ Post ⟨T.setVm vm₁, locs, cells, slots⟩ argsL.toArray v B ∧
      ∀ target, Steps p.tables e below (B.U.setTop { g with pc := g.pc + 3, stack := v.toList ++ rest }) target → Steps p.tables e below (T.setTop g) target) ∨
    (∃ (q : Addr) (vm₁ : Vm) (B : Pt), s.WarmedH vm₁ ∧ Stand p l e R s m args below meth c B.U B.locs B.cells B.slots ∧ PostX ⟨T.setVm vm₁, locs, cells, slots⟩ argsL.toArray q B ∧
      Steps p.tables e below (T.setTop g) ((B.U.setTop { g with stack := rest }).pushFrame (.throwing q))) := by
  obtain ⟨mk, hnamed⟩ := Cond.code_named hcode
  obtain ⟨methM, cM, hmethM, -, -, -, -, -, -, hsigM⟩ := Cond.code_spec hnamed hcode
  have hstatic : methM.isStatic = true := Cond.static_spec hnamed hmethM hstat
  obtain ⟨kP, hkP, -⟩ := className_of_methodNamed hnamed
  have hinitP : kP.init = .initialized := Cond.initialized_spec (findClass_of_methodNamed hnamed) hkP hinit
  obtain ⟨vm₁, X₁, hstep₁⟩ := X.invokestatic hexec hown hlink hnamed hmethM hstatic hkP hinitP hy (g := g) hg (argsL := argsL) (rest := rest) (hlen _ hsigM) hstack hdg
  rcases hK m meth c ⟨T.setVm vm₁, locs, cells, slots⟩ { g with stack := rest } (.invokestatic index) mk argsL.toArray X₁ hg hsize hdg hW (X₁.named hnamed) (hpre vm₁ X₁.warmed) with ⟨v, B, X', hpost, hsteps⟩ | ⟨q, B, X', hpost, hsteps⟩
  · exact Or.inl ⟨v, vm₁, B, X₁.warmed, X', hpost, fun target h => hstep₁ _ fun acts => by rw [doInvoke_state]; exact hsteps.trans h⟩
  · exact Or.inr ⟨q, vm₁, B, X₁.warmed, X', hpost, hstep₁ _ fun acts => by rw [doInvoke_state]; exact hsteps⟩
end Calls
theorem vx_cls {s : State} {T : State} {vm₁ : Vm} {E : String} {k : ClassId} (hW : s.WarmedH vm₁) (h : (T.setVm vm₁).vm.findClass E = some k) : s.vm.findClass E = some k := by
  have h1 : vm₁.findClass E = some k := h
  rw [hW.alike.findClass] at h1
  exact h1
/-- the method's frame g, with q thrown over it -/
def vx_W (p : Program) (l : Launch) (e : Env) (R : Room) (s : State) (m : MethodId) (args : Array Value) (below : List Frame) (meth : Method) (c : Code) (H : Heap) (locs : List Loc) (cells slots : Nat) (Q : State → Prop) (g : JFrame) (q : Addr) : Prop :=
  ∀ T : State, T.heap = H → Stand p l e R s m args below meth c T locs cells slots → ∃ t, Steps p.tables e below ((T.setTop g).pushFrame (.throwing q)) t ∧ Q t
def vx_Run (p : Program) (l : Launch) (e : Env) (R : Room) (s : State) (m : MethodId) (args : Array Value) (below : List Frame) (meth : Method) (c : Code) (H : Heap) (locs : List Loc) (cells slots mc ms : Nat) (g : JFrame) (rest : List Value) (Qa : State → Outcome → State → Prop) (XC : String → State → State → Prop) (free : Addr → Prop) : Prop :=
  ∀ T : State, T.heap = H → Stand p l e R s m args below meth c T locs cells slots →
    (∃ (v : Option Value) (st₀ t T' : State) (L : List Loc), st₀.heap = H ∧ Stand p l e R s m args below meth c T' (locs ++ L) (cells + mc) (slots + ms) ∧ (∀ q ∈ L, free q.base) ∧ T'.heap = t.heap ∧ T'.vm = t.vm ∧ Qa st₀ (.returned v) t ∧
      Goes p e below T g T' { g with pc := g.pc + 3, stack := v.toList ++ rest }) ∨
    (∃ (q : Addr) (st₀ t T' : State) (L : List Loc) (E : String) (ce : Cell), st₀.heap = H ∧ Stand p l e R s m args below meth c T' (locs ++ L) (cells + mc) (slots + ms) ∧ (∀ z ∈ L, free z.base) ∧ T'.heap = t.heap ∧ T'.vm = t.vm ∧ XC E st₀ t ∧ t.heap[q]? = some ce ∧ ce.vm = .none ∧ s.vm.findClass E = some ce.cls ∧
      Steps p.tables e below (T.setTop g) ((T'.setTop { g with stack := rest }).pushFrame (.throwing q)))
def vx_X {S : Type} (px : S → Prop) (B : String → S → State → Prop) (A : Nat → Prop) : String → State → State → Prop := fun E st t => ∃ u : S, px u ∧ B E u t ∧ va_F A st t
section Runs
variable {p : Program} {l : Launch} {e : Env} {R : Room} {s : State} {m : MethodId} {args : Array Value} {below : List Frame} {meth : Method} {c : Code} {H : Heap} {locs : List Loc} {cells slots : Nat}
variable {y : MethodName} {bytes cc : ByteArray} {maxL nL mc ms n index : Nat} {ret : Option FieldType} {ws : List Cond} {rm : Room} {Pc : Array Value → State → Prop} {Qc : Array Value → State → Outcome → State → Prop} {XC : String → State → State → Prop} {free : Addr → Prop} {Ts : List Cond} {own C : String} {b : Addr} {As rest : List Value} {g : JFrame}
theorem vx_callBack (cb : CallB R s args own index y bytes maxL ret ws rm mc ms n) (hM : vx_Met l y ws rm Pc Qc XC mc ms free) (hbl : FrameBlind Pc) : vx_Back l R p e below s args y 3 8 (PreOf R mc ms Pc) (PostOf Qc mc ms free) (vx_Post XC mc ms free) := by
  obtain ⟨hrc, hrs, hfr, hlo, hws, hcw, -, hini, -⟩ := cb
  exact vx_back (bytes := bytes) (maxL := maxL) (ret := ret) hM hbl hrc hrs hfr hlo hws hcw (fun a' U hW => word_at hW (Or.inl (by first | rfl | simp [Cond.onTables, Cond.keeps, Cond.steady])) hini)
theorem vx_runV (S : CallFix p m c cc nL s args Ts own) (hM : vx_Met l y ws rm Pc Qc XC mc ms free) (cw : CallW R s args own C index y bytes maxL ret ws rm mc ms n) (hp : PreV s H C b Pc As)
    (hg : g.method = m) (hn : As.length = n) (hsize : g.locals.size = nL) (hstack : g.stack = As.reverse ++ .ref b :: rest) (hW : 2 * g.monitorRoom + (rest.map fun v => v.category).sum ≤ 8) (hdg : decode cc g.pc = .ok (.invokevirtual index, 3)) (hf : cells + mc ≤ R.cells ∧ slots + ms ≤ R.slots) :
    vx_Run p l e R s m args below meth c H locs cells slots mc ms g rest (Qc (Value.ref b :: As).toArray) XC free := by
  have hK : vx_Back l R p e below s args y 3 8 (PreOf R mc ms Pc) (PostOf Qc mc ms free) (vx_Post XC mc ms free) := vx_callBack cw.1 hM hp.1
  obtain ⟨⟨-, -, -, -, -, -, hcode, -, hy, hlen, hl⟩, hin, hse⟩ := cw
  obtain ⟨hx, hb, hml, ho, -⟩ := S
  obtain ⟨-, ⟨cellB, hcB, hoB, hclB⟩, hPc⟩ := hp
  intro T hT X
  rcases vx_callV X hx (C := C) (bytes := bytes) (maxL := maxL) (ret := ret) ho hl hin hse hcode hy hK (by rw [hT]; exact hcB) hoB hclB hg (hsize.trans hml.symm) (argsL := As) (rest := rest) (fun sig h => hn.trans (hlen sig h)) hstack hW (by rw [hb]; exact hdg)
    (fun vm₁ hW₁ => ⟨hf.1, hf.2, hPc (T.setVm vm₁) hT hW₁⟩) with ⟨v, vm₁, ⟨U', l2, c2, s2⟩, hW₁, X', ⟨g', mk, t, L, e1, e2, hq, h1, hL, h2, h3⟩, st⟩ | ⟨q, vm₁, ⟨U', l2, c2, s2⟩, hW₁, X', ⟨g', mk, t, L, E, ce, e1, e2, hq, hce, hcv, hcl, h1, hL, h2, h3⟩, st⟩
  · dsimp only [Pt.U, Pt.locs, Pt.cells, Pt.slots] at X' e1 e2 h1 h2 h3 st
    subst h1; subst h2; subst h3
    exact Or.inl ⟨v, (T.setVm vm₁).calling g' mk (Value.ref b :: As).toArray, t, U', L, hT, X', hL, e1, e2, hq, st⟩
  · dsimp only [Pt.U, Pt.locs, Pt.cells, Pt.slots] at X' e1 e2 h1 h2 h3 st hcl
    subst h1; subst h2; subst h3
    exact Or.inr ⟨q, (T.setVm vm₁).calling g' mk (Value.ref b :: As).toArray, t, U', L, E, ce, hT, X', hL, e1, e2, hq, hce, hcv, vx_cls hW₁ hcl, st⟩
theorem vx_runS (S : CallFix p m c cc nL s args Ts own) (hM : vx_Met l y ws rm Pc Qc XC mc ms free) (cw : CallB R s args own index y bytes maxL ret ws rm mc ms n ∧ (Cond.static y).before args s = true) (hp : PreS s H Pc As)
    (hg : g.method = m) (hn : As.length = n) (hsize : g.locals.size = nL) (hstack : g.stack = As.reverse ++ rest) (hW : 2 * g.monitorRoom + (rest.map fun v => v.category).sum ≤ 8) (hdg : decode cc g.pc = .ok (.invokestatic index, 3)) (hf : cells + mc ≤ R.cells ∧ slots + ms ≤ R.slots) :
    vx_Run p l e R s m args below meth c H locs cells slots mc ms g rest (Qc As.toArray) XC free := by
  have hK : vx_Back l R p e below s args y 3 8 (PreOf R mc ms Pc) (PostOf Qc mc ms free) (vx_Post XC mc ms free) := vx_callBack cw.1 hM hp.1
  obtain ⟨⟨-, -, -, -, -, -, hcode, hini, hy, hlen, hl⟩, hstt⟩ := cw
  obtain ⟨hx, hb, hml, ho, -⟩ := S
  intro T hT X
  rcases vx_callS X hx (bytes := bytes) (maxL := maxL) (ret := ret) ho hl hstt hini hcode hy hK hg (hsize.trans hml.symm) (argsL := As) (rest := rest) (fun sig h => hn.trans (hlen sig h)) hstack hW (by rw [hb]; exact hdg)
    (fun vm₁ hW₁ => ⟨hf.1, hf.2, hp.2 (T.setVm vm₁) hT hW₁⟩) with ⟨v, vm₁, ⟨U', l2, c2, s2⟩, hW₁, X', ⟨g', mk, t, L, e1, e2, hq, h1, hL, h2, h3⟩, st⟩ | ⟨q, vm₁, ⟨U', l2, c2, s2⟩, hW₁, X', ⟨g', mk, t, L, E, ce, e1, e2, hq, hce, hcv, hcl, h1, hL, h2, h3⟩, st⟩
  · dsimp only [Pt.U, Pt.locs, Pt.cells, Pt.slots] at X' e1 e2 h1 h2 h3 st
    subst h1; subst h2; subst h3
    exact Or.inl ⟨v, (T.setVm vm₁).calling g' mk As.toArray, t, U', L, hT, X', hL, e1, e2, hq, st⟩
  · dsimp only [Pt.U, Pt.locs, Pt.cells, Pt.slots] at X' e1 e2 h1 h2 h3 st hcl
    subst h1; subst h2; subst h3
    exact Or.inr ⟨q, (T.setVm vm₁).calling g' mk As.toArray, t, U', L, E, ce, hT, X', hL, e1, e2, hq, hce, hcv, vx_cls hW₁ hcl, st⟩
end Runs
section Rows
variable {p : Program} {l : Launch} {e : Env} {R : Room} {s : State} {m : MethodId} {args : Array Value} {below : List Frame} {meth : Method} {c : Code} {H : Heap} {locs : List Loc} {cells slots : Nat} {Q : State → Prop}
variable {mc ms : Nat} {free : Addr → Prop} {A0 A1 : Nat → Prop} {H0 : Heap} {a : Array Value} {pc : Nat} {ls : Array Slot} {st0 rest : List Value}
theorem vx_keep {st₀ t T' : State} {L : List Loc} (h0 : st₀.heap = H) (e1 : T'.heap = t.heap) (hS : va_S A0 H0 H locs) (hA : ∀ q, q < H.size → A1 q → A0 q) (hf : ∀ q, free q → A0 q) (hL : ∀ q ∈ L, free q.base) (hF : va_F A1 st₀ t) :
    H.size ≤ T'.heap.size ∧ (∀ q : Nat, q < H.size → ¬ A1 q → T'.heap[q]? = H[q]?) ∧ va_S A0 H0 T'.heap (locs ++ L) := by
  obtain ⟨hz, hk⟩ := hF
  rw [h0] at hz hk
  exact ⟨by rw [e1]; exact hz, fun q h1 h2 => by rw [e1]; exact hk q h1 h2,
    ⟨Nat.le_trans hS.1 (by rw [e1]; exact hz), fun q h1 h2 => by rw [e1, hk q (Nat.lt_of_lt_of_le h1 hS.1) (fun z => h2 (hA q (Nat.lt_of_lt_of_le h1 hS.1) z))]; exact hS.2.1 q h1 h2, fun q hq => by
      rcases List.mem_append.mp hq with h | h
      · exact hS.2.2 q h
      · exact hf _ (hL q h)⟩⟩
theorem vx_calli {S SX : Type} {post : Int32 → S → Prop} {px : SX → Prop} {B : S → State → Prop} {BX : String → SX → State → Prop} {AX : Nat → Prop} (hr : vx_Run p l e R s m args below meth c H locs cells slots mc ms (F0 m pc ls st0) rest (va_Qi post B A1 a) (vx_X px BX AX) free) (hS : va_S A0 H0 H locs) (hA : ∀ q, q < H.size → A1 q → A0 q) (hf : ∀ q, free q → A0 q) (hAX : ∀ q, q < H.size → AX q → A0 q)
    (kx : ∀ (E : String) (ce : Cell) (q9 : Addr) (u : SX) (t : State) (H1 : Heap) (locs1 : List Loc), t.heap = H1 → s.vm.Alike t.vm → px u → BX E u t → H.size ≤ H1.size → (∀ q : Nat, q < H.size → ¬ AX q → H1[q]? = H[q]?) → va_S A0 H0 H1 locs1 → H1[q9]? = some ce → ce.vm = .none → s.vm.findClass E = some ce.cls → vx_W p l e R s m args below meth c H1 locs1 (cells + mc) (slots + ms) Q (F0 m pc ls rest) q9)
    (kk : ∀ (r : Int32) (u : S) (t : State) (H1 : Heap) (locs1 : List Loc), t.heap = H1 → s.vm.Alike t.vm → post r u → B u t → H.size ≤ H1.size → (∀ q : Nat, q < H.size → ¬ A1 q → H1[q]? = H[q]?) → va_S A0 H0 H1 locs1 → W p l e R s m args below meth c H1 locs1 (cells + mc) (slots + ms) Q (F0 m (pc + 3) ls (.int r :: rest))) : W p l e R s m args below meth c H locs cells slots Q (F0 m pc ls st0) := by
  intro T hT X
  rcases hr T hT X with ⟨v, st₀, t, T', L, h0, X', hL, e1, e2, ⟨⟨r, u, hv, hp, hb⟩, hF⟩, st⟩ | ⟨q, st₀, t, T', L, E, ce, h0, X', hL, e1, e2, ⟨u, hp, hb, hF⟩, hce, hcv, hcl, st⟩
  · cases hv
    obtain ⟨k1, k2, k3⟩ := vx_keep h0 e1 hS hA hf hL hF
    obtain ⟨t2, a1, b1⟩ := kk r u t T'.heap (locs ++ L) e1.symm (by rw [← e2]; exact X'.warmed.alike) hp hb k1 k2 k3 T' rfl X'
    exact ⟨t2, st t2 a1, b1⟩
  · obtain ⟨k1, k2, k3⟩ := vx_keep h0 e1 hS hAX hf hL hF
    obtain ⟨t2, a1, b1⟩ := kx E ce q u t T'.heap (locs ++ L) e1.symm (by rw [← e2]; exact X'.warmed.alike) hp hb k1 k2 k3 (by rw [e1]; exact hce) hcv hcl T' rfl X'
    exact ⟨t2, st.trans a1, b1⟩
theorem vx_calll {S SX : Type} {post : Int64 → S → Prop} {px : SX → Prop} {B : S → State → Prop} {BX : String → SX → State → Prop} {AX : Nat → Prop} (hr : vx_Run p l e R s m args below meth c H locs cells slots mc ms (F0 m pc ls st0) rest (va_Ql post B A1 a) (vx_X px BX AX) free) (hS : va_S A0 H0 H locs) (hA : ∀ q, q < H.size → A1 q → A0 q) (hf : ∀ q, free q → A0 q) (hAX : ∀ q, q < H.size → AX q → A0 q)
    (kx : ∀ (E : String) (ce : Cell) (q9 : Addr) (u : SX) (t : State) (H1 : Heap) (locs1 : List Loc), t.heap = H1 → s.vm.Alike t.vm → px u → BX E u t → H.size ≤ H1.size → (∀ q : Nat, q < H.size → ¬ AX q → H1[q]? = H[q]?) → va_S A0 H0 H1 locs1 → H1[q9]? = some ce → ce.vm = .none → s.vm.findClass E = some ce.cls → vx_W p l e R s m args below meth c H1 locs1 (cells + mc) (slots + ms) Q (F0 m pc ls rest) q9)
    (kk : ∀ (r : Int64) (u : S) (t : State) (H1 : Heap) (locs1 : List Loc), t.heap = H1 → s.vm.Alike t.vm → post r u → B u t → H.size ≤ H1.size → (∀ q : Nat, q < H.size → ¬ A1 q → H1[q]? = H[q]?) → va_S A0 H0 H1 locs1 → W p l e R s m args below meth c H1 locs1 (cells + mc) (slots + ms) Q (F0 m (pc + 3) ls (.long r :: rest))) : W p l e R s m args below meth c H locs cells slots Q (F0 m pc ls st0) := by
  intro T hT X
  rcases hr T hT X with ⟨v, st₀, t, T', L, h0, X', hL, e1, e2, ⟨⟨r, u, hv, hp, hb⟩, hF⟩, st⟩ | ⟨q, st₀, t, T', L, E, ce, h0, X', hL, e1, e2, ⟨u, hp, hb, hF⟩, hce, hcv, hcl, st⟩
  · cases hv
    obtain ⟨k1, k2, k3⟩ := vx_keep h0 e1 hS hA hf hL hF
    obtain ⟨t2, a1, b1⟩ := kk r u t T'.heap (locs ++ L) e1.symm (by rw [← e2]; exact X'.warmed.alike) hp hb k1 k2 k3 T' rfl X'
    exact ⟨t2, st t2 a1, b1⟩
  · obtain ⟨k1, k2, k3⟩ := vx_keep h0 e1 hS hAX hf hL hF
    obtain ⟨t2, a1, b1⟩ := kx E ce q u t T'.heap (locs ++ L) e1.symm (by rw [← e2]; exact X'.warmed.alike) hp hb k1 k2 k3 (by rw [e1]; exact hce) hcv hcl T' rfl X'
    exact ⟨t2, st.trans a1, b1⟩
theorem vx_callf {S SX : Type} {post : UInt32 → S → Prop} {px : SX → Prop} {B : S → State → Prop} {BX : String → SX → State → Prop} {AX : Nat → Prop} (hr : vx_Run p l e R s m args below meth c H locs cells slots mc ms (F0 m pc ls st0) rest (va_Qf post B A1 a) (vx_X px BX AX) free) (hS : va_S A0 H0 H locs) (hA : ∀ q, q < H.size → A1 q → A0 q) (hf : ∀ q, free q → A0 q) (hAX : ∀ q, q < H.size → AX q → A0 q)
    (kx : ∀ (E : String) (ce : Cell) (q9 : Addr) (u : SX) (t : State) (H1 : Heap) (locs1 : List Loc), t.heap = H1 → s.vm.Alike t.vm → px u → BX E u t → H.size ≤ H1.size → (∀ q : Nat, q < H.size → ¬ AX q → H1[q]? = H[q]?) → va_S A0 H0 H1 locs1 → H1[q9]? = some ce → ce.vm = .none → s.vm.findClass E = some ce.cls → vx_W p l e R s m args below meth c H1 locs1 (cells + mc) (slots + ms) Q (F0 m pc ls rest) q9)
    (kk : ∀ (r : UInt32) (u : S) (t : State) (H1 : Heap) (locs1 : List Loc), t.heap = H1 → s.vm.Alike t.vm → post r u → B u t → H.size ≤ H1.size → (∀ q : Nat, q < H.size → ¬ A1 q → H1[q]? = H[q]?) → va_S A0 H0 H1 locs1 → W p l e R s m args below meth c H1 locs1 (cells + mc) (slots + ms) Q (F0 m (pc + 3) ls (.float r :: rest))) : W p l e R s m args below meth c H locs cells slots Q (F0 m pc ls st0) := by
  intro T hT X
  rcases hr T hT X with ⟨v, st₀, t, T', L, h0, X', hL, e1, e2, ⟨⟨r, u, hv, hp, hb⟩, hF⟩, st⟩ | ⟨q, st₀, t, T', L, E, ce, h0, X', hL, e1, e2, ⟨u, hp, hb, hF⟩, hce, hcv, hcl, st⟩
  · cases hv
    obtain ⟨k1, k2, k3⟩ := vx_keep h0 e1 hS hA hf hL hF
    obtain ⟨t2, a1, b1⟩ := kk r u t T'.heap (locs ++ L) e1.symm (by rw [← e2]; exact X'.warmed.alike) hp hb k1 k2 k3 T' rfl X'
    exact ⟨t2, st t2 a1, b1⟩
  · obtain ⟨k1, k2, k3⟩ := vx_keep h0 e1 hS hAX hf hL hF
    obtain ⟨t2, a1, b1⟩ := kx E ce q u t T'.heap (locs ++ L) e1.symm (by rw [← e2]; exact X'.warmed.alike) hp hb k1 k2 k3 (by rw [e1]; exact hce) hcv hcl T' rfl X'
    exact ⟨t2, st.trans a1, b1⟩
theorem vx_calld {S SX : Type} {post : UInt64 → S → Prop} {px : SX → Prop} {B : S → State → Prop} {BX : String → SX → State → Prop} {AX : Nat → Prop} (hr : vx_Run p l e R s m args below meth c H locs cells slots mc ms (F0 m pc ls st0) rest (va_Qd post B A1 a) (vx_X px BX AX) free) (hS : va_S A0 H0 H locs) (hA : ∀ q, q < H.size → A1 q → A0 q) (hf : ∀ q, free q → A0 q) (hAX : ∀ q, q < H.size → AX q → A0 q)
    (kx : ∀ (E : String) (ce : Cell) (q9 : Addr) (u : SX) (t : State) (H1 : Heap) (locs1 : List Loc), t.heap = H1 → s.vm.Alike t.vm → px u → BX E u t → H.size ≤ H1.size → (∀ q : Nat, q < H.size → ¬ AX q → H1[q]? = H[q]?) → va_S A0 H0 H1 locs1 → H1[q9]? = some ce → ce.vm = .none → s.vm.findClass E = some ce.cls → vx_W p l e R s m args below meth c H1 locs1 (cells + mc) (slots + ms) Q (F0 m pc ls rest) q9)
    (kk : ∀ (r : UInt64) (u : S) (t : State) (H1 : Heap) (locs1 : List Loc), t.heap = H1 → s.vm.Alike t.vm → post r u → B u t → H.size ≤ H1.size → (∀ q : Nat, q < H.size → ¬ A1 q → H1[q]? = H[q]?) → va_S A0 H0 H1 locs1 → W p l e R s m args below meth c H1 locs1 (cells + mc) (slots + ms) Q (F0 m (pc + 3) ls (.double r :: rest))) : W p l e R s m args below meth c H locs cells slots Q (F0 m pc ls st0) := by
  intro T hT X
  rcases hr T hT X with ⟨v, st₀, t, T', L, h0, X', hL, e1, e2, ⟨⟨r, u, hv, hp, hb⟩, hF⟩, st⟩ | ⟨q, st₀, t, T', L, E, ce, h0, X', hL, e1, e2, ⟨u, hp, hb, hF⟩, hce, hcv, hcl, st⟩
  · cases hv
    obtain ⟨k1, k2, k3⟩ := vx_keep h0 e1 hS hA hf hL hF
    obtain ⟨t2, a1, b1⟩ := kk r u t T'.heap (locs ++ L) e1.symm (by rw [← e2]; exact X'.warmed.alike) hp hb k1 k2 k3 T' rfl X'
    exact ⟨t2, st t2 a1, b1⟩
  · obtain ⟨k1, k2, k3⟩ := vx_keep h0 e1 hS hAX hf hL hF
    obtain ⟨t2, a1, b1⟩ := kx E ce q u t T'.heap (locs ++ L) e1.symm (by rw [← e2]; exact X'.warmed.alike) hp hb k1 k2 k3 (by rw [e1]; exact hce) hcv hcl T' rfl X'
    exact ⟨t2, st.trans a1, b1⟩
theorem vx_callv {S SX : Type} {post : S → Prop} {px : SX → Prop} {B : S → State → Prop} {BX : String → SX → State → Prop} {AX : Nat → Prop} (hr : vx_Run p l e R s m args below meth c H locs cells slots mc ms (F0 m pc ls st0) rest (va_Qv post B A1 a) (vx_X px BX AX) free) (hS : va_S A0 H0 H locs) (hA : ∀ q, q < H.size → A1 q → A0 q) (hf : ∀ q, free q → A0 q) (hAX : ∀ q, q < H.size → AX q → A0 q)
    (kx : ∀ (E : String) (ce : Cell) (q9 : Addr) (u : SX) (t : State) (H1 : Heap) (locs1 : List Loc), t.heap = H1 → s.vm.Alike t.vm → px u → BX E u t → H.size ≤ H1.size → (∀ q : Nat, q < H.size → ¬ AX q → H1[q]? = H[q]?) → va_S A0 H0 H1 locs1 → H1[q9]? = some ce → ce.vm = .none → s.vm.findClass E = some ce.cls → vx_W p l e R s m args below meth c H1 locs1 (cells + mc) (slots + ms) Q (F0 m pc ls rest) q9)
    (kk : ∀ (u : S) (t : State) (H1 : Heap) (locs1 : List Loc), t.heap = H1 → s.vm.Alike t.vm → post u → B u t → H.size ≤ H1.size → (∀ q : Nat, q < H.size → ¬ A1 q → H1[q]? = H[q]?) → va_S A0 H0 H1 locs1 → W p l e R s m args below meth c H1 locs1 (cells + mc) (slots + ms) Q (F0 m (pc + 3) ls (rest))) : W p l e R s m args below meth c H locs cells slots Q (F0 m pc ls st0) := by
  intro T hT X
  rcases hr T hT X with ⟨v, st₀, t, T', L, h0, X', hL, e1, e2, ⟨⟨u, hv, hp, hb⟩, hF⟩, st⟩ | ⟨q, st₀, t, T', L, E, ce, h0, X', hL, e1, e2, ⟨u, hp, hb, hF⟩, hce, hcv, hcl, st⟩
  · cases hv
    obtain ⟨k1, k2, k3⟩ := vx_keep h0 e1 hS hA hf hL hF
    obtain ⟨t2, a1, b1⟩ := kk u t T'.heap (locs ++ L) e1.symm (by rw [← e2]; exact X'.warmed.alike) hp hb k1 k2 k3 T' rfl X'
    exact ⟨t2, st t2 a1, b1⟩
  · obtain ⟨k1, k2, k3⟩ := vx_keep h0 e1 hS hAX hf hL hF
    obtain ⟨t2, a1, b1⟩ := kx E ce q u t T'.heap (locs ++ L) e1.symm (by rw [← e2]; exact X'.warmed.alike) hp hb k1 k2 k3 (by rw [e1]; exact hce) hcv hcl T' rfl X'
    exact ⟨t2, st.trans a1, b1⟩
/-- caught by the row x of this method's table; the rows ahead don't take it -/
theorem vx_catch {own name : String} {E : String} {ce : Cell} {q : Addr} (hown : s.vm.findClass own = some m.cls) (pre : List ExceptionTableEntry) (x : ExceptionTableEntry) (suf : List ExceptionTableEntry) (hsplit : c.exceptionTable.toList = pre ++ x :: suf)
    (hpass : ∀ z ∈ pre, covers z pc = false ∨ (z.catchType ≠ 0 ∧ ∃ nm : String, (Cond.classLink own z.catchType nm).before args s = true ∧ va_Nc E nm s)) (hx : covers x pc = true) (h0 : x.catchType ≠ 0)
    (hlink : (Cond.classLink own x.catchType name).before args s = true) (hcast : (Cond.castable E name).before args s = true) (hcell : H[q]? = some ce) (hv : ce.vm = .none) (hcl : s.vm.findClass E = some ce.cls)
    (kk : W p l e R s m args below meth c H locs cells slots Q (F0 m x.handlerPc ls [.ref q])) : vx_W p l e R s m args below meth c H locs cells slots Q (F0 m pc ls rest) q := by
  intro T hT X
  have hpl : e.platform.magicAccessors = ({} : Platform).magicAccessors := by rw [X.admits.platform]
  obtain ⟨c3, c4, hc3, hc4, hasg⟩ := Cond.castable_spec hcast
  cases Option.some.inj (hc3.symm.trans hcl)
  obtain ⟨c5, hc5, hcl5⟩ := Cond.classLink_spec hown hlink e.platform hpl
  cases Option.some.inj (hc4.symm.trans hc5)
  obtain ⟨vm', X', st⟩ := X.thenCaughtThrough q (g := F0 m pc ls rest) rfl (Steps.refl _) (by rw [hT]; exact hcell) (by rw [hv]; rfl) (by obtain ⟨k9, h9, -⟩ := Vm.findClass_spec hcl; exact ⟨k9, h9⟩) pre x suf hsplit
    (fun z hz => by
      rcases hpass z hz with h | ⟨hz0, nm, hl1, hn1⟩
      · exact Or.inl h
      · obtain ⟨c6, hc6, hcl6⟩ := Cond.classLink_spec hown hl1 e.platform hpl
        obtain ⟨a8, b8, h1, h2, h3⟩ := hn1
        cases Option.some.inj (h1.symm.trans hcl)
        cases Option.some.inj (h2.symm.trans hc6)
        exact Or.inr ⟨hz0, _, hcl6, h3⟩) hx (Or.inr ⟨h0, c4, hcl5, hasg⟩)
  obtain ⟨t, a1, b1⟩ := kk (T.setVm vm') hT X'
  exact ⟨t, st.trans a1, b1⟩
end Rows
section Ends
variable {p : Program} {l : Launch} {e : Env} {R : Room} {s : State} {m : MethodId} {args : Array Value} {below : List Frame} {meth : Method} {c : Code} {H : Heap} {locs : List Loc} {cells slots : Nat} {Q : State → Prop}
variable {mc ms : Nat} {free : Addr → Prop} {A0 A1 : Nat → Prop} {H0 : Heap} {a : Array Value} {ls : Array Slot} {st0 rest : List Value}
variable {Qc : Array Value → State → Outcome → State → Prop} {XC : String → State → State → Prop}
/-- what a body that may throw owes at its end -/
def vx_MQ (below : List Frame) (Qc : Array Value → State → Outcome → State → Prop) (XC : String → State → State → Prop) (a : Array Value) (s : State) (mc ms : Nat) (free : Addr → Prop) : State → Prop := fun t =>
  ∃ o, t.status = .running ∧ Ended t below o ∧ vx_Q Qc XC mc ms free a s o t
theorem vx_ret {g : JFrame} {mc ms : Nat} (k : W p l e R s m args below meth c H locs cells slots (MQ below Qc args s mc ms free) g) : W p l e R s m args below meth c H locs cells slots (vx_MQ below Qc XC args s mc ms free) g := by
  intro T hT X
  obtain ⟨t, a1, o, b1, b2, b3, b4⟩ := k T hT X
  exact ⟨t, a1, o, b1, b2, Or.inl ⟨b3, b4⟩⟩
/-- not caught here: it goes on to the caller -/
theorem vx_widen {g : JFrame} {q : Addr} {k n : Nat} (h1 : cells ≤ k) (h2 : slots ≤ n) (kk : vx_W p l e R s m args below meth c H locs k n Q g q) : vx_W p l e R s m args below meth c H locs cells slots Q g q := fun T hT X => kk T hT (stand_widen X h1 h2)
theorem vx_out {pc : Nat} {E : String} {ce : Cell} {q : Addr} {mc ms : Nat} (hout : ∀ x ∈ c.exceptionTable.toList, covers x pc = false) (hlocks : meth.locks = false) (hcell : H[q]? = some ce) (hv : ce.vm = .none) (hcl : s.vm.findClass E = some ce.cls)
    (hx : ∀ t : State, t.heap = H → s.vm.Alike t.vm → XC E s t) (hf : ∀ z ∈ locs, free z.base) (hc : cells ≤ mc) (hs : slots ≤ ms) :
    vx_W p l e R s m args below meth c H locs cells slots (vx_MQ below Qc XC args s mc ms free) (F0 m pc ls rest) q := by
  intro T hT X
  obtain ⟨st1, hrun, hend, hW, hsm⟩ := X.leaveThrown q (g := F0 m pc ls rest) rfl rfl rfl hout hlocks
  have hcell9 : (T.setFrames (.throwing q :: below)).heap[q]? = some ce := by
    show T.heap[q]? = some ce
    rw [hT]; exact hcell
  exact ⟨_, st1, .threw q, hrun, hend, Or.inr ⟨q, rfl, E, ce, locs, hx _ hT hW.alike, hcell9, hv, hcl, hW, hsm.mono hc hs, hf⟩⟩
theorem vx_frame {U : State} {k n : Nat} (h : s.sameButNew ({ U with vm := s.vm } : State) locs k n) : s.heap.size ≤ U.heap.size ∧ ∀ q : Nat, q < s.heap.size → (∀ z ∈ locs, z.base ≠ q) → U.heap[q]? = s.heap[q]? := by
  obtain ⟨-, h2, -, -, -, h6⟩ := h
  refine ⟨h2, fun q hq hz => ?_⟩
  obtain ⟨c9, e1, e2, e3, e4⟩ := h6 q _ (Array.getElem?_eq_getElem hq)
  have hs : c9.slots = (s.heap[q]).slots := Array.ext_getElem? fun i => e4 i fun hm => hz _ hm rfl
  have h9 : c9 = s.heap[q] := by
    rw [hs] at e2
    exact e2
  have e5 : U.heap[q]? = some c9 := e1
  rw [e5, h9, Array.getElem?_eq_getElem hq]
/-- the words of a throw but the four that speak of the heap -/
def vx_no (w : Cond) : Bool := decide (w ≠ .isRef (.static Bundle.tN "UNASSIGNED_STACK" Bundle.steD)) && decide (w ≠ .isRef (.static Bundle.tN "SUPPRESSED_SENTINEL" Bundle.listD)) && decide (w ≠ .laysStatic Bundle.tN "UNASSIGNED_STACK" Bundle.steD) && decide (w ≠ .laysStatic Bundle.tN "SUPPRESSED_SENTINEL" Bundle.listD)
def vx_at0 (own : String) (ic : Nat) (X : String) (names : List String) : List Cond := (Bundle.ownAtoms0 own ic X names).filter vx_no
def vx_atS (own : String) (ic : Nat) (X : String) (names : List String) : List Cond := (Bundle.ownAtoms own ic X names).filter vx_no
/-- a word that the tables alone decide, or a good one -/
def vx_ot (w : Cond) : Bool := w.onTables || goodWord w
theorem vx_ot_at {args a' : Array Value} {s U : State} {w : Cond} (hW : s.WarmedH U.vm) (hvm : s.vm = U.vm) (hg : vx_ot w = true) (h : w.before args s = true) : w.before a' U = true := by
  simp only [vx_ot, Bool.or_eq_true] at hg
  rcases hg with hg | hg
  · exact va_tabs hg hvm h
  · exact word_at hW (good_of_word hg) h
/-- a list's words: the good ones out of the method's own list, the others by premises of their own -/
theorem vx_hat {args : Array Value} {s : State} {L B : List Cond} (h1 : ∀ w ∈ L.filter goodWord, w.before args s = true) (h2 : ∀ w ∈ L.filter (fun w => !goodWord w), w ∈ B) (h3 : ∀ w ∈ B, w.before args s = true) : ∀ w ∈ L, w.before args s = true := by
  intro w hw
  by_cases g : goodWord w = true
  · exact h1 w (List.mem_filter.mpr ⟨hw, g⟩)
  · refine h3 w (h2 w (List.mem_filter.mpr ⟨hw, ?_⟩))
    show (!goodWord w) = true
    cases hgw : goodWord w
    · rfl
    · exact absurd hgw g
theorem vx_c {args : Array Value} {s : State} {w : Cond} {B : List Cond} (h : w.before args s = true) (t : ∀ w ∈ B, w.before args s = true) : ∀ w' ∈ w :: B, w'.before args s = true := fun w' h' => (List.mem_cons.mp h').elim (fun e => by rw [e]; exact h) (t w')
theorem vx_n {args : Array Value} {s : State} : ∀ w ∈ ([] : List Cond), w.before args s = true := fun _ h => nomatch h
theorem vx_own {args : Array Value} {s : State} {L : List Cond} (h1 : ∀ w ∈ L.filter vx_no, w.before args s = true)
    (hU : (Cond.isRef (.static Bundle.tN "UNASSIGNED_STACK" Bundle.steD)).before args s = true) (hN : (Cond.isRef (.static Bundle.tN "SUPPRESSED_SENTINEL" Bundle.listD)).before args s = true)
    (lU : (Cond.laysStatic Bundle.tN "UNASSIGNED_STACK" Bundle.steD).before args s = true) (lN : (Cond.laysStatic Bundle.tN "SUPPRESSED_SENTINEL" Bundle.listD).before args s = true) : ∀ w ∈ L, w.before args s = true := by
  intro w hw
  by_cases e1 : w = .isRef (.static Bundle.tN "UNASSIGNED_STACK" Bundle.steD)
  · rw [e1]; exact hU
  · by_cases e2 : w = .isRef (.static Bundle.tN "SUPPRESSED_SENTINEL" Bundle.listD)
    · rw [e2]; exact hN
    · by_cases e3 : w = .laysStatic Bundle.tN "UNASSIGNED_STACK" Bundle.steD
      · rw [e3]; exact lU
      · by_cases e4 : w = .laysStatic Bundle.tN "SUPPRESSED_SENTINEL" Bundle.listD
        · rw [e4]; exact lN
        · exact h1 w (List.mem_filter.mpr ⟨hw, by unfold vx_no; rw [decide_eq_true e1, decide_eq_true e2, decide_eq_true e3, decide_eq_true e4]; rfl⟩)
/-- where a static field lies, its class's statics cell in H -/
def vx_L (C n d : String) (A : Nat → Prop) (U : State) (H : Heap) : Prop := ∃ (c : ClassId) (k : Class) (i : Nat) (f : Field) (a : Nat) (cell : Cell), U.vm.findClass C = some c ∧ U.fieldFound? C n d = some (c, k, i, f) ∧ f.isStatic = true ∧ k.statics = some a ∧ H[a]? = some cell ∧ cell.vm.isStatics = true ∧ cell.cls = c ∧ f.slot < cell.slots.size ∧ k.staticTypes[f.slot]? = some f.type ∧ ¬ A a
theorem vx_L.moved {C n d : String} {A : Nat → Prop} {u U : State} {H : Heap} (hvm : u.vm.Alike U.vm) (h : vx_L C n d A u H) : vx_L C n d A U H := by
  obtain ⟨c, k, i, f, a, cell, h1, h2, h3, h4, h5, h6, h7, h8, h9, h10⟩ := h
  obtain ⟨k', hi', he⟩ := State.fieldFound?_setVm hvm h2
  exact ⟨c, k', i, f, a, cell, by rw [hvm.findClass]; exact h1, hi', h3, by rw [he]; exact h4, h5, h6, h7, h8, by rw [he]; exact h9, h10⟩
theorem vx_L.kept {C n d : String} {A : Nat → Prop} {U : State} {H H1 : Heap} (h : vx_L C n d A U H) (hq : ∀ a : Nat, a < H.size → ¬ A a → H1[a]? = H[a]?) : vx_L C n d A U H1 := by
  obtain ⟨c, k, i, f, a, cell, h1, h2, h3, h4, h5, h6, h7, h8, h9, h10⟩ := h
  exact ⟨c, k, i, f, a, cell, h1, h2, h3, h4, by rw [hq a (Array.getElem?_eq_some_iff.mp h5).1 h10]; exact h5, h6, h7, h8, h9, h10⟩
theorem vx_L.narrow {C n d : String} {A B : Nat → Prop} {U : State} {H : Heap} (h : vx_L C n d A U H) (hAB : ∀ q, B q → A q) : vx_L C n d B U H := by
  obtain ⟨c, k, i, f, a, cell, h1, h2, h3, h4, h5, h6, h7, h8, h9, h10⟩ := h
  exact ⟨c, k, i, f, a, cell, h1, h2, h3, h4, h5, h6, h7, h8, h9, fun z => h10 (hAB _ z)⟩
theorem vx_L.word {C n d : String} {A : Nat → Prop} {s : State} {args : Array Value} (h : vx_L C n d A s s.heap) : (Cond.laysStatic C n d).before args s = true := by
  obtain ⟨c, k, i, f, a, cell, h1, h2, h3, h4, h5, h6, h7, h8, h9, -⟩ := h
  show (Cond.laysStatic C n d).holds args s none s [] = true
  exact Cond.laysStatic_of h1 h2 h3 h4 h5 h6 h7 h8 h9
/-- .. and what it holds: null or some reference -/
def vx_Zq (C n d : String) (A : Nat → Prop) (U : State) (H : Heap) : Prop := va_Zq C n d A U H ∧ vx_L C n d A U H
theorem vx_Zq.moved {C n d : String} {A : Nat → Prop} {u U : State} {H : Heap} (hvm : u.vm.Alike U.vm) (h : vx_Zq C n d A u H) : vx_Zq C n d A U H := ⟨va_Zq.moved hvm h.1, vx_L.moved hvm h.2⟩
theorem vx_Zq.kept {C n d : String} {A : Nat → Prop} {U : State} {H H1 : Heap} (h : vx_Zq C n d A U H) (hq : ∀ a : Nat, a < H.size → ¬ A a → H1[a]? = H[a]?) : vx_Zq C n d A U H1 := ⟨va_Zq.kept h.1 hq, vx_L.kept h.2 hq⟩
theorem vx_Zq.narrow {C n d : String} {A B : Nat → Prop} {U : State} {H : Heap} (h : vx_Zq C n d A U H) (hAB : ∀ q, B q → A q) : vx_Zq C n d B U H := ⟨va_Zq.narrow h.1 hAB, vx_L.narrow h.2 hAB⟩
theorem vx_Zqof {args : Array Value} {s : State} {C n d : String} {A : Nat → Prop} (hl : (Cond.laysStatic C n d).before args s = true) (hini : (Cond.initialized C).before args s = true) (h : (Cond.isRef (.static C n d)).before args s = true) (hA : ∀ a : Nat, a < s.heap.size → ¬ A a) : vx_Zq C n d A s s.heap := by
  refine ⟨va_Zqof hl hini h hA, ?_⟩
  obtain ⟨c, k, i, f, a, cell, h1, h2, h3, h4, h5, h6, h7, h8, h9⟩ := Cond.laysStatic_spec hl
  exact ⟨c, k, i, f, a, cell, h1, h2, h3, h4, h5, h6, h7, h8, h9, hA a (Array.getElem?_eq_some_iff.mp h5).1⟩
theorem vx_isRef {C n d : String} {v : Value} {A : Nat → Prop} {s : State} {args : Array Value} (h : va_Z C n d v A s s.heap) (hv : v.isRef = true) : (Cond.isRef (.static C n d)).before args s = true := by
  obtain ⟨cf, kf, fi, f, a, cell, h1, h2, h3, h4, h5, h6, h7, -⟩ := h
  have he : (Term.static C n d).eval args s none [] s = some v := by
    simp [Term.eval, State.fieldNamed?, h1, h2, h4, h5, h6, h7]
  simp only [Cond.before, Cond.holds, Cond.value, he]
  cases v <;> simp_all [Value.isRef]
theorem vx_isRefq {C n d : String} {A : Nat → Prop} {s : State} {args : Array Value} (h : va_Zq C n d A s s.heap) : (Cond.isRef (.static C n d)).before args s = true := by
  rcases h with h | ⟨t, h⟩
  · exact vx_isRef h rfl
  · exact vx_isRef h rfl
/-- the same frame, seen from here: as if the method were called anew in this heap -/
theorem vx_rebase {T : State} (X : Stand p l e R s m args below meth c T locs cells slots) {R' : Room} (hf : R'.frames ≤ R.frames) (hl : R'.locals ≤ R.locals) (hc : cells + R'.cells ≤ R.cells) (hs : slots + R'.slots ≤ R.slots) :
    Stand p l e R' ((T.setVm s.vm).setFrames (.invoking m args :: below)) m args below meth c T [] 0 0 := by
  have htop : (T.setVm s.vm).topJava?.isSome := X.here.top
  have hF : ((T.setVm s.vm).setFrames (.invoking m args :: below)).frames = .invoking m args :: below := State.frames_setFrames _ (State.cur_lt_of_top htop)
  obtain ⟨g₀, hg0⟩ := Option.isSome_iff_exists.mp htop
  obtain ⟨r, hr⟩ := State.topJava?_eq_some.mp hg0
  have hl9 : e.platform.stackLimits (T.setVm s.vm).me = e.platform.stackLimits s.me := X.limits
  have hb9 : (T.setVm s.vm).me.stackBytes = s.me.stackBytes := X.bytes
  refine ⟨X.admits, X.cas, X.clock, hF, ?_, X.hears, X.method, X.code, X.here, X.tail, X.warmed, ?_, ?_, ?_⟩
  · have h := X.room
    have hU : ((T.setVm s.vm).setFrames (.invoking m args :: below)).localsInUse = s.localsInUse := by
      rw [State.localsInUse_invoking hF (meth := meth) (c := c) X.method X.code, State.localsInUse_invoking X.frames X.method X.code]
    simp only [State.hasRoom, Bool.and_eq_true, decide_eq_true_eq] at h ⊢
    obtain ⟨⟨⟨⟨h1, h2, h3, h4, h5, h6⟩, h7⟩, h8⟩, h9⟩ := h
    rw [X.frames, List.length_cons] at h2 h3
    have q1 := X.heapSize
    have q2 := X.used
    simp only [hF, hU, List.length_cons, State.stackLimits_setFrames, State.stackBytes_setFrames, hl9, hb9]
    refine ⟨⟨⟨⟨by omega, by omega, by omega, by omega, by omega, h6⟩, ?_⟩, ?_⟩, X.book⟩
    · show T.heap.size + R'.cells ≤ e.platform.maxCells
      omega
    · show T.slotsUsed + R'.slots ≤ e.platform.maxSlots
      omega
  · rw [State.stackLimits_setFrames]; rfl
  · rw [State.stackBytes_setFrames]; rfl
  · refine ⟨?_, Nat.le_refl _, Nat.le_refl _, ?_, ?_, fun a c9 h9 => ⟨c9, h9, rfl, rfl, fun _ _ => rfl⟩⟩
    · obtain ⟨t, ht, -⟩ := State.frames_cons hr
      show T.setVm s.vm = { ((T.setVm s.vm).setFrames (.invoking m args :: below)).setFrames (T.setVm s.vm).frames with heap := T.heap, slotsUsed := T.slotsUsed }
      rw [State.setFrames_setFrames, State.setFrames_self ht]
      rfl
    · show T.slotsUsed = T.slotsUsed + ((T.heap.toList.drop T.heap.size).map (·.slots.size)).sum
      rw [List.drop_eq_nil_of_le (Nat.le_of_eq Array.length_toList)]
      rfl
    · show ((T.heap.toList.drop T.heap.size).map (·.slots.size)).sum ≤ 0
      rw [List.drop_eq_nil_of_le (Nat.le_of_eq Array.length_toList)]
      exact Nat.le_refl _
/-- 'throw new E()': new; dup; invokespecial; athrow -/
theorem vx_throw0 {cc : ByteArray} {pc : Nat} (hexec : p.tables.exec = Jvm.exec) (hb : c.code = cc) (hl : l.stackTraces = false) {own cls : String} {names : List String} {ik ic mc ms : Nat} {A : Nat → Prop}
    (hown : s.vm.findClass own = some m.cls) (hcls : Bundle.fit cls = true) (hnames : ∀ n ∈ names, Bundle.fit n = true)
    (hk : (Cond.classLink own ik cls).before args s = true) (hini : (Cond.initialized cls).before args s = true) (hat : ∀ w ∈ vx_at0 own ic cls names, w.before args s = true)
    (hgood : ∀ w ∈ Cond.classLink own ik cls :: Cond.initialized cls :: vx_at0 own ic cls names, vx_ot w = true)
    (hU : vx_Zq Bundle.tN "UNASSIGNED_STACK" Bundle.steD A s s.heap) (hN : vx_Zq Bundle.tN "SUPPRESSED_SENTINEL" Bundle.listD A s s.heap) (hS : va_S A s.heap H locs) (hsize : ls.size = c.maxLocals)
    (d0 : decode cc pc = .ok (.new ik, 3)) (d3 : decode cc (pc + 3) = .ok (.dup, 1)) (d4 : decode cc (pc + 4) = .ok (.invokespecial ic, 3)) (d7 : decode cc (pc + 7) = .ok (.athrow, 1))
    (hout : ∀ x ∈ c.exceptionTable.toList, covers x (pc + 7) = false)
    (hRframes : names.length + 3 < R.frames) (hRlocals : (rest.map fun v => v.category).sum + (13 * (names.length + 1) + 42) ≤ R.locals) (hRcells : cells + 1 ≤ R.cells) (hRslots : slots + 6 ≤ R.slots) (hlocks : meth.locks = false)
    (hx : ∀ t : State, s.vm.Alike t.vm → H.size ≤ t.heap.size → (∀ q : Nat, q < H.size → t.heap[q]? = H[q]?) → XC cls s t)
    (hf : ∀ z ∈ locs, free z.base) (hc : cells + 1 ≤ mc) (hs : slots + 6 ≤ ms) :
    W p l e R s m args below meth c H locs cells slots (vx_MQ below Qc XC args s mc ms free) (F0 m pc ls rest) := by
  intro T hT X
  have htr : e.platform.stackTraces = false := (show e.platform.stackTraces = l.stackTraces by rw [X.admits.platform]).trans hl
  have Y := vx_rebase X (R' := { frames := R.frames, locals := R.locals, cells := 1, slots := 6 }) (Nat.le_refl _) (Nat.le_refl _) hRcells hRslots
  obtain ⟨s', hA⟩ : ∃ z, z = (T.setVm s.vm).setFrames (.invoking m args :: below) := ⟨_, rfl⟩
  rw [← hA] at Y
  have hvm : s'.vm = s.vm := by rw [hA]; rfl
  have hhp : s'.heap = H := by rw [hA]; exact hT
  have hW0 : s.WarmedH s'.vm := by rw [hvm]; exact State.WarmedH.refl s
  have hat' : ∀ w ∈ vx_at0 own ic cls names, w.before args s' = true := fun w hw => vx_ot_at hW0 hvm.symm (hgood w (List.mem_cons_of_mem _ (List.mem_cons_of_mem _ hw))) (hat w hw)
  have hk' : (Cond.classLink own ik cls).before args s' = true := vx_ot_at hW0 hvm.symm (hgood _ List.mem_cons_self) hk
  have hini' : (Cond.initialized cls).before args s' = true := vx_ot_at hW0 hvm.symm (hgood _ (List.mem_cons_of_mem _ List.mem_cons_self)) hini
  have hU' : vx_Zq Bundle.tN "UNASSIGNED_STACK" Bundle.steD A s' s'.heap := by rw [hhp]; exact vx_Zq.moved hW0.alike (hU.kept hS.2.1)
  have hN' : vx_Zq Bundle.tN "SUPPRESSED_SENTINEL" Bundle.listD A s' s'.heap := by rw [hhp]; exact vx_Zq.moved hW0.alike (hN.kept hS.2.1)
  have h : ∀ w ∈ Bundle.ownAtoms0 own ic cls names, w.before args s' = true := vx_own hat' (vx_isRefq hU'.1) (vx_isRefq hN'.1) hU'.2.word hN'.2.word
  have hown' : s'.vm.findClass own = some m.cls := by rw [hvm]; exact hown
  have hins : (Cond.instantiable cls 6).before args s' = true := h _ (by simp [Bundle.ownAtoms0])
  obtain ⟨vm₁, cX, kX, hfX, hkX, -, -, X₁, st1⟩ := Y.newCold hexec (own := own) (C := cls) (index := ik) (n := 6) hown' hk' hins hini'
    (g := F0 m pc ls rest) rfl (by rw [hb]; exact d0) (Nat.le_refl _) (Nat.le_refl _)
  generalize hT1 : (T.setVm vm₁).pushCell { cls := cX, slots := kX.instanceTypes.map defaultValue, vm := .none } = T1 at X₁ st1
  have hcat : (Value.ref T.heap.size).category = 1 := rfl
  have hcellA : T1.heap[T.heap.size]? = some (freshCell cX kX) := by rw [← hT1]; exact State.heap_pushCell_size _ _
  have d3' : decode c.code (pc + 3) = .ok (.dup, 1) := by rw [hb]; exact d3
  obtain ⟨U, hsteps, hrun, hend, hW, hsame, ce, hce, hO⟩ := X₁.ctorThrow0 hexec htr (own := own) (cls := cls) (names := names) (ic := ic) hown' hcls hnames h (fun x hx => nomatch hx) hfX hkX hcellA (by rw [hhp, hT]; exact Nat.le_refl _)
    (g := { method := m, pc := pc + 4, locals := ls, stack := .ref T.heap.size :: .ref T.heap.size :: rest, locked := none }) rfl hsize rfl rfl (rest := rest) rfl
    (by rw [hb]; exact d4) (by rw [hb]; exact d7) hout hRframes (by simp only [List.map_cons, List.sum_cons, hcat]; omega) hlocks
  obtain ⟨f1, f2⟩ := vx_frame hsame
  rw [hhp] at f1 f2
  have hWs : s.WarmedH U.vm := State.WarmedH.trans hW0 hW
  have hcl : s.vm.findClass cls = some ce.cls := by
    have h9 := hO.cls
    rw [hvm] at h9
    exact h9
  have hall : s.sameButNew ({ U with vm := s.vm } : State) locs mc ms := by
    subst hA
    obtain ⟨e1, e2⟩ := hsame
    rw [State.setFrames_setFrames] at e1
    have h2 : (T.setVm s.vm).sameButNew ({ U with vm := s.vm } : State) [] (0 + 1) (0 + 6) := ⟨e1, e2⟩
    have h3 := X.same.trans h2
    rw [List.append_nil] at h3
    exact h3.mono hc hs
  refine ⟨U, ?_, .threw T.heap.size, hrun, hend, Or.inr ⟨T.heap.size, rfl, cls, ce, locs, hx U hWs.alike f1 (fun q hq => f2 q hq (fun z hz => nomatch hz)), hce, hO.vm, hcl, hWs, hall, hf⟩⟩
  refine st1 _ ?_
  show Steps p.tables e below (T1.setTop { method := m, pc := pc + 3, locals := ls, stack := .ref T.heap.size :: rest, locked := none }) _
  jvm_step X₁.here [X₁.here.top, hexec, d3', Value.category]
  exact hsteps
/-- 'throw new E("text")': new; dup; ldc; invokespecial; athrow -/
theorem vx_throwS {cc : ByteArray} {pc : Nat} (hexec : p.tables.exec = Jvm.exec) (hb : c.code = cc) (hl : l.stackTraces = false) {own cls text : String} {names : List String} {ik is ic mc ms sa : Nat} {A : Nat → Prop}
    (hown : s.vm.findClass own = some m.cls) (hcls : Bundle.fit cls = true) (hnames : ∀ n ∈ names, Bundle.fit n = true)
    (hk : (Cond.classLink own ik cls).before args s = true) (hini : (Cond.initialized cls).before args s = true) (hstr : vk_R own is text sa s) (hat : ∀ w ∈ vx_atS own ic cls names, w.before args s = true)
    (hgood : ∀ w ∈ Cond.classLink own ik cls :: Cond.initialized cls :: vx_atS own ic cls names, vx_ot w = true)
    (hU : vx_Zq Bundle.tN "UNASSIGNED_STACK" Bundle.steD A s s.heap) (hN : vx_Zq Bundle.tN "SUPPRESSED_SENTINEL" Bundle.listD A s s.heap) (hS : va_S A s.heap H locs) (hsize : ls.size = c.maxLocals)
    (d0 : decode cc pc = .ok (.new ik, 3)) (d3 : decode cc (pc + 3) = .ok (.dup, 1)) (d4 : decode cc (pc + 4) = .ok (.ldc is, 2)) (d6 : decode cc (pc + 6) = .ok (.invokespecial ic, 3)) (d9 : decode cc (pc + 9) = .ok (.athrow, 1))
    (hout : ∀ x ∈ c.exceptionTable.toList, covers x (pc + 9) = false)
    (hRframes : names.length + 3 < R.frames) (hRlocals : (rest.map fun v => v.category).sum + (13 * (names.length + 1) + 43) ≤ R.locals) (hRcells : cells + 1 ≤ R.cells) (hRslots : slots + 6 ≤ R.slots) (hlocks : meth.locks = false)
    (hx : ∀ t : State, s.vm.Alike t.vm → H.size ≤ t.heap.size → (∀ q : Nat, q < H.size → t.heap[q]? = H[q]?) → XC cls s t)
    (hf : ∀ z ∈ locs, free z.base) (hc : cells + 1 ≤ mc) (hs : slots + 6 ≤ ms) :
    W p l e R s m args below meth c H locs cells slots (vx_MQ below Qc XC args s mc ms free) (F0 m pc ls rest) := by
  intro T hT X
  have htr : e.platform.stackTraces = false := (show e.platform.stackTraces = l.stackTraces by rw [X.admits.platform]).trans hl
  have Y := vx_rebase X (R' := { frames := R.frames, locals := R.locals, cells := 1, slots := 6 }) (Nat.le_refl _) (Nat.le_refl _) hRcells hRslots
  obtain ⟨s', hA⟩ : ∃ z, z = (T.setVm s.vm).setFrames (.invoking m args :: below) := ⟨_, rfl⟩
  rw [← hA] at Y
  have hvm : s'.vm = s.vm := by rw [hA]; rfl
  have hhp : s'.heap = H := by rw [hA]; exact hT
  have hW0 : s.WarmedH s'.vm := by rw [hvm]; exact State.WarmedH.refl s
  have hat' : ∀ w ∈ vx_atS own ic cls names, w.before args s' = true := fun w hw => vx_ot_at hW0 hvm.symm (hgood w (List.mem_cons_of_mem _ (List.mem_cons_of_mem _ hw))) (hat w hw)
  have hk' : (Cond.classLink own ik cls).before args s' = true := vx_ot_at hW0 hvm.symm (hgood _ List.mem_cons_self) hk
  have hini' : (Cond.initialized cls).before args s' = true := vx_ot_at hW0 hvm.symm (hgood _ (List.mem_cons_of_mem _ List.mem_cons_self)) hini
  have hU' : vx_Zq Bundle.tN "UNASSIGNED_STACK" Bundle.steD A s' s'.heap := by rw [hhp]; exact vx_Zq.moved hW0.alike (hU.kept hS.2.1)
  have hN' : vx_Zq Bundle.tN "SUPPRESSED_SENTINEL" Bundle.listD A s' s'.heap := by rw [hhp]; exact vx_Zq.moved hW0.alike (hN.kept hS.2.1)
  have h : ∀ w ∈ Bundle.ownAtoms own ic cls names, w.before args s' = true := vx_own hat' (vx_isRefq hU'.1) (vx_isRefq hN'.1) hU'.2.word hN'.2.word
  have hown' : s'.vm.findClass own = some m.cls := by rw [hvm]; exact hown
  have hins : (Cond.instantiable cls 6).before args s' = true := h _ (by simp [Bundle.ownAtoms])
  obtain ⟨vm₁, cX, kX, hfX, hkX, -, -, X₁, st1⟩ := Y.newCold hexec (own := own) (C := cls) (index := ik) (n := 6) hown' hk' hins hini'
    (g := F0 m pc ls rest) rfl (by rw [hb]; exact d0) (Nat.le_refl _) (Nat.le_refl _)
  generalize hT1 : (T.setVm vm₁).pushCell { cls := cX, slots := kX.instanceTypes.map defaultValue, vm := .none } = T1 at X₁ st1
  have hcat : (Value.ref T.heap.size).category = 1 := rfl
  have hcellA : T1.heap[T.heap.size]? = some (freshCell cX kX) := by rw [← hT1]; exact State.heap_pushCell_size _ _
  have d3' : decode c.code (pc + 3) = .ok (.dup, 1) := by rw [hb]; exact d3
  have d4' : decode c.code (pc + 4) = .ok (.ldc is, 2) := by rw [hb]; exact d4
  have hstr' : vk_R own is text sa s' := vk_R.warm hW0 hstr
  obtain ⟨U, hsteps, hrun, hend, hW, hsame, ce, hce, hO⟩ := X₁.ctorThrowS hexec htr (own := own) (cls := cls) (names := names) (ic := ic) hown' hcls hnames h (fun x hx => nomatch hx) hfX hkX hcellA (by rw [hhp, hT]; exact Nat.le_refl _) (msg := .ref sa) rfl
    (g := { method := m, pc := pc + 6, locals := ls, stack := .ref sa :: .ref T.heap.size :: .ref T.heap.size :: rest, locked := none }) rfl hsize rfl rfl (rest := rest) rfl
    (by rw [hb]; exact d6) (by rw [hb]; exact d9) hout hRframes (by simp only [List.map_cons, List.sum_cons, hcat]; omega) hlocks
  obtain ⟨f1, f2⟩ := vx_frame hsame
  rw [hhp] at f1 f2
  have hWs : s.WarmedH U.vm := State.WarmedH.trans hW0 hW
  have hcl : s.vm.findClass cls = some ce.cls := by
    have h9 := hO.cls
    rw [hvm] at h9
    exact h9
  have hall : s.sameButNew ({ U with vm := s.vm } : State) locs mc ms := by
    subst hA
    obtain ⟨e1, e2⟩ := hsame
    rw [State.setFrames_setFrames] at e1
    have h2 : (T.setVm s.vm).sameButNew ({ U with vm := s.vm } : State) [] (0 + 1) (0 + 6) := ⟨e1, e2⟩
    have h3 := X.same.trans h2
    rw [List.append_nil] at h3
    exact h3.mono hc hs
  refine ⟨U, ?_, .threw T.heap.size, hrun, hend, Or.inr ⟨T.heap.size, rfl, cls, ce, locs, hx U hWs.alike f1 (fun q hq => f2 q hq (fun z hz => nomatch hz)), hce, hO.vm, hcl, hWs, hall, hf⟩⟩
  refine st1 _ ?_
  show Steps p.tables e below (T1.setTop { method := m, pc := pc + 3, locals := ls, stack := .ref T.heap.size :: rest, locked := none }) _
  jvm_step X₁.here [X₁.here.top, hexec, d3', Value.category]
  exact X₁.ldcString hexec (own := own) (text := text) (index := is) (a := sa) hown' hstr'.1 hstr'.2
    (g := { method := m, pc := pc + 4, locals := ls, stack := .ref T.heap.size :: .ref T.heap.size :: rest, locked := none }) rfl d4' _ hsteps
/-- 'throw new E("text")', the text by a wide index -/
theorem vx_throwSW {cc : ByteArray} {pc : Nat} (hexec : p.tables.exec = Jvm.exec) (hb : c.code = cc) (hl : l.stackTraces = false) {own cls text : String} {names : List String} {ik is ic mc ms sa : Nat} {A : Nat → Prop}
    (hown : s.vm.findClass own = some m.cls) (hcls : Bundle.fit cls = true) (hnames : ∀ n ∈ names, Bundle.fit n = true)
    (hk : (Cond.classLink own ik cls).before args s = true) (hini : (Cond.initialized cls).before args s = true) (hstr : vk_R own is text sa s) (hat : ∀ w ∈ vx_atS own ic cls names, w.before args s = true)
    (hgood : ∀ w ∈ Cond.classLink own ik cls :: Cond.initialized cls :: vx_atS own ic cls names, vx_ot w = true)
    (hU : vx_Zq Bundle.tN "UNASSIGNED_STACK" Bundle.steD A s s.heap) (hN : vx_Zq Bundle.tN "SUPPRESSED_SENTINEL" Bundle.listD A s s.heap) (hS : va_S A s.heap H locs) (hsize : ls.size = c.maxLocals)
    (d0 : decode cc pc = .ok (.new ik, 3)) (d3 : decode cc (pc + 3) = .ok (.dup, 1)) (d4 : decode cc (pc + 4) = .ok (.ldc_w is, 3)) (d7 : decode cc (pc + 7) = .ok (.invokespecial ic, 3)) (d10 : decode cc (pc + 10) = .ok (.athrow, 1))
    (hout : ∀ x ∈ c.exceptionTable.toList, covers x (pc + 10) = false)
    (hRframes : names.length + 3 < R.frames) (hRlocals : (rest.map fun v => v.category).sum + (13 * (names.length + 1) + 43) ≤ R.locals) (hRcells : cells + 1 ≤ R.cells) (hRslots : slots + 6 ≤ R.slots) (hlocks : meth.locks = false)
    (hx : ∀ t : State, s.vm.Alike t.vm → H.size ≤ t.heap.size → (∀ q : Nat, q < H.size → t.heap[q]? = H[q]?) → XC cls s t)
    (hf : ∀ z ∈ locs, free z.base) (hc : cells + 1 ≤ mc) (hs : slots + 6 ≤ ms) :
    W p l e R s m args below meth c H locs cells slots (vx_MQ below Qc XC args s mc ms free) (F0 m pc ls rest) := by
  intro T hT X
  have htr : e.platform.stackTraces = false := (show e.platform.stackTraces = l.stackTraces by rw [X.admits.platform]).trans hl
  have Y := vx_rebase X (R' := { frames := R.frames, locals := R.locals, cells := 1, slots := 6 }) (Nat.le_refl _) (Nat.le_refl _) hRcells hRslots
  obtain ⟨s', hA⟩ : ∃ z, z = (T.setVm s.vm).setFrames (.invoking m args :: below) := ⟨_, rfl⟩
  rw [← hA] at Y
  have hvm : s'.vm = s.vm := by rw [hA]; rfl
  have hhp : s'.heap = H := by rw [hA]; exact hT
  have hW0 : s.WarmedH s'.vm := by rw [hvm]; exact State.WarmedH.refl s
  have hat' : ∀ w ∈ vx_atS own ic cls names, w.before args s' = true := fun w hw => vx_ot_at hW0 hvm.symm (hgood w (List.mem_cons_of_mem _ (List.mem_cons_of_mem _ hw))) (hat w hw)
  have hk' : (Cond.classLink own ik cls).before args s' = true := vx_ot_at hW0 hvm.symm (hgood _ List.mem_cons_self) hk
  have hini' : (Cond.initialized cls).before args s' = true := vx_ot_at hW0 hvm.symm (hgood _ (List.mem_cons_of_mem _ List.mem_cons_self)) hini
  have hU' : vx_Zq Bundle.tN "UNASSIGNED_STACK" Bundle.steD A s' s'.heap := by rw [hhp]; exact vx_Zq.moved hW0.alike (hU.kept hS.2.1)
  have hN' : vx_Zq Bundle.tN "SUPPRESSED_SENTINEL" Bundle.listD A s' s'.heap := by rw [hhp]; exact vx_Zq.moved hW0.alike (hN.kept hS.2.1)
  have h : ∀ w ∈ Bundle.ownAtoms own ic cls names, w.before args s' = true := vx_own hat' (vx_isRefq hU'.1) (vx_isRefq hN'.1) hU'.2.word hN'.2.word
  have hown' : s'.vm.findClass own = some m.cls := by rw [hvm]; exact hown
  have hins : (Cond.instantiable cls 6).before args s' = true := h _ (by simp [Bundle.ownAtoms])
  obtain ⟨vm₁, cX, kX, hfX, hkX, -, -, X₁, st1⟩ := Y.newCold hexec (own := own) (C := cls) (index := ik) (n := 6) hown' hk' hins hini'
    (g := F0 m pc ls rest) rfl (by rw [hb]; exact d0) (Nat.le_refl _) (Nat.le_refl _)
  generalize hT1 : (T.setVm vm₁).pushCell { cls := cX, slots := kX.instanceTypes.map defaultValue, vm := .none } = T1 at X₁ st1
  have hcat : (Value.ref T.heap.size).category = 1 := rfl
  have hcellA : T1.heap[T.heap.size]? = some (freshCell cX kX) := by rw [← hT1]; exact State.heap_pushCell_size _ _
  have d3' : decode c.code (pc + 3) = .ok (.dup, 1) := by rw [hb]; exact d3
  have d4' : decode c.code (pc + 4) = .ok (.ldc_w is, 3) := by rw [hb]; exact d4
  have hstr' : vk_R own is text sa s' := vk_R.warm hW0 hstr
  obtain ⟨U, hsteps, hrun, hend, hW, hsame, ce, hce, hO⟩ := X₁.ctorThrowS hexec htr (own := own) (cls := cls) (names := names) (ic := ic) hown' hcls hnames h (fun x hx => nomatch hx) hfX hkX hcellA (by rw [hhp, hT]; exact Nat.le_refl _) (msg := .ref sa) rfl
    (g := { method := m, pc := pc + 7, locals := ls, stack := .ref sa :: .ref T.heap.size :: .ref T.heap.size :: rest, locked := none }) rfl hsize rfl rfl (rest := rest) rfl
    (by rw [hb]; exact d7) (by rw [hb]; exact d10) hout hRframes (by simp only [List.map_cons, List.sum_cons, hcat]; omega) hlocks
  obtain ⟨f1, f2⟩ := vx_frame hsame
  rw [hhp] at f1 f2
  have hWs : s.WarmedH U.vm := State.WarmedH.trans hW0 hW
  have hcl : s.vm.findClass cls = some ce.cls := by
    have h9 := hO.cls
    rw [hvm] at h9
    exact h9
  have hall : s.sameButNew ({ U with vm := s.vm } : State) locs mc ms := by
    subst hA
    obtain ⟨e1, e2⟩ := hsame
    rw [State.setFrames_setFrames] at e1
    have h2 : (T.setVm s.vm).sameButNew ({ U with vm := s.vm } : State) [] (0 + 1) (0 + 6) := ⟨e1, e2⟩
    have h3 := X.same.trans h2
    rw [List.append_nil] at h3
    exact h3.mono hc hs
  refine ⟨U, ?_, .threw T.heap.size, hrun, hend, Or.inr ⟨T.heap.size, rfl, cls, ce, locs, hx U hWs.alike f1 (fun q hq => f2 q hq (fun z hz => nomatch hz)), hce, hO.vm, hcl, hWs, hall, hf⟩⟩
  refine st1 _ ?_
  show Steps p.tables e below (T1.setTop { method := m, pc := pc + 3, locals := ls, stack := .ref T.heap.size :: rest, locked := none }) _
  jvm_step X₁.here [X₁.here.top, hexec, d3', Value.category]
  exact X₁.ldcStringW hexec (own := own) (text := text) (index := is) (a := sa) hown' hstr'.1 hstr'.2
    (g := { method := m, pc := pc + 4, locals := ls, stack := .ref T.heap.size :: .ref T.heap.size :: rest, locked := none }) rfl d4' _ hsteps
end Ends
section Bodies
variable {l : Launch}
theorem vx_ofW {y : MethodName} {ws ws' : List Cond} {rm : Room} {Pc : Array Value → State → Prop} {Qc : Array Value → State → Outcome → State → Prop} {XC : String → State → State → Prop} {mc ms : Nat} {free : Addr → Prop} {cc : ByteArray} {maxL : Nat} {ret : Option FieldType}
    (hy : plainName y.cls = true) (hw : ws = Cond.code y cc maxL ret :: ws')
    (body : ∀ p e s m args below meth c s₁, BodyLoose p l y (headSpec ws rm) cc maxL ret e s m args below meth c s₁ → c.maxLocals = maxL → (∀ x ∈ c.exceptionTable.toList, False) → Pc args s →
      W p l e (headSpec ws rm).room s m args below meth c s.heap [] 0 0 (vx_MQ below Qc XC args s mc ms free) (entryFrame m args maxL)) : vx_Met l y ws rm Pc Qc XC mc ms free := by
  refine MetFree.of_bodyS (code := cc) (maxLocals := maxL) (ret := ret) hy ?_ ?_
  · intro args s m h hn
    obtain ⟨meth, c, h1, h2, h3, h4, h5, h6, -, -⟩ := Cond.code_spec hn (atoms_spec (ws := ws) h _ (by rw [hw]; exact List.mem_cons_self))
    exact ⟨meth, c, h1, h2, h3, h4, h5, h6⟩
  · intro p e s m args below meth c s₁ B hml hP _
    have hh0 : s₁.heap = s.heap := by rw [B.state]; rfl
    have ht : ∀ x ∈ c.exceptionTable.toList, False := by
      obtain ⟨meth9, c9, h1, h2, -, -, -, -, h7, -⟩ := Cond.code_spec B.named (atoms_spec (ws := ws) B.pre _ (by rw [hw]; exact List.mem_cons_self))
      cases Option.some.inj (h1.symm.trans B.method)
      cases Option.some.inj (h2.symm.trans (Stand.of_body B).code)
      intro x hx
      rw [Array.isEmpty_iff.mp h7] at hx
      cases hx
    obtain ⟨t, a1, o, b1, b2, b3⟩ := body p e s m args below meth c s₁ B hml ht hP s₁ hh0 (Stand.of_body B)
    exact ⟨t, o, a1, b1, b2, b3⟩
/-- the table of a body with handlers -/
theorem vx_table {p : Program} {x y : MethodName} {S : Spec} {cc bytes : ByteArray} {maxL maxL' : Nat} {ret ret' : Option FieldType} {e : Env} {s s₁ : State} {m : MethodId} {args : Array Value} {below : List Frame} {meth : Method} {c : Code} {hh : List (Nat × Nat × Nat × Nat)}
    (B : BodyLoose p l y S cc maxL ret e s m args below meth c s₁) (h : (Cond.codeWith y bytes maxL' ret' hh).before args s = true) : c.exceptionTable.toList = tableOf hh := by
  obtain ⟨m9, meth9, c9, hn9, h1, h2, -, -, h6, -⟩ := Cond.codeWith_spec h
  cases Option.some.inj (hn9.symm.trans B.named)
  cases Option.some.inj (h1.symm.trans B.method)
  cases Option.some.inj (h2.symm.trans (Stand.of_body B).code)
  rw [← h6, table_eq]
end Bodies
end VXA
/-! ===== END ===== -/
/-! ===== BEGIN a static call of a method with an exception table ===== -/
section VXS
variable {p : Program} {l : Launch} {e : Env} {R : Room} {s : State} {m : MethodId} {args : Array Value} {below : List Frame} {meth : Method} {c : Code} {T : State} {H : Heap} {locs : List Loc} {cells slots : Nat}
abbrev vx_CSW (R : Room) (s : State) (args : Array Value) (own : String) (index : Nat) (y : MethodName) (bytes : ByteArray) (maxL : Nat) (ret : Option FieldType) (hh : List (Nat × Nat × Nat × Nat)) (ws : List Cond) (rm : Room) (mc ms n : Nat) : Prop :=
  (rm.cells = mc ∧ rm.slots = ms ∧ rm.frames + 1 ≤ R.frames ∧ 8 + (maxL + 11) + rm.locals ≤ R.locals ∧ (∀ w ∈ ws, ∀ (a' : Array Value) (U : State), s.WarmedH U.vm → w.before a' U = true) ∧ Cond.codeWith y bytes maxL ret hh ∈ ws) ∧
  (Cond.codeWith y bytes maxL ret hh).before args s = true ∧ (Cond.initialized y.cls).before args s = true ∧ (y.cls ≠ "java/lang/invoke/MethodHandle" ∧ y.cls ≠ "java/lang/invoke/VarHandle") ∧
  (∀ sig, parseMethodDescriptor y.desc = some sig → n = sig.parameters.length) ∧ (Cond.methodLink own index y).before args s = true ∧ (Cond.static y).before args s = true
theorem vx_cwSW {own : String} {index maxL mc ms : Nat} {y : MethodName} {bytes : ByteArray} {ret : Option FieldType} {hh : List (Nat × Nat × Nat × Nat)} {Ts ws ws' : List Cond} {rm : Room} (n : Nat) (ht : ∀ w ∈ Ts, w.before args s = true) (hT : GoodIn Ts (va_wsS own index y ws)) (hw : ws = Cond.codeWith y bytes maxL ret hh :: ws') (hrc : rm.cells = mc) (hrs : rm.slots = ms)
    (hd : y.cls ≠ "java/lang/invoke/MethodHandle" ∧ y.cls ≠ "java/lang/invoke/VarHandle" ∧ (parseMethodDescriptor y.desc).map (fun d => d.parameters.length) = some n) (hR : rm.frames + 1 ≤ R.frames ∧ 8 + (maxL + 11) + rm.locals ≤ R.locals) :
    vx_CSW R s args own index y bytes maxL ret hh ws rm mc ms n := by
  have ok : ∀ w ∈ va_wsS own index y ws, w.before args s = true := fun w h => ht w (hT w h).1
  have hG : GoodIn Ts ws := fun w h => hT w (by unfold va_wsS; exact List.mem_append_right _ h)
  have hc : Cond.codeWith y bytes maxL ret hh ∈ ws := by rw [hw]; exact List.mem_cons_self
  refine ⟨⟨hrc, hrs, hR.1, hR.2, pay_in ht hG, hc⟩, ht _ (hG _ hc).1, ok _ (by simp [va_wsS]), ⟨hd.1, hd.2.1⟩, fun sig h => ?_, ok _ (by simp [va_wsS]), ok _ (by simp [va_wsS])⟩
  have h2 := hd.2.2
  rw [h] at h2
  exact (Option.some.inj h2).symm
theorem vx_callSW (X : Stand p l e R s m args below meth c T locs cells slots) (hexec : p.tables.exec = Jvm.exec) {own : String} {index : Nat} {y : MethodName} {bytes : ByteArray} {maxL : Nat} {ret : Option FieldType} {hh : List (Nat × Nat × Nat × Nat)}
    (hown : s.vm.findClass own = some m.cls) (hlink : (Cond.methodLink own index y).before args s = true) (hstat : (Cond.static y).before args s = true) (hinit : (Cond.initialized y.cls).before args s = true)
    (hcode : (Cond.codeWith y bytes maxL ret hh).before args s = true) (hy : y.cls ≠ "java/lang/invoke/MethodHandle" ∧ y.cls ≠ "java/lang/invoke/VarHandle")
    {W9 : Nat} {Pre : Pt → Array Value → Prop} {Post : Pt → Array Value → Option Value → Pt → Prop} (hK : Back l R p e below s args y 3 W9 Pre Post)
    {g : JFrame} (hg : g.method = m) (hsize : g.locals.size = c.maxLocals) {argsL rest : List Value} (hlen : ∀ sig, parseMethodDescriptor y.desc = some sig → argsL.length = sig.parameters.length)
    (hstack : g.stack = argsL.reverse ++ rest) (hW : 2 * g.monitorRoom + (rest.map fun v => v.category).sum ≤ W9) (hdg : decode c.code g.pc = .ok (.invokestatic index, 3))
    (hpre : ∀ vm₁, s.WarmedH vm₁ → Pre ⟨T.setVm vm₁, locs, cells, slots⟩ argsL.toArray) :
    ∃ (v : Option Value) (vm₁ : Vm) (B : Pt), s.WarmedH vm₁ ∧ Stand p l e R s m args below meth c B.U B.locs B.cells B.slots ∧ Post ⟨T.setVm vm₁, locs, cells, slots⟩ argsL.toArray v B ∧
      ∀ target, Steps p.tables e below (B.U.setTop { g with pc := g.pc + 3, stack := v.toList ++ rest }) target → Steps p.tables e below (T.setTop g) target := by
  obtain ⟨mk, methM, cM, hnamed, hmethM, -, -, -, -, -, -, hsigM⟩ := Cond.codeWith_spec hcode
  have hstatic : methM.isStatic = true := Cond.static_spec hnamed hmethM hstat
  obtain ⟨kP, hkP, -⟩ := className_of_methodNamed hnamed
  have hinitP : kP.init = .initialized := Cond.initialized_spec (findClass_of_methodNamed hnamed) hkP hinit
  obtain ⟨vm₁, X₁, hstep₁⟩ := X.invokestatic hexec hown hlink hnamed hmethM hstatic hkP hinitP hy (g := g) hg (argsL := argsL) (rest := rest) (hlen _ hsigM) hstack hdg
  obtain ⟨v, B, X', hpost, hsteps⟩ := hK m meth c ⟨T.setVm vm₁, locs, cells, slots⟩ { g with stack := rest } (.invokestatic index) mk argsL.toArray X₁ hg hsize hdg hW (X₁.named hnamed) (hpre vm₁ X₁.warmed)
  exact ⟨v, vm₁, B, X₁.warmed, X', hpost, fun target h => hstep₁ _ fun acts => by rw [doInvoke_state]; exact hsteps.trans h⟩
theorem vx_runSW {y : MethodName} {bytes cc : ByteArray} {maxL nL mc ms n index : Nat} {ret : Option FieldType} {hh : List (Nat × Nat × Nat × Nat)} {ws : List Cond} {rm : Room} {Pc : Array Value → State → Prop} {Qc : Array Value → State → Outcome → State → Prop} {free : Addr → Prop} {Ts : List Cond} {own : String} {As rest : List Value} {g : JFrame}
    (S : CallFix p m c cc nL s args Ts own) (hM : Met l y ws rm Pc Qc mc ms free) (cw : vx_CSW R s args own index y bytes maxL ret hh ws rm mc ms n) (hp : PreS s H Pc As)
    (hg : g.method = m) (hn : As.length = n) (hsize : g.locals.size = nL) (hstack : g.stack = As.reverse ++ rest) (hW : 2 * g.monitorRoom + (rest.map fun v => v.category).sum ≤ 8) (hdg : decode cc g.pc = .ok (.invokestatic index, 3)) (hf : cells + mc ≤ R.cells ∧ slots + ms ≤ R.slots) :
    va_Run p l e R s m args below meth c H locs cells slots mc ms g rest (Qc As.toArray) (free) := by
  obtain ⟨⟨hrc, hrs, hfr, hlo, hws, hcw⟩, hcode, hini, hy, hlen, hl, hstt⟩ := cw
  have hK : Back l R p e below s args y 3 8 (PreOf R mc ms Pc) (PostOf Qc mc ms free) := va_backW (hh := hh) (bytes := bytes) (maxL := maxL) (ret := ret) hM hp.1 hrc hrs hfr hlo hws hcw (fun a' U hW => word_at hW (Or.inl (by first | rfl | simp [Cond.onTables, Cond.keeps, Cond.steady])) hini)
  obtain ⟨hx, hb, hml, ho, -⟩ := S
  intro T hT X
  obtain ⟨v, vm₁, ⟨U', l2, c2, s2⟩, hW₁, X', ⟨g', mk, t, L, e1, e2, hq, h1, hL, h2, h3⟩, st⟩ := vx_callSW X hx (hh := hh) (bytes := bytes) (maxL := maxL) (ret := ret) ho hl hstt hini hcode hy hK hg (hsize.trans hml.symm) (argsL := As) (rest := rest) (fun sig h => hn.trans (hlen sig h)) hstack hW (by rw [hb]; exact hdg)
    (fun vm₁ hW₁ => ⟨hf.1, hf.2, hp.2 (T.setVm vm₁) hT hW₁⟩)
  dsimp only [Pt.U, Pt.locs, Pt.cells, Pt.slots] at X' e1 e2 h1 h2 h3 st
  subst h1; subst h2; subst h3
  exact ⟨v, (T.setVm vm₁).calling g' mk As.toArray, t, U', L, hT, X', hL, e1, e2, hq, st⟩
/-- not caught here, past rows that name other classes: it goes on to the caller -/
theorem vx_outP {p : Program} {l : Launch} {e : Env} {R : Room} {s : State} {m : MethodId} {args : Array Value} {below : List Frame} {meth : Method} {c : Code} {H : Heap} {locs : List Loc} {cells slots : Nat} {free : Addr → Prop} {ls : Array Slot} {rest : List Value} {Qc : Array Value → State → Outcome → State → Prop} {XC : String → State → State → Prop}
    {pc : Nat} {own E : String} {ce : Cell} {q : Addr} {mc ms : Nat} (hown : s.vm.findClass own = some m.cls) (hlocks : meth.locks = false)
    (hpass : ∀ z ∈ c.exceptionTable.toList, covers z pc = false ∨ (z.catchType ≠ 0 ∧ ∃ nm : String, (Cond.classLink own z.catchType nm).before args s = true ∧ va_Nc E nm s)) (hcell : H[q]? = some ce) (hv : ce.vm = .none) (hcl : s.vm.findClass E = some ce.cls)
    (hx : ∀ t : State, t.heap = H → s.vm.Alike t.vm → XC E s t) (hf : ∀ z ∈ locs, free z.base) (hc : cells ≤ mc) (hs : slots ≤ ms) :
    vx_W p l e R s m args below meth c H locs cells slots (vx_MQ below Qc XC args s mc ms free) (F0 m pc ls rest) q := by
  intro T hT X
  have hpl : e.platform.magicAccessors = ({} : Platform).magicAccessors := by rw [X.admits.platform]
  obtain ⟨vm', hW', X', st⟩ := X.outThrough hlocks q (g := F0 m pc ls rest) rfl rfl rfl (cell := ce) (by rw [hT]; exact hcell) (by rw [hv]; rfl)
    (by obtain ⟨k9, h9, -⟩ := Vm.findClass_spec hcl; exact ⟨k9, h9⟩) (fun z hz => by
      rcases hpass z hz with h | ⟨hz0, nm, hl1, hn1⟩
      · exact Or.inl h
      · obtain ⟨c6, hc6, hcl6⟩ := Cond.classLink_spec hown hl1 e.platform hpl
        obtain ⟨a8, b8, h1, h2, h3⟩ := hn1
        cases Option.some.inj (h1.symm.trans hcl)
        cases Option.some.inj (h2.symm.trans hc6)
        exact Or.inr ⟨hz0, _, hcl6, h3⟩)
  obtain ⟨g₀, hfr⟩ := X'.frames_eq
  have hcell9 : ((T.setVm vm').setFrames (.throwing q :: below)).heap[q]? = some ce := by
    show T.heap[q]? = some ce
    rw [hT]; exact hcell
  have hend : Ended ((T.setVm vm').setFrames (.throwing q :: below)) below (.threw q) := State.frames_setFrames _ (State.cur_lt_of_frames hfr)
  refine ⟨(T.setVm vm').setFrames (.throwing q :: below), ?_, .threw q, X'.here.running, hend, Or.inr ⟨q, rfl, E, ce, locs, hx _ hT (X'.ends _).1.alike, hcell9, hv, hcl, (X'.ends _).1, (X'.ends _).2.mono hc hs, hf⟩⟩
  rw [X.pushThrowing_eq]
  exact st
/-- a thing of a world lies in the heap -/
theorem vx_lt {D : va_G} {cl : List vw_C} {ws : va_W} {H1 : Heap} (h : va_P D cl ws H1) {k : Nat} {q : Nat × va_E} (hk : ws[k]? = some q) : q.1 < H1.size := (h k q hk).lt
end VXS
/-! ===== END ===== -/
/-! ===== BEGIN methods with a table of their own: called by a name, returning or throwing ===== -/
section VXH
/-! vx_backW, vx_callVX, vx_callSX, vx_callVW, vx_runVW, vx_runVX, vx_runSX, vx_ofWH follow the same proofs as their sisters above (Free/Laws.lean, Shelf42/LK1.lean); vx_outP calls Shelf42/NT130.lean (outThrough). -/
section
variable {l : Launch} {R : Room} {p : Program} {e : Env} {below : List Frame} {s : State} {sargs : Array Value} {y : MethodName} {len W9 : Nat}
theorem vx_backW {ws : List Cond} {rm : Room} {Pc : Array Value → State → Prop} {Qc : Array Value → State → Outcome → State → Prop} {XC : String → State → State → Prop} {mc ms : Nat} {free : Addr → Prop} {bytes : ByteArray} {maxL : Nat} {ret : Option FieldType} {hh : List (Nat × Nat × Nat × Nat)}
    (hM : vx_Met l y ws rm Pc Qc XC mc ms free) (hblind : FrameBlind Pc) (hrc : rm.cells = mc) (hrs : rm.slots = ms)
    (hframes : rm.frames + 1 ≤ R.frames) (hlocals : W9 + (maxL + 11) + rm.locals ≤ R.locals)
    (hws : ∀ w ∈ ws, ∀ a' U, s.WarmedH U.vm → w.before a' U = true) (hcode : Cond.codeWith y bytes maxL ret hh ∈ ws) (hinit : ∀ a' U, s.WarmedH U.vm → (Cond.initialized y.cls).before a' U = true) :
    vx_Back l R p e below s sargs y len W9 (PreOf R mc ms Pc) (PostOf Qc mc ms free) (vx_Post XC mc ms free) := by
  intro m meth c A g ig mk a X hg hsize hdg hW hn hp
  have h1 : (headSpec ws rm).pre.before a A.U = true := atoms_intro fun w hw => hws w hw _ _ X.warmed
  have h2 : (Cond.codeWith y bytes maxL ret hh).before a A.U = true := hws _ hcode _ _ X.warmed
  have h3 : (Cond.initialized y.cls).before a A.U = true := hinit _ _ X.warmed
  have h4 : A.cells + (headSpec ws rm).room.cells ≤ R.cells := by rw [show (headSpec ws rm).room.cells = mc from hrc]; exact hp.1
  have h5 : A.slots + (headSpec ws rm).room.slots ≤ R.slots := by rw [show (headSpec ws rm).room.slots = ms from hrs]; exact hp.2.1
  have hPc : Pc a (A.U.calling g mk a) := hblind _ _ _ _ hp.2.2
  obtain ⟨U, Ls, c0, s0⟩ := A
  dsimp only [Pt.U, Pt.locs, Pt.cells, Pt.slots] at h1 h2 h3 h4 h5 X hn hPc ⊢
  obtain ⟨m9, methY, cY, hn9, hmY, hcY, -, hlY, -⟩ := Cond.codeWith_spec h2
  cases Option.some.inj (hn9.symm.trans hn)
  obtain ⟨kY, hkY, -⟩ := className_of_methodNamed hn
  have hinitY : kY.init = .initialized := Cond.initialized_spec (findClass_of_methodNamed hn) hkY h3
  have h : At U g.method c below := by rw [hg]; exact X.here
  have hlocals9 : W9 + (maxL + 11) + (headSpec ws rm).room.locals ≤ R.locals := hlocals
  have happ : (headSpec ws rm).appliesLoose y e.platform (U.calling g mk a) = true :=
    Spec.appliesLoose_calling (g := g) h hdg hn hkY hinitY
      (X.room_calling (g := g) (R' := (headSpec ws rm).room) hsize hmY hcY hframes (by rw [hlY]; omega) h4 h5) h1
  obtain ⟨mid, hmid⟩ := h.above
  have hfr : (U.setTop g).frames = (.java g :: mid) ++ below := by rw [State.frames_setTop' g h.top, hmid]; rfl
  obtain ⟨o, s₂, hsteps, -, hend, hq⟩ := Steps.callFree hM p X.admits X.cas X.clock (acts := []) hfr happ hPc trivial
  have hq' : vx_Q Qc XC mc ms free a (U.calling g mk a) o s₂ := hq
  rw [State.frames_setTop' g h.top] at hend
  obtain ⟨g₀, hg0⟩ := Option.isSome_iff_exists.mp h.top
  obtain ⟨r, hr⟩ := State.topJava?_eq_some.mp hg0
  have hr' : (({ U with heap := s₂.heap, slotsUsed := s₂.slotsUsed } : State).setVm s₂.vm).frames = .java g₀ :: r := hr
  rcases hq' with ⟨hqc, L, hfe, hL⟩ | ⟨q, rfl, E, ce, L, hx, hce, hcv, hcl, hW₂, hsm, hL⟩
  · obtain ⟨⟨v, rfl⟩, hW₂, e2, q2, q3, q4, q5, q6⟩ := id hfe
    have e3 : s₂ = ({ (U.calling g mk a).setFrames s₂.frames with heap := s₂.heap, slotsUsed := s₂.slotsUsed } : State).setVm s₂.vm := by
      have : s₂ = ({ s₂ with vm := (U.calling g mk a).vm } : State).setVm s₂.vm := rfl
      rw [e2] at this
      exact this
    obtain ⟨c₂, i₂, len₂, hc₂, hd₂, hf₂⟩ := hend
    have hW' : U.WarmedH s₂.vm := hW₂
    have hcc : c₂ = c := by
      have h1 : s₂.code? g.method = U.code? g.method := by
        rw [State.code?_eq, State.code?_eq, hW'.alike.method?]
      exact Option.some.inj (hc₂.symm.trans (h1.trans h.code))
    subst hcc
    have hlen : len₂ = len := by rw [hdg] at hd₂; cases hd₂; rfl
    subst hlen
    have hs₂ : s₂ = (({ U with heap := s₂.heap, slotsUsed := s₂.slotsUsed } : State).setVm s₂.vm).setTop { g with pc := g.pc + len₂, stack := v.toList ++ g.stack } := by
      refine e3.trans ?_
      rw [hf₂, State.calling_eq h.top, State.setFrames_setFrames, State.setTop_of_frames _ hr', hr]
      rfl
    have hsame : U.sameButNew ({ U with heap := s₂.heap, slotsUsed := s₂.slotsUsed } : State) L mc ms := by
      refine ⟨?_, q2, q3, q4, q5, q6⟩
      obtain ⟨t, ht, -⟩ := State.frames_cons hr
      show ({ U with heap := s₂.heap, slotsUsed := s₂.slotsUsed } : State) = { U.setFrames U.frames with heap := s₂.heap, slotsUsed := s₂.slotsUsed }
      rw [State.setFrames_self ht]
    subst hg
    refine Or.inl ⟨v, ⟨(({ U with heap := s₂.heap, slotsUsed := s₂.slotsUsed } : State).setVm s₂.vm), Ls ++ L, c0 + mc, s0 + ms⟩,
      ⟨X.admits, X.cas, X.clock, X.frames, X.room, X.hears, X.method, X.code, (X.here.setHeapUsed s₂.heap s₂.slotsUsed).setVm hW'.alike, X.tail, State.WarmedH.trans X.warmed hW', X.limits, X.bytes, X.same.trans (hsame.setVm s.vm)⟩,
      ⟨g, mk, s₂, L, rfl, rfl, hqc, rfl, hL, rfl, rfl⟩, ?_⟩
    show Steps p.tables e below _ ((({ U with heap := s₂.heap, slotsUsed := s₂.slotsUsed } : State).setVm s₂.vm).setTop { g with pc := g.pc + len₂, stack := v.toList ++ g.stack })
    rw [← hs₂]
    exact hsteps
  · obtain ⟨e2, q2, q3, q4, q5, q6⟩ := id hsm
    have e3 : s₂ = ({ (U.calling g mk a).setFrames s₂.frames with heap := s₂.heap, slotsUsed := s₂.slotsUsed } : State).setVm s₂.vm := by
      have : s₂ = ({ s₂ with vm := (U.calling g mk a).vm } : State).setVm s₂.vm := rfl
      rw [e2] at this
      exact this
    have hf₂ : s₂.frames = .throwing q :: .java g :: U.frames.tail := hend
    have hW' : U.WarmedH s₂.vm := hW₂
    have hs₂ : s₂ = ((({ U with heap := s₂.heap, slotsUsed := s₂.slotsUsed } : State).setVm s₂.vm).setTop g).pushFrame (.throwing q) := by
      refine e3.trans ?_
      rw [hf₂, State.calling_eq h.top, State.setFrames_setFrames, State.pushFrame, State.frames_setTop _ hr', State.setTop_of_frames _ hr', State.setFrames_setFrames, hr]
      rfl
    have hsame : U.sameButNew ({ U with heap := s₂.heap, slotsUsed := s₂.slotsUsed } : State) L mc ms := by
      refine ⟨?_, q2, q3, q4, q5, q6⟩
      obtain ⟨t, ht, -⟩ := State.frames_cons hr
      show ({ U with heap := s₂.heap, slotsUsed := s₂.slotsUsed } : State) = { U.setFrames U.frames with heap := s₂.heap, slotsUsed := s₂.slotsUsed }
      rw [State.setFrames_self ht]
    subst hg
    refine Or.inr ⟨q, ⟨(({ U with heap := s₂.heap, slotsUsed := s₂.slotsUsed } : State).setVm s₂.vm), Ls ++ L, c0 + mc, s0 + ms⟩,
      ⟨X.admits, X.cas, X.clock, X.frames, X.room, X.hears, X.method, X.code, (X.here.setHeapUsed s₂.heap s₂.slotsUsed).setVm hW'.alike, X.tail, State.WarmedH.trans X.warmed hW', X.limits, X.bytes, X.same.trans (hsame.setVm s.vm)⟩,
      ⟨g, mk, s₂, L, E, ce, rfl, rfl, hx, hce, hcv, hcl, rfl, hL, rfl, rfl⟩, ?_⟩
    show Steps p.tables e below _ (((({ U with heap := s₂.heap, slotsUsed := s₂.slotsUsed } : State).setVm s₂.vm).setTop g).pushFrame (.throwing q))
    rw [← hs₂]
    exact hsteps
end
variable {p : Program} {l : Launch} {e : Env} {R : Room} {s : State} {m : MethodId} {args : Array Value} {below : List Frame} {meth : Method} {c : Code} {T : State} {H : Heap} {locs : List Loc} {cells slots : Nat}
theorem vx_callVX (X : Stand p l e R s m args below meth c T locs cells slots) (hexec : p.tables.exec = Jvm.exec) {own C : String} {index : Nat} {y : MethodName} {bytes : ByteArray} {maxL : Nat} {ret : Option FieldType} {hh : List (Nat × Nat × Nat × Nat)}
    (hown : s.vm.findClass own = some m.cls) (hlink : (Cond.methodLink own index y).before args s = true) (hinst : (Cond.instanceMethod y).before args s = true) (hsel : (Cond.selects C y y).before args s = true)
    (hcode : (Cond.codeWith y bytes maxL ret hh).before args s = true) (hy : y.cls ≠ "java/lang/invoke/MethodHandle" ∧ y.cls ≠ "java/lang/invoke/VarHandle")
    {W9 : Nat} {Pre : Pt → Array Value → Prop} {Post : Pt → Array Value → Option Value → Pt → Prop} {PostX : Pt → Array Value → Addr → Pt → Prop} (hK : vx_Back l R p e below s args y 3 W9 Pre Post PostX)
    {b : Addr} {cellB : Cell} (hcell : T.heap[b]? = some cellB) (hobj : cellB.vm.isStatics = false) (hcls : s.vm.findClass C = some cellB.cls)
    {g : JFrame} (hg : g.method = m) (hsize : g.locals.size = c.maxLocals) {argsL rest : List Value} (hlen : ∀ sig, parseMethodDescriptor y.desc = some sig → argsL.length = sig.parameters.length)
    (hstack : g.stack = argsL.reverse ++ .ref b :: rest) (hW : 2 * g.monitorRoom + (rest.map fun v => v.category).sum ≤ W9) (hdg : decode c.code g.pc = .ok (.invokevirtual index, 3))
    (hpre : ∀ vm₁, s.WarmedH vm₁ → Pre ⟨T.setVm vm₁, locs, cells, slots⟩ (Value.ref b :: argsL).toArray) :
    (∃ (v : Option Value) (vm₁ : Vm) (B : Pt), s.WarmedH vm₁ ∧ Stand p l e R s m args below meth c B.U B.locs B.cells B.slots ∧ Post ⟨T.setVm vm₁, locs, cells, slots⟩ (Value.ref b :: argsL).toArray v B ∧
      ∀ target, Steps p.tables e below (B.U.setTop { g with pc := g.pc + 3, stack := v.toList ++ rest }) target → Steps p.tables e below (T.setTop g) target) ∨
    (∃ (q : Addr) (vm₁ : Vm) (B : Pt), s.WarmedH vm₁ ∧ Stand p l e R s m args below meth c B.U B.locs B.cells B.slots ∧ PostX ⟨T.setVm vm₁, locs, cells, slots⟩ (Value.ref b :: argsL).toArray q B ∧
      Steps p.tables e below (T.setTop g) ((B.U.setTop { g with stack := rest }).pushFrame (.throwing q))) := by
  obtain ⟨mk, methM, hnamed, hmethM, hstM, habM⟩ := Cond.instanceMethod_spec hinst
  obtain ⟨m8, methM', cM, hn8, hmethM', -, -, -, -, -, -, hsigM⟩ := Cond.codeWith_spec hcode
  cases Option.some.inj (hn8.symm.trans hnamed)
  cases hmethM.symm.trans hmethM'
  obtain ⟨c2, r2, m2, q1, q2, q3, q4, kP, hkP, hkPi⟩ := Cond.selects_spec hsel
  cases hcls.symm.trans q1
  cases (State.methodFound?_of_named hnamed hy).symm.trans q2
  cases hnamed.symm.trans q3
  have hselP : selectMethod e.platform s.vm cellB.cls mk = .method mk := by rw [Launch.admits_selectMethod X.admits]; exact q4
  obtain ⟨vm₁, X₁, hstep₁⟩ := X.invokevirtual hexec hown hlink hnamed hmethM hstM hkP hkPi hy (a := b) (cell := cellB) hcell
    (fun z h => by rw [h] at hobj; cases hobj) hselP hmethM habM hkP hkPi (g := g) hg (argsL := argsL) (rest := rest) (hlen _ hsigM) hstack hdg
  rcases hK m meth c ⟨T.setVm vm₁, locs, cells, slots⟩ { g with stack := rest } (.invokevirtual index) mk (Value.ref b :: argsL).toArray X₁ hg hsize hdg hW (X₁.named hnamed) (hpre vm₁ X₁.warmed) with ⟨v, B, X', hpost, hsteps⟩ | ⟨q, B, X', hpost, hsteps⟩
  · exact Or.inl ⟨v, vm₁, B, X₁.warmed, X', hpost, fun target h => hstep₁ _ fun acts => by rw [doInvoke_state]; exact hsteps.trans h⟩
  · exact Or.inr ⟨q, vm₁, B, X₁.warmed, X', hpost, hstep₁ _ fun acts => by rw [doInvoke_state]; exact hsteps⟩
theorem vx_callSX (X : Stand p l e R s m args below meth c T locs cells slots) (hexec : p.tables.exec = Jvm.exec) {own : String} {index : Nat} {y : MethodName} {bytes : ByteArray} {maxL : Nat} {ret : Option FieldType} {hh : List (Nat × Nat × Nat × Nat)}
    (hown : s.vm.findClass own = some m.cls) (hlink : (Cond.methodLink own index y).before args s = true) (hstat : (Cond.static y).before args s = true) (hinit : (Cond.initialized y.cls).before args s = true)
    (hcode : (Cond.codeWith y bytes maxL ret hh).before args s = true) (hy : y.cls ≠ "java/lang/invoke/MethodHandle" ∧ y.cls ≠ "java/lang/invoke/VarHandle")
    {W9 : Nat} {Pre : Pt → Array Value → Prop} {Post : Pt → Array Value → Option Value → Pt → Prop} {PostX : Pt → Array Value → Addr → Pt → Prop} (hK : vx_Back l R p e below s args y 3 W9 Pre Post PostX)
    {g : JFrame} (hg : g.method = m) (hsize : g.locals.size = c.maxLocals) {argsL rest : List Value} (hlen : ∀ sig, parseMethodDescriptor y.desc = some sig → argsL.length = sig.parameters.length)
    (hstack : g.stack = argsL.reverse ++ rest) (hW : 2 * g.monitorRoom + (rest.map fun v => v.category).sum ≤ W9) (hdg : decode c.code g.pc = .ok (.invokestatic index, 3))
    (hpre : ∀ vm₁, s.WarmedH vm₁ → Pre ⟨T.setVm vm₁, locs, cells, slots⟩ argsL.toArray) :
    (∃ (v : Option Value) (vm₁ : Vm) (B : Pt), s.WarmedH vm₁ ∧ Stand p l e R s m args below meth c B.U B.locs B.cells B.slots ∧ Post ⟨T.setVm vm₁, locs, cells, slots⟩ argsL.toArray v B ∧
      ∀ target, Steps p.tables e below (B.U.setTop { g with pc := g.pc + 3, stack := v.toList ++ rest }) target → Steps p.tables e below (T.setTop g) target) ∨
    (∃ (q : Addr) (vm₁ : Vm) (B : Pt), s.WarmedH vm₁ ∧ Stand p l e R s m args below meth c B.U B.locs B.cells B.slots ∧ PostX ⟨T.setVm vm₁, locs, cells, slots⟩ argsL.toArray q B ∧
      Steps p.tables e below (T.setTop g) ((B.U.setTop { g with stack := rest }).pushFrame (.throwing q))) := by
  obtain ⟨mk, methM, cM, hnamed, hmethM, -, -, -, -, -, -, hsigM⟩ := Cond.codeWith_spec hcode
  have hstatic : methM.isStatic = true := Cond.static_spec hnamed hmethM hstat
  obtain ⟨kP, hkP, -⟩ := className_of_methodNamed hnamed
  have hinitP : kP.init = .initialized := Cond.initialized_spec (findClass_of_methodNamed hnamed) hkP hinit
  obtain ⟨vm₁, X₁, hstep₁⟩ := X.invokestatic hexec hown hlink hnamed hmethM hstatic hkP hinitP hy (g := g) hg (argsL := argsL) (rest := rest) (hlen _ hsigM) hstack hdg
  rcases hK m meth c ⟨T.setVm vm₁, locs, cells, slots⟩ { g with stack := rest } (.invokestatic index) mk argsL.toArray X₁ hg hsize hdg hW (X₁.named hnamed) (hpre vm₁ X₁.warmed) with ⟨v, B, X', hpost, hsteps⟩ | ⟨q, B, X', hpost, hsteps⟩
  · exact Or.inl ⟨v, vm₁, B, X₁.warmed, X', hpost, fun target h => hstep₁ _ fun acts => by rw [doInvoke_state]; exact hsteps.trans h⟩
  · exact Or.inr ⟨q, vm₁, B, X₁.warmed, X', hpost, hstep₁ _ fun acts => by rw [doInvoke_state]; exact hsteps⟩
theorem vx_callVW (X : Stand p l e R s m args below meth c T locs cells slots) (hexec : p.tables.exec = Jvm.exec) {own C : String} {index : Nat} {y : MethodName} {bytes : ByteArray} {maxL : Nat} {ret : Option FieldType} {hh : List (Nat × Nat × Nat × Nat)}
    (hown : s.vm.findClass own = some m.cls) (hlink : (Cond.methodLink own index y).before args s = true) (hinst : (Cond.instanceMethod y).before args s = true) (hsel : (Cond.selects C y y).before args s = true)
    (hcode : (Cond.codeWith y bytes maxL ret hh).before args s = true) (hy : y.cls ≠ "java/lang/invoke/MethodHandle" ∧ y.cls ≠ "java/lang/invoke/VarHandle")
    {W9 : Nat} {Pre : Pt → Array Value → Prop} {Post : Pt → Array Value → Option Value → Pt → Prop} (hK : Back l R p e below s args y 3 W9 Pre Post)
    {b : Addr} {cellB : Cell} (hcell : T.heap[b]? = some cellB) (hobj : cellB.vm.isStatics = false) (hcls : s.vm.findClass C = some cellB.cls)
    {g : JFrame} (hg : g.method = m) (hsize : g.locals.size = c.maxLocals) {argsL rest : List Value} (hlen : ∀ sig, parseMethodDescriptor y.desc = some sig → argsL.length = sig.parameters.length)
    (hstack : g.stack = argsL.reverse ++ .ref b :: rest) (hW : 2 * g.monitorRoom + (rest.map fun v => v.category).sum ≤ W9) (hdg : decode c.code g.pc = .ok (.invokevirtual index, 3))
    (hpre : ∀ vm₁, s.WarmedH vm₁ → Pre ⟨T.setVm vm₁, locs, cells, slots⟩ (Value.ref b :: argsL).toArray) :
    ∃ (v : Option Value) (vm₁ : Vm) (B : Pt), s.WarmedH vm₁ ∧ Stand p l e R s m args below meth c B.U B.locs B.cells B.slots ∧ Post ⟨T.setVm vm₁, locs, cells, slots⟩ (Value.ref b :: argsL).toArray v B ∧
      ∀ target, Steps p.tables e below (B.U.setTop { g with pc := g.pc + 3, stack := v.toList ++ rest }) target → Steps p.tables e below (T.setTop g) target := by
  obtain ⟨mk, methM, hnamed, hmethM, hstM, habM⟩ := Cond.instanceMethod_spec hinst
  obtain ⟨m8, methM', cM, hn8, hmethM', -, -, -, -, -, -, hsigM⟩ := Cond.codeWith_spec hcode
  cases Option.some.inj (hn8.symm.trans hnamed)
  cases hmethM.symm.trans hmethM'
  obtain ⟨c2, r2, m2, q1, q2, q3, q4, kP, hkP, hkPi⟩ := Cond.selects_spec hsel
  cases hcls.symm.trans q1
  cases (State.methodFound?_of_named hnamed hy).symm.trans q2
  cases hnamed.symm.trans q3
  have hselP : selectMethod e.platform s.vm cellB.cls mk = .method mk := by rw [Launch.admits_selectMethod X.admits]; exact q4
  obtain ⟨vm₁, X₁, hstep₁⟩ := X.invokevirtual hexec hown hlink hnamed hmethM hstM hkP hkPi hy (a := b) (cell := cellB) hcell
    (fun z h => by rw [h] at hobj; cases hobj) hselP hmethM habM hkP hkPi (g := g) hg (argsL := argsL) (rest := rest) (hlen _ hsigM) hstack hdg
  obtain ⟨v, B, X', hpost, hsteps⟩ := hK m meth c ⟨T.setVm vm₁, locs, cells, slots⟩ { g with stack := rest } (.invokevirtual index) mk (Value.ref b :: argsL).toArray X₁ hg hsize hdg hW (X₁.named hnamed) (hpre vm₁ X₁.warmed)
  exact ⟨v, vm₁, B, X₁.warmed, X', hpost, fun target h => hstep₁ _ fun acts => by rw [doInvoke_state]; exact hsteps.trans h⟩
abbrev vx_CVW (R : Room) (s : State) (args : Array Value) (own C : String) (index : Nat) (y : MethodName) (bytes : ByteArray) (maxL : Nat) (ret : Option FieldType) (hh : List (Nat × Nat × Nat × Nat)) (ws : List Cond) (rm : Room) (mc ms n : Nat) : Prop :=
  (rm.cells = mc ∧ rm.slots = ms ∧ rm.frames + 1 ≤ R.frames ∧ 8 + (maxL + 11) + rm.locals ≤ R.locals ∧ (∀ w ∈ ws, ∀ (a' : Array Value) (U : State), s.WarmedH U.vm → w.before a' U = true) ∧ Cond.codeWith y bytes maxL ret hh ∈ ws) ∧
  (Cond.codeWith y bytes maxL ret hh).before args s = true ∧ (Cond.initialized y.cls).before args s = true ∧ (y.cls ≠ "java/lang/invoke/MethodHandle" ∧ y.cls ≠ "java/lang/invoke/VarHandle") ∧
  (∀ sig, parseMethodDescriptor y.desc = some sig → n = sig.parameters.length) ∧ (Cond.methodLink own index y).before args s = true ∧ (Cond.instanceMethod y).before args s = true ∧ (Cond.selects C y y).before args s = true
theorem vx_cwVW {own C : String} {index maxL mc ms : Nat} {y : MethodName} {bytes : ByteArray} {ret : Option FieldType} {hh : List (Nat × Nat × Nat × Nat)} {Ts ws ws' : List Cond} {rm : Room} (n : Nat) (ht : ∀ w ∈ Ts, w.before args s = true) (hT : GoodIn Ts (wsV own index C y ws)) (hw : ws = Cond.codeWith y bytes maxL ret hh :: ws') (hrc : rm.cells = mc) (hrs : rm.slots = ms)
    (hd : y.cls = C ∧ y.cls ≠ "java/lang/invoke/MethodHandle" ∧ y.cls ≠ "java/lang/invoke/VarHandle" ∧ (parseMethodDescriptor y.desc).map (fun d => d.parameters.length) = some n) (hR : rm.frames + 1 ≤ R.frames ∧ 8 + (maxL + 11) + rm.locals ≤ R.locals) :
    vx_CVW R s args own C index y bytes maxL ret hh ws rm mc ms n := by
  obtain ⟨hC, hd⟩ := hd
  subst hC
  have ok : ∀ w ∈ wsV own index y.cls y ws, w.before args s = true := fun w h => ht w (hT w h).1
  have hG : GoodIn Ts ws := fun w h => hT w (by unfold wsV; exact List.mem_append_right _ h)
  have hc : Cond.codeWith y bytes maxL ret hh ∈ ws := by rw [hw]; exact List.mem_cons_self
  refine ⟨⟨hrc, hrs, hR.1, hR.2, pay_in ht hG, hc⟩, ht _ (hG _ hc).1, ok _ (by simp [wsV]), ⟨hd.1, hd.2.1⟩, fun sig h => ?_, ok _ (by simp [wsV]), ok _ (by simp [wsV]), ok _ (by simp [wsV])⟩
  have h2 := hd.2.2
  rw [h] at h2
  exact (Option.some.inj h2).symm
theorem vx_runVW {y : MethodName} {bytes cc : ByteArray} {maxL nL mc ms n index : Nat} {ret : Option FieldType} {hh : List (Nat × Nat × Nat × Nat)} {ws : List Cond} {rm : Room} {Pc : Array Value → State → Prop} {Qc : Array Value → State → Outcome → State → Prop} {free : Addr → Prop} {Ts : List Cond} {own C : String} {b : Addr} {As rest : List Value} {g : JFrame}
    (S : CallFix p m c cc nL s args Ts own) (hM : Met l y ws rm Pc Qc mc ms free) (cw : vx_CVW R s args own C index y bytes maxL ret hh ws rm mc ms n) (hp : PreV s H C b Pc As)
    (hg : g.method = m) (hn : As.length = n) (hsize : g.locals.size = nL) (hstack : g.stack = As.reverse ++ .ref b :: rest) (hW : 2 * g.monitorRoom + (rest.map fun v => v.category).sum ≤ 8) (hdg : decode cc g.pc = .ok (.invokevirtual index, 3)) (hf : cells + mc ≤ R.cells ∧ slots + ms ≤ R.slots) :
    va_Run p l e R s m args below meth c H locs cells slots mc ms g rest (Qc (Value.ref b :: As).toArray) free := by
  obtain ⟨⟨hrc, hrs, hfr, hlo, hws, hcw⟩, hcode, hini, hy, hlen, hl, hin, hse⟩ := cw
  have hK : Back l R p e below s args y 3 8 (PreOf R mc ms Pc) (PostOf Qc mc ms free) := va_backW (hh := hh) (bytes := bytes) (maxL := maxL) (ret := ret) hM hp.1 hrc hrs hfr hlo hws hcw (fun a' U hW => word_at hW (Or.inl (by first | rfl | simp [Cond.onTables, Cond.keeps, Cond.steady])) hini)
  obtain ⟨hx, hb, hml, ho, -⟩ := S
  obtain ⟨-, ⟨cellB, hcB, hoB, hclB⟩, hPc⟩ := hp
  intro T hT X
  obtain ⟨v, vm₁, ⟨U', l2, c2, s2⟩, hW₁, X', ⟨g', mk, t, L, e1, e2, hq, h1, hL, h2, h3⟩, st⟩ := vx_callVW X hx (C := C) (hh := hh) (bytes := bytes) (maxL := maxL) (ret := ret) ho hl hin hse hcode hy hK (by rw [hT]; exact hcB) hoB hclB hg (hsize.trans hml.symm) (argsL := As) (rest := rest) (fun sig h => hn.trans (hlen sig h)) hstack hW (by rw [hb]; exact hdg)
    (fun vm₁ hW₁ => ⟨hf.1, hf.2, hPc (T.setVm vm₁) hT hW₁⟩)
  dsimp only [Pt.U, Pt.locs, Pt.cells, Pt.slots] at X' e1 e2 h1 h2 h3 st
  subst h1; subst h2; subst h3
  exact ⟨v, (T.setVm vm₁).calling g' mk (Value.ref b :: As).toArray, t, U', L, hT, X', hL, e1, e2, hq, st⟩
section
variable {y : MethodName} {bytes cc : ByteArray} {maxL nL mc ms n index : Nat} {ret : Option FieldType} {ws : List Cond} {rm : Room} {Pc : Array Value → State → Prop} {Qc : Array Value → State → Outcome → State → Prop} {XC : String → State → State → Prop} {free : Addr → Prop} {Ts : List Cond} {own C : String} {b : Addr} {As rest : List Value} {g : JFrame}
theorem vx_runVX {hh : List (Nat × Nat × Nat × Nat)} (S : CallFix p m c cc nL s args Ts own) (hM : vx_Met l y ws rm Pc Qc XC mc ms free) (cw : vx_CVW R s args own C index y bytes maxL ret hh ws rm mc ms n) (hp : PreV s H C b Pc As)
    (hg : g.method = m) (hn : As.length = n) (hsize : g.locals.size = nL) (hstack : g.stack = As.reverse ++ .ref b :: rest) (hW : 2 * g.monitorRoom + (rest.map fun v => v.category).sum ≤ 8) (hdg : decode cc g.pc = .ok (.invokevirtual index, 3)) (hf : cells + mc ≤ R.cells ∧ slots + ms ≤ R.slots) :
    vx_Run p l e R s m args below meth c H locs cells slots mc ms g rest (Qc (Value.ref b :: As).toArray) XC free := by
  obtain ⟨⟨hrc, hrs, hfr, hlo, hws, hcw⟩, hcode, hini, hy, hlen, hl, hin, hse⟩ := cw
  have hK : vx_Back l R p e below s args y 3 8 (PreOf R mc ms Pc) (PostOf Qc mc ms free) (vx_Post XC mc ms free) := vx_backW (hh := hh) (bytes := bytes) (maxL := maxL) (ret := ret) hM hp.1 hrc hrs hfr hlo hws hcw (fun a' U hW => word_at hW (Or.inl (by first | rfl | simp [Cond.onTables, Cond.keeps, Cond.steady])) hini)
  obtain ⟨hx, hb, hml, ho, -⟩ := S
  obtain ⟨-, ⟨cellB, hcB, hoB, hclB⟩, hPc⟩ := hp
  intro T hT X
  rcases vx_callVX X hx (C := C) (hh := hh) (bytes := bytes) (maxL := maxL) (ret := ret) ho hl hin hse hcode hy hK (by rw [hT]; exact hcB) hoB hclB hg (hsize.trans hml.symm) (argsL := As) (rest := rest) (fun sig h => hn.trans (hlen sig h)) hstack hW (by rw [hb]; exact hdg)
    (fun vm₁ hW₁ => ⟨hf.1, hf.2, hPc (T.setVm vm₁) hT hW₁⟩) with ⟨v, vm₁, ⟨U', l2, c2, s2⟩, hW₁, X', ⟨g', mk, t, L, e1, e2, hq, h1, hL, h2, h3⟩, st⟩ | ⟨q, vm₁, ⟨U', l2, c2, s2⟩, hW₁, X', ⟨g', mk, t, L, E, ce, e1, e2, hq, hce, hcv, hcl, h1, hL, h2, h3⟩, st⟩
  · dsimp only [Pt.U, Pt.locs, Pt.cells, Pt.slots] at X' e1 e2 h1 h2 h3 st
    subst h1; subst h2; subst h3
    exact Or.inl ⟨v, (T.setVm vm₁).calling g' mk (Value.ref b :: As).toArray, t, U', L, hT, X', hL, e1, e2, hq, st⟩
  · dsimp only [Pt.U, Pt.locs, Pt.cells, Pt.slots] at X' e1 e2 h1 h2 h3 st hcl
    subst h1; subst h2; subst h3
    exact Or.inr ⟨q, (T.setVm vm₁).calling g' mk (Value.ref b :: As).toArray, t, U', L, E, ce, hT, X', hL, e1, e2, hq, hce, hcv, vx_cls hW₁ hcl, st⟩
theorem vx_runSX {hh : List (Nat × Nat × Nat × Nat)} (S : CallFix p m c cc nL s args Ts own) (hM : vx_Met l y ws rm Pc Qc XC mc ms free) (cw : vx_CSW R s args own index y bytes maxL ret hh ws rm mc ms n) (hp : PreS s H Pc As)
    (hg : g.method = m) (hn : As.length = n) (hsize : g.locals.size = nL) (hstack : g.stack = As.reverse ++ rest) (hW : 2 * g.monitorRoom + (rest.map fun v => v.category).sum ≤ 8) (hdg : decode cc g.pc = .ok (.invokestatic index, 3)) (hf : cells + mc ≤ R.cells ∧ slots + ms ≤ R.slots) :
    vx_Run p l e R s m args below meth c H locs cells slots mc ms g rest (Qc As.toArray) XC free := by
  obtain ⟨⟨hrc, hrs, hfr, hlo, hws, hcw⟩, hcode, hini, hy, hlen, hl, hstt⟩ := cw
  have hK : vx_Back l R p e below s args y 3 8 (PreOf R mc ms Pc) (PostOf Qc mc ms free) (vx_Post XC mc ms free) := vx_backW (hh := hh) (bytes := bytes) (maxL := maxL) (ret := ret) hM hp.1 hrc hrs hfr hlo hws hcw (fun a' U hW => word_at hW (Or.inl (by first | rfl | simp [Cond.onTables, Cond.keeps, Cond.steady])) hini)
  obtain ⟨hx, hb, hml, ho, -⟩ := S
  intro T hT X
  rcases vx_callSX X hx (hh := hh) (bytes := bytes) (maxL := maxL) (ret := ret) ho hl hstt hini hcode hy hK hg (hsize.trans hml.symm) (argsL := As) (rest := rest) (fun sig h => hn.trans (hlen sig h)) hstack hW (by rw [hb]; exact hdg)
    (fun vm₁ hW₁ => ⟨hf.1, hf.2, hp.2 (T.setVm vm₁) hT hW₁⟩) with ⟨v, vm₁, ⟨U', l2, c2, s2⟩, hW₁, X', ⟨g', mk, t, L, e1, e2, hq, h1, hL, h2, h3⟩, st⟩ | ⟨q, vm₁, ⟨U', l2, c2, s2⟩, hW₁, X', ⟨g', mk, t, L, E, ce, e1, e2, hq, hce, hcv, hcl, h1, hL, h2, h3⟩, st⟩
  · dsimp only [Pt.U, Pt.locs, Pt.cells, Pt.slots] at X' e1 e2 h1 h2 h3 st
    subst h1; subst h2; subst h3
    exact Or.inl ⟨v, (T.setVm vm₁).calling g' mk As.toArray, t, U', L, hT, X', hL, e1, e2, hq, st⟩
  · dsimp only [Pt.U, Pt.locs, Pt.cells, Pt.slots] at X' e1 e2 h1 h2 h3 st hcl
    subst h1; subst h2; subst h3
    exact Or.inr ⟨q, (T.setVm vm₁).calling g' mk As.toArray, t, U', L, E, ce, hT, X', hL, e1, e2, hq, hce, hcv, vx_cls hW₁ hcl, st⟩
end
end VXH
theorem vx_ofWH {l : Launch} {y : MethodName} {ws ws' : List Cond} {rm : Room} {Pc : Array Value → State → Prop} {Qc : Array Value → State → Outcome → State → Prop} {XC : String → State → State → Prop} {mc ms : Nat} {free : Addr → Prop} {cc : ByteArray} {maxL : Nat} {ret : Option FieldType} {hh : List (Nat × Nat × Nat × Nat)}
    (hy : plainName y.cls = true) (hw : ws = Cond.codeWith y cc maxL ret hh :: ws')
    (body : ∀ p e s m args below meth c s₁, BodyLoose p l y (headSpec ws rm) cc maxL ret e s m args below meth c s₁ → c.maxLocals = maxL → Pc args s →
      W p l e (headSpec ws rm).room s m args below meth c s.heap [] 0 0 (vx_MQ below Qc XC args s mc ms free) (entryFrame m args maxL)) : vx_Met l y ws rm Pc Qc XC mc ms free := by
  refine MetFree.of_bodyS (code := cc) (maxLocals := maxL) (ret := ret) hy ?_ ?_
  · intro args s m h hn
    obtain ⟨m9, meth, c, hn9, h1, h2, h3, h4, -, h5, h6, -⟩ := Cond.codeWith_spec (atoms_spec (ws := ws) h _ (by rw [hw]; exact List.mem_cons_self))
    cases hn.symm.trans hn9
    exact ⟨meth, c, h1, h2, h3, h4, h5, h6⟩
  · intro p e s m args below meth c s₁ B hml hP _
    have hh0 : s₁.heap = s.heap := by rw [B.state]; rfl
    obtain ⟨t, a1, o, b1, b2, b3⟩ := body p e s m args below meth c s₁ B hml hP s₁ hh0 (Stand.of_body B)
    exact ⟨t, o, a1, b1, b2, b3⟩
/-! ===== END ===== -/

/-! ===== BEGIN printed: names, fields, word lists, decode rows ===== -/
def RX0 : String := "Slicehouse$Course"
def TX0 : u_T := fun k => match k with
  | 0 => ("Slicehouse$Course", "length", "I", false)
  | 1 => ("Slicehouse$Course", "doings", "LSlicehouse$Row;", true)
  | _ => ("Slicehouse$Course", "jobs", "LSlicehouse$Jobs;", true)
def tyX0 : Nat → FieldType := fun k => match k with
  | 0 => .int
  | 1 => .object "Slicehouse$Row"
  | _ => .object "Slicehouse$Jobs"
abbrev wsX00 : List Cond := u_ws RX0 TX0 3
theorem nmX0 : ∀ a, a < 3 → ∀ b, b < 3 → a ≠ b → (TX0 a).2.1 ≠ (TX0 b).2.1 := by decide +kernel
theorem tyX0_ok : ∀ k, k < 3 → parseFieldDescriptor (TX0 k).2.2.1 = some (tyX0 k) := by decide +kernel
abbrev cX0_init : ByteArray := prog_2_method_1_code
def yX0_init : MethodName := ⟨RX0, "<init>", "(LSlicehouse$Jobs;)V"⟩
abbrev cX0_note : ByteArray := prog_2_method_2_code
def yX0_note : MethodName := ⟨RX0, "note", "(I)V"⟩
abbrev cX0_doingAt : ByteArray := prog_2_method_3_code
def yX0_doingAt : MethodName := ⟨RX0, "doingAt", "(I)I"⟩
abbrev cX0_leftOf : ByteArray := prog_2_method_4_code
def yX0_leftOf : MethodName := ⟨RX0, "leftOf", "(II)I"⟩
abbrev cX0_firstWork : ByteArray := prog_2_method_5_code
def yX0_firstWork : MethodName := ⟨RX0, "firstWork", "(I)I"⟩
abbrev cX0_longestGap : ByteArray := prog_2_method_6_code
def yX0_longestGap : MethodName := ⟨RX0, "longestGap", "(II)I"⟩
abbrev cX0_countWork : ByteArray := prog_2_method_7_code
def yX0_countWork : MethodName := ⟨RX0, "countWork", "()I"⟩
abbrev cX0_countBusy : ByteArray := prog_2_method_8_code
def yX0_countBusy : MethodName := ⟨RX0, "countBusy", "()I"⟩
abbrev cX0_busyBegin : ByteArray := prog_2_method_9_code
def yX0_busyBegin : MethodName := ⟨RX0, "busyBegin", "(I)I"⟩
abbrev cX0_busyEnd : ByteArray := prog_2_method_10_code
def yX0_busyEnd : MethodName := ⟨RX0, "busyEnd", "(I)I"⟩
abbrev cX0_beginsBusy : ByteArray := prog_2_method_11_code
def yX0_beginsBusy : MethodName := ⟨RX0, "beginsBusy", "(I)Z"⟩
abbrev cX0_isSameAs : ByteArray := prog_2_method_12_code
def yX0_isSameAs : MethodName := ⟨RX0, "isSameAs", "(LSlicehouse$Course;)Z"⟩
abbrev cX0_isAsBusyAs : ByteArray := prog_2_method_13_code
def yX0_isAsBusyAs : MethodName := ⟨RX0, "isAsBusyAs", "(LSlicehouse$Course;)Z"⟩
def RX1 : String := "Slicehouse$Jobs"
def TX1 : u_T := fun k => match k with
  | 0 => ("Slicehouse$Jobs", "comes", "LSlicehouse$Row;", true)
  | 1 => ("Slicehouse$Jobs", "lengths", "LSlicehouse$Row;", true)
  | 2 => ("Slicehouse$Jobs", "deadlines", "LSlicehouse$Row;", true)
  | 3 => ("Slicehouse$Jobs", "weights", "LSlicehouse$Row;", true)
  | 4 => ("Slicehouse$Jobs", "waitsFor", "LSlicehouse$Row;", true)
  | 5 => ("Slicehouse$Jobs", "stretchCounts", "LSlicehouse$Row;", true)
  | 6 => ("Slicehouse$Jobs", "stretchLocks", "LSlicehouse$Row;", true)
  | 7 => ("Slicehouse$Jobs", "stretchFroms", "LSlicehouse$Row;", true)
  | 8 => ("Slicehouse$Jobs", "stretchTos", "LSlicehouse$Row;", true)
  | _ => ("Slicehouse$Jobs", "count", "I", false)
def tyX1 : Nat → FieldType := fun k => match k with
  | 0 => .object "Slicehouse$Row"
  | 1 => .object "Slicehouse$Row"
  | 2 => .object "Slicehouse$Row"
  | 3 => .object "Slicehouse$Row"
  | 4 => .object "Slicehouse$Row"
  | 5 => .object "Slicehouse$Row"
  | 6 => .object "Slicehouse$Row"
  | 7 => .object "Slicehouse$Row"
  | 8 => .object "Slicehouse$Row"
  | _ => .int
abbrev wsX10 : List Cond := u_ws RX1 TX1 10
theorem nmX1 : ∀ a, a < 10 → ∀ b, b < 10 → a ≠ b → (TX1 a).2.1 ≠ (TX1 b).2.1 := by decide +kernel
theorem tyX1_ok : ∀ k, k < 10 → parseFieldDescriptor (TX1 k).2.2.1 = some (tyX1 k) := by decide +kernel
abbrev cX1_init : ByteArray := prog_3_method_1_code
def yX1_init : MethodName := ⟨RX1, "<init>", "()V"⟩
abbrev cX1_tell : ByteArray := prog_3_method_2_code
def yX1_tell : MethodName := ⟨RX1, "tell", "(IIII)I"⟩
abbrev cX1_deadlineKey : ByteArray := prog_3_method_3_code
def yX1_deadlineKey : MethodName := ⟨RX1, "deadlineKey", "(I)I"⟩
abbrev cX1_letWait : ByteArray := prog_3_method_4_code
def yX1_letWait : MethodName := ⟨RX1, "letWait", "(II)I"⟩
abbrev cX1_someWait : ByteArray := prog_3_method_5_code
def yX1_someWait : MethodName := ⟨RX1, "someWait", "()Z"⟩
abbrev cX1_addStretch : ByteArray := prog_3_method_6_code
def yX1_addStretch : MethodName := ⟨RX1, "addStretch", "(IIII)I"⟩
abbrev cX1_overlaps : ByteArray := prog_3_method_7_code
def yX1_overlaps : MethodName := ⟨RX1, "overlaps", "(III)Z"⟩
abbrev cX1_lockAt : ByteArray := prog_3_method_8_code
def yX1_lockAt : MethodName := ⟨RX1, "lockAt", "(IIZ)I"⟩
abbrev cX1_highest : ByteArray := prog_3_method_9_code
def yX1_highest : MethodName := ⟨RX1, "highest", "()I"⟩
abbrev cX1_mostKept : ByteArray := prog_3_method_10_code
def yX1_mostKept : MethodName := ⟨RX1, "mostKept", "(I)I"⟩
abbrev cX1_longestRest : ByteArray := prog_3_method_11_code
def yX1_longestRest : MethodName := ⟨RX1, "longestRest", "(II)I"⟩
abbrev cX1_fullEnd : ByteArray := prog_3_method_12_code
def yX1_fullEnd : MethodName := ⟨RX1, "fullEnd", "(I)I"⟩
abbrev cX1_workBetween : ByteArray := prog_3_method_13_code
def yX1_workBetween : MethodName := ⟨RX1, "workBetween", "(II)I"⟩
def RX2 : String := "Slicehouse$Levels"
def TX2 : u_T := fun k => match k with
  | 0 => ("Slicehouse$Levels", "low", "LSlicehouse$Line;", true)
  | 1 => ("Slicehouse$Levels", "middle", "LSlicehouse$Line;", true)
  | _ => ("Slicehouse$Levels", "high", "LSlicehouse$Line;", true)
def tyX2 : Nat → FieldType := fun k => match k with
  | 0 => .object "Slicehouse$Line"
  | 1 => .object "Slicehouse$Line"
  | _ => .object "Slicehouse$Line"
abbrev wsX20 : List Cond := u_ws RX2 TX2 3
theorem nmX2 : ∀ a, a < 3 → ∀ b, b < 3 → a ≠ b → (TX2 a).2.1 ≠ (TX2 b).2.1 := by decide +kernel
theorem tyX2_ok : ∀ k, k < 3 → parseFieldDescriptor (TX2 k).2.2.1 = some (tyX2 k) := by decide +kernel
abbrev cX2_init : ByteArray := prog_4_method_1_code
def yX2_init : MethodName := ⟨RX2, "<init>", "()V"⟩
abbrev cX2_empty : ByteArray := prog_4_method_2_code
def yX2_empty : MethodName := ⟨RX2, "empty", "()V"⟩
abbrev cX2_lineOf : ByteArray := prog_4_method_3_code
def yX2_lineOf : MethodName := ⟨RX2, "lineOf", "(I)LSlicehouse$Line;"⟩
abbrev cX2_rise : ByteArray := prog_4_method_4_code
def yX2_rise : MethodName := ⟨RX2, "rise", "()V"⟩
abbrev cX2_lowest : ByteArray := prog_4_method_5_code
def yX2_lowest : MethodName := ⟨RX2, "lowest", "()I"⟩
def RX3 : String := "Slicehouse$Line"
def TX3 : u_T := fun k => match k with
  | 0 => ("Slicehouse$Line", "places", "[I", true)
  | _ => ("Slicehouse$Line", "size", "I", false)
def tyX3 : Nat → FieldType := fun k => match k with
  | 0 => .array .int
  | _ => .int
abbrev wsX30 : List Cond := u_ws RX3 TX3 2
theorem nmX3 : ∀ a, a < 2 → ∀ b, b < 2 → a ≠ b → (TX3 a).2.1 ≠ (TX3 b).2.1 := by decide +kernel
theorem tyX3_ok : ∀ k, k < 2 → parseFieldDescriptor (TX3 k).2.2.1 = some (tyX3 k) := by decide +kernel
abbrev cX3_init : ByteArray := prog_5_method_1_code
def yX3_init : MethodName := ⟨RX3, "<init>", "()V"⟩
abbrev cX3_empty : ByteArray := prog_5_method_2_code
def yX3_empty : MethodName := ⟨RX3, "empty", "()V"⟩
abbrev cX3_isEmpty : ByteArray := prog_5_method_3_code
def yX3_isEmpty : MethodName := ⟨RX3, "isEmpty", "()Z"⟩
abbrev cX3_join : ByteArray := prog_5_method_4_code
def yX3_join : MethodName := ⟨RX3, "join", "(I)V"⟩
abbrev cX3_takeFirst : ByteArray := prog_5_method_5_code
def yX3_takeFirst : MethodName := ⟨RX3, "takeFirst", "()I"⟩
abbrev cX3_moveTo : ByteArray := prog_5_method_6_code
def yX3_moveTo : MethodName := ⟨RX3, "moveTo", "(LSlicehouse$Line;)V"⟩
def RX4 : String := "Slicehouse$Locks"
def TX4 : u_T := fun k => match k with
  | 0 => ("Slicehouse$Locks", "jobs", "LSlicehouse$Jobs;", true)
  | 1 => ("Slicehouse$Locks", "progress", "LSlicehouse$Progress;", true)
  | 2 => ("Slicehouse$Locks", "holders", "LSlicehouse$Row;", true)
  | 3 => ("Slicehouse$Locks", "blockers", "LSlicehouse$Row;", true)
  | _ => ("Slicehouse$Locks", "ranks", "LSlicehouse$Row;", true)
def tyX4 : Nat → FieldType := fun k => match k with
  | 0 => .object "Slicehouse$Jobs"
  | 1 => .object "Slicehouse$Progress"
  | 2 => .object "Slicehouse$Row"
  | 3 => .object "Slicehouse$Row"
  | _ => .object "Slicehouse$Row"
abbrev wsX40 : List Cond := u_ws RX4 TX4 5
theorem nmX4 : ∀ a, a < 5 → ∀ b, b < 5 → a ≠ b → (TX4 a).2.1 ≠ (TX4 b).2.1 := by decide +kernel
theorem tyX4_ok : ∀ k, k < 5 → parseFieldDescriptor (TX4 k).2.2.1 = some (tyX4 k) := by decide +kernel
abbrev cX4_init : ByteArray := prog_6_method_1_code
def yX4_init : MethodName := ⟨RX4, "<init>", "(LSlicehouse$Jobs;LSlicehouse$Progress;)V"⟩
abbrev cX4_look : ByteArray := prog_6_method_2_code
def yX4_look : MethodName := ⟨RX4, "look", "(Z)V"⟩
abbrev cX4_isBlocked : ByteArray := prog_6_method_3_code
def yX4_isBlocked : MethodName := ⟨RX4, "isBlocked", "(I)Z"⟩
abbrev cX4_greatest : ByteArray := prog_6_method_4_code
def yX4_greatest : MethodName := ⟨RX4, "greatest", "()I"⟩
def RX5 : String := "Slicehouse$Pair"
def TX5 : u_T := fun k => match k with
  | 0 => ("Slicehouse$Pair", "progress", "LSlicehouse$Progress;", true)
  | _ => ("Slicehouse$Pair", "jobs", "LSlicehouse$Jobs;", true)
def tyX5 : Nat → FieldType := fun k => match k with
  | 0 => .object "Slicehouse$Progress"
  | _ => .object "Slicehouse$Jobs"
abbrev wsX50 : List Cond := u_ws RX5 TX5 2
theorem nmX5 : ∀ a, a < 2 → ∀ b, b < 2 → a ≠ b → (TX5 a).2.1 ≠ (TX5 b).2.1 := by decide +kernel
theorem tyX5_ok : ∀ k, k < 2 → parseFieldDescriptor (TX5 k).2.2.1 = some (tyX5 k) := by decide +kernel
abbrev cX5_init : ByteArray := prog_7_method_1_code
def yX5_init : MethodName := ⟨RX5, "<init>", "(LSlicehouse$Jobs;)V"⟩
abbrev cX5_workBy : ByteArray := prog_7_method_2_code
def yX5_workBy : MethodName := ⟨RX5, "workBy", "(Z)V"⟩
abbrev cX5_least : ByteArray := prog_7_method_3_code
def yX5_least : MethodName := ⟨RX5, "least", "(ZI)I"⟩
def RX6 : String := "Slicehouse$Progress"
def TX6 : u_T := fun k => match k with
  | 0 => ("Slicehouse$Progress", "lefts", "LSlicehouse$Row;", true)
  | 1 => ("Slicehouse$Progress", "ends", "LSlicehouse$Row;", true)
  | 2 => ("Slicehouse$Progress", "readySince", "LSlicehouse$Row;", true)
  | 3 => ("Slicehouse$Progress", "ready", "I", false)
  | 4 => ("Slicehouse$Progress", "jobs", "LSlicehouse$Jobs;", true)
  | 5 => ("Slicehouse$Progress", "ended", "I", false)
  | _ => ("Slicehouse$Progress", "all", "I", false)
def tyX6 : Nat → FieldType := fun k => match k with
  | 0 => .object "Slicehouse$Row"
  | 1 => .object "Slicehouse$Row"
  | 2 => .object "Slicehouse$Row"
  | 3 => .int
  | 4 => .object "Slicehouse$Jobs"
  | 5 => .int
  | _ => .int
abbrev wsX60 : List Cond := u_ws RX6 TX6 7
theorem nmX6 : ∀ a, a < 7 → ∀ b, b < 7 → a ≠ b → (TX6 a).2.1 ≠ (TX6 b).2.1 := by decide +kernel
theorem tyX6_ok : ∀ k, k < 7 → parseFieldDescriptor (TX6 k).2.2.1 = some (tyX6 k) := by decide +kernel
abbrev cX6_init : ByteArray := prog_8_method_1_code
def yX6_init : MethodName := ⟨RX6, "<init>", "(LSlicehouse$Jobs;)V"⟩
abbrev cX6_begin : ByteArray := prog_8_method_2_code
def yX6_begin : MethodName := ⟨RX6, "begin", "()V"⟩
abbrev cX6_admit : ByteArray := prog_8_method_3_code
def yX6_admit : MethodName := ⟨RX6, "admit", "(I)I"⟩
abbrev cX6_isReady : ByteArray := prog_8_method_4_code
def yX6_isReady : MethodName := ⟨RX6, "isReady", "(I)Z"⟩
abbrev cX6_isOver : ByteArray := prog_8_method_5_code
def yX6_isOver : MethodName := ⟨RX6, "isOver", "()Z"⟩
abbrev cX6_done : ByteArray := prog_8_method_6_code
def yX6_done : MethodName := ⟨RX6, "done", "(I)I"⟩
abbrev cX6_spendOn : ByteArray := prog_8_method_7_code
def yX6_spendOn : MethodName := ⟨RX6, "spendOn", "(II)V"⟩
abbrev cX6_endsTogether : ByteArray := prog_8_method_8_code
def yX6_endsTogether : MethodName := ⟨RX6, "endsTogether", "()I"⟩
abbrev cX6_lateness : ByteArray := prog_8_method_9_code
def yX6_lateness : MethodName := ⟨RX6, "lateness", "(I)I"⟩
abbrev cX6_countLate : ByteArray := prog_8_method_10_code
def yX6_countLate : MethodName := ⟨RX6, "countLate", "()I"⟩
def RX7 : String := "Slicehouse$Row"
def TX7 : u_T := fun k => match k with
  | _ => ("Slicehouse$Row", "cells", "[I", true)
def tyX7 : Nat → FieldType := fun k => match k with
  | _ => .array .int
abbrev wsX70 : List Cond := u_ws RX7 TX7 1
theorem nmX7 : ∀ a, a < 1 → ∀ b, b < 1 → a ≠ b → (TX7 a).2.1 ≠ (TX7 b).2.1 := by decide +kernel
theorem tyX7_ok : ∀ k, k < 1 → parseFieldDescriptor (TX7 k).2.2.1 = some (tyX7 k) := by decide +kernel
abbrev cX7_init : ByteArray := prog_9_method_1_code
def yX7_init : MethodName := ⟨RX7, "<init>", "(I)V"⟩
abbrev cX7_at : ByteArray := prog_9_method_2_code
def yX7_at : MethodName := ⟨RX7, "at", "(I)I"⟩
abbrev cX7_put : ByteArray := prog_9_method_3_code
def yX7_put : MethodName := ⟨RX7, "put", "(II)V"⟩
abbrev cX7_add : ByteArray := prog_9_method_4_code
def yX7_add : MethodName := ⟨RX7, "add", "(II)V"⟩
abbrev cX7_fill : ByteArray := prog_9_method_5_code
def yX7_fill : MethodName := ⟨RX7, "fill", "(I)V"⟩
def RX8 : String := "Slicehouse$Tasks"
def TX8 : u_T := fun k => match k with
  | 0 => ("Slicehouse$Tasks", "periods", "LSlicehouse$Row;", true)
  | 1 => ("Slicehouse$Tasks", "lengths", "LSlicehouse$Row;", true)
  | 2 => ("Slicehouse$Tasks", "deadlines", "LSlicehouse$Row;", true)
  | _ => ("Slicehouse$Tasks", "count", "I", false)
def tyX8 : Nat → FieldType := fun k => match k with
  | 0 => .object "Slicehouse$Row"
  | 1 => .object "Slicehouse$Row"
  | 2 => .object "Slicehouse$Row"
  | _ => .int
abbrev wsX80 : List Cond := u_ws RX8 TX8 4
theorem nmX8 : ∀ a, a < 4 → ∀ b, b < 4 → a ≠ b → (TX8 a).2.1 ≠ (TX8 b).2.1 := by decide +kernel
theorem tyX8_ok : ∀ k, k < 4 → parseFieldDescriptor (TX8 k).2.2.1 = some (tyX8 k) := by decide +kernel
abbrev cX8_init : ByteArray := prog_10_method_1_code
def yX8_init : MethodName := ⟨RX8, "<init>", "()V"⟩
abbrev cX8_tell : ByteArray := prog_10_method_2_code
def yX8_tell : MethodName := ⟨RX8, "tell", "(III)I"⟩
abbrev cX8_workAhead : ByteArray := prog_10_method_3_code
def yX8_workAhead : MethodName := ⟨RX8, "workAhead", "(II)I"⟩
abbrev cX8_goesAhead : ByteArray := prog_10_method_4_code
def yX8_goesAhead : MethodName := ⟨RX8, "goesAhead", "(II)Z"⟩
def RX9 : String := "Slicehouse$Ways"
def TX9 : u_T := fun k => match k with
  | 0 => ("Slicehouse$Ways", "slice", "I", false)
  | 1 => ("Slicehouse$Ways", "change", "I", false)
  | 2 => ("Slicehouse$Ways", "rise", "I", false)
  | 3 => ("Slicehouse$Ways", "seed", "I", false)
  | _ => ("Slicehouse$Ways", "lending", "Z", false)
def tyX9 : Nat → FieldType := fun k => match k with
  | 0 => .int
  | 1 => .int
  | 2 => .int
  | 3 => .int
  | _ => .boolean
abbrev wsX90 : List Cond := u_ws RX9 TX9 5
theorem nmX9 : ∀ a, a < 5 → ∀ b, b < 5 → a ≠ b → (TX9 a).2.1 ≠ (TX9 b).2.1 := by decide +kernel
theorem tyX9_ok : ∀ k, k < 5 → parseFieldDescriptor (TX9 k).2.2.1 = some (tyX9 k) := by decide +kernel
abbrev cX9_init : ByteArray := prog_11_method_1_code
def yX9_init : MethodName := ⟨RX9, "<init>", "()V"⟩
def RX10 : String := "Slicehouse$Worker"
def TX10 : u_T := fun k => match k with
  | 0 => ("Slicehouse$Worker", "progress", "LSlicehouse$Progress;", true)
  | 1 => ("Slicehouse$Worker", "course", "LSlicehouse$Course;", true)
  | 2 => ("Slicehouse$Worker", "keptWaiting", "LSlicehouse$Row;", true)
  | 3 => ("Slicehouse$Worker", "jobs", "LSlicehouse$Jobs;", true)
  | 4 => ("Slicehouse$Worker", "ways", "LSlicehouse$Ways;", true)
  | 5 => ("Slicehouse$Worker", "levels", "LSlicehouse$Levels;", true)
  | 6 => ("Slicehouse$Worker", "counts", "LSlicehouse$Row;", true)
  | 7 => ("Slicehouse$Worker", "locks", "LSlicehouse$Locks;", true)
  | 8 => ("Slicehouse$Worker", "rule", "I", false)
  | 9 => ("Slicehouse$Worker", "slice", "I", false)
  | 10 => ("Slicehouse$Worker", "change", "I", false)
  | 11 => ("Slicehouse$Worker", "lending", "Z", false)
  | 12 => ("Slicehouse$Worker", "seed", "I", false)
  | 13 => ("Slicehouse$Worker", "chosen", "I", false)
  | 14 => ("Slicehouse$Worker", "level", "I", false)
  | 15 => ("Slicehouse$Worker", "turnLeft", "I", false)
  | 16 => ("Slicehouse$Worker", "changesLeft", "I", false)
  | _ => ("Slicehouse$Worker", "lastWorked", "I", false)
def tyX10 : Nat → FieldType := fun k => match k with
  | 0 => .object "Slicehouse$Progress"
  | 1 => .object "Slicehouse$Course"
  | 2 => .object "Slicehouse$Row"
  | 3 => .object "Slicehouse$Jobs"
  | 4 => .object "Slicehouse$Ways"
  | 5 => .object "Slicehouse$Levels"
  | 6 => .object "Slicehouse$Row"
  | 7 => .object "Slicehouse$Locks"
  | 8 => .int
  | 9 => .int
  | 10 => .int
  | 11 => .boolean
  | 12 => .int
  | 13 => .int
  | 14 => .int
  | 15 => .int
  | 16 => .int
  | _ => .int
abbrev wsX100 : List Cond := u_ws RX10 TX10 18
theorem nmX10 : ∀ a, a < 18 → ∀ b, b < 18 → a ≠ b → (TX10 a).2.1 ≠ (TX10 b).2.1 := by decide +kernel
theorem tyX10_ok : ∀ k, k < 18 → parseFieldDescriptor (TX10 k).2.2.1 = some (tyX10 k) := by decide +kernel
abbrev cX10_init : ByteArray := prog_12_method_1_code
def yX10_init : MethodName := ⟨RX10, "<init>", "(LSlicehouse$Jobs;LSlicehouse$Ways;)V"⟩
abbrev cX10_follow : ByteArray := prog_12_method_2_code
def yX10_follow : MethodName := ⟨RX10, "follow", "(IIIZ)V"⟩
abbrev cX10_begin : ByteArray := prog_12_method_3_code
def yX10_begin : MethodName := ⟨RX10, "begin", "()V"⟩
abbrev cX10_beginMoment : ByteArray := prog_12_method_4_code
def yX10_beginMoment : MethodName := ⟨RX10, "beginMoment", "(I)V"⟩
abbrev cX10_welcome : ByteArray := prog_12_method_5_code
def yX10_welcome : MethodName := ⟨RX10, "welcome", "(II)V"⟩
abbrev cX10_leastCount : ByteArray := prog_12_method_6_code
def yX10_leastCount : MethodName := ⟨RX10, "leastCount", "(I)I"⟩
abbrev cX10_endSlice : ByteArray := prog_12_method_7_code
def yX10_endSlice : MethodName := ⟨RX10, "endSlice", "()V"⟩
abbrev cX10_usesLevels : ByteArray := prog_12_method_8_code
def yX10_usesLevels : MethodName := ⟨RX10, "usesLevels", "()Z"⟩
abbrev cX10_choose : ByteArray := prog_12_method_9_code
def yX10_choose : MethodName := ⟨RX10, "choose", "()V"⟩
abbrev cX10_turnOf : ByteArray := prog_12_method_10_code
def yX10_turnOf : MethodName := ⟨RX10, "turnOf", "(I)I"⟩
abbrev cX10_drawn : ByteArray := prog_12_method_11_code
def yX10_drawn : MethodName := ⟨RX10, "drawn", "()I"⟩
abbrev cX10_leastByKey : ByteArray := prog_12_method_12_code
def yX10_leastByKey : MethodName := ⟨RX10, "leastByKey", "()I"⟩
abbrev cX10_keyOf : ByteArray := prog_12_method_13_code
def yX10_keyOf : MethodName := ⟨RX10, "keyOf", "(I)I"⟩
abbrev cX10_pass : ByteArray := prog_12_method_14_code
def yX10_pass : MethodName := ⟨RX10, "pass", "(I)V"⟩
abbrev cX10_workAtChosen : ByteArray := prog_12_method_15_code
def yX10_workAtChosen : MethodName := ⟨RX10, "workAtChosen", "(I)V"⟩
abbrev cX10_countKept : ByteArray := prog_12_method_16_code
def yX10_countKept : MethodName := ⟨RX10, "countKept", "()V"⟩
def RX11 : String := "Slicehouse"
def TX11 : u_T := fun k => match k with
  | 0 => ("Slicehouse", "jobs", "LSlicehouse$Jobs;", true)
  | 1 => ("Slicehouse", "tasks", "LSlicehouse$Tasks;", true)
  | 2 => ("Slicehouse", "ways", "LSlicehouse$Ways;", true)
  | 3 => ("Slicehouse", "worker", "LSlicehouse$Worker;", true)
  | 4 => ("Slicehouse", "trial", "LSlicehouse$Worker;", true)
  | 5 => ("Slicehouse", "model", "LSlicehouse$Worker;", true)
  | 6 => ("Slicehouse", "pair", "LSlicehouse$Pair;", true)
  | _ => ("Slicehouse", "hasRun", "Z", false)
def tyX11 : Nat → FieldType := fun k => match k with
  | 0 => .object "Slicehouse$Jobs"
  | 1 => .object "Slicehouse$Tasks"
  | 2 => .object "Slicehouse$Ways"
  | 3 => .object "Slicehouse$Worker"
  | 4 => .object "Slicehouse$Worker"
  | 5 => .object "Slicehouse$Worker"
  | 6 => .object "Slicehouse$Pair"
  | _ => .boolean
abbrev wsX110 : List Cond := u_ws RX11 TX11 8
theorem nmX11 : ∀ a, a < 8 → ∀ b, b < 8 → a ≠ b → (TX11 a).2.1 ≠ (TX11 b).2.1 := by decide +kernel
theorem tyX11_ok : ∀ k, k < 8 → parseFieldDescriptor (TX11 k).2.2.1 = some (tyX11 k) := by decide +kernel
abbrev cX11_init : ByteArray := prog_1_method_1_code
def yX11_init : MethodName := ⟨RX11, "<init>", "()V"⟩
abbrev cX11_job : ByteArray := prog_1_method_2_code
def yX11_job : MethodName := ⟨RX11, "job", "(IIII)I"⟩
abbrev cX11_after : ByteArray := prog_1_method_3_code
def yX11_after : MethodName := ⟨RX11, "after", "(II)I"⟩
abbrev cX11_lock : ByteArray := prog_1_method_4_code
def yX11_lock : MethodName := ⟨RX11, "lock", "(IIII)I"⟩
abbrev cX11_turns : ByteArray := prog_1_method_5_code
def yX11_turns : MethodName := ⟨RX11, "turns", "(IIIIZ)I"⟩
abbrev cX11_clear : ByteArray := prog_1_method_6_code
def yX11_clear : MethodName := ⟨RX11, "clear", "()I"⟩
abbrev cX11_run : ByteArray := prog_1_method_7_code
def yX11_run : MethodName := ⟨RX11, "run", "(I)I"⟩
abbrev cX11_running : ByteArray := prog_1_method_8_code
def yX11_running : MethodName := ⟨RX11, "running", "(I)I"⟩
abbrev cX11_left : ByteArray := prog_1_method_9_code
def yX11_left : MethodName := ⟨RX11, "left", "(II)I"⟩
abbrev cX11_work : ByteArray := prog_1_method_10_code
def yX11_work : MethodName := ⟨RX11, "work", "(I)I"⟩
abbrev cX11_end : ByteArray := prog_1_method_11_code
def yX11_end : MethodName := ⟨RX11, "end", "(I)I"⟩
abbrev cX11_sumOfEnds : ByteArray := prog_1_method_12_code
def yX11_sumOfEnds : MethodName := ⟨RX11, "sumOfEnds", "()I"⟩
abbrev cX11_waits : ByteArray := prog_1_method_13_code
def yX11_waits : MethodName := ⟨RX11, "waits", "(I)I"⟩
abbrev cX11_blocked : ByteArray := prog_1_method_14_code
def yX11_blocked : MethodName := ⟨RX11, "blocked", "(I)I"⟩
abbrev cX11_late : ByteArray := prog_1_method_15_code
def yX11_late : MethodName := ⟨RX11, "late", "(I)I"⟩
abbrev cX11_slowest : ByteArray := prog_1_method_16_code
def yX11_slowest : MethodName := ⟨RX11, "slowest", "(Z)I"⟩
abbrev cX11_busy : ByteArray := prog_1_method_17_code
def yX11_busy : MethodName := ⟨RX11, "busy", "(IZ)I"⟩
abbrev cX11_checksum : ByteArray := prog_1_method_18_code
def yX11_checksum : MethodName := ⟨RX11, "checksum", "()I"⟩
abbrev cX11_which : ByteArray := prog_1_method_19_code
def yX11_which : MethodName := ⟨RX11, "which", "()I"⟩
abbrev cX11_best : ByteArray := prog_1_method_20_code
def yX11_best : MethodName := ⟨RX11, "best", "()I"⟩
abbrev cX11_two : ByteArray := prog_1_method_21_code
def yX11_two : MethodName := ⟨RX11, "two", "(ZZ)I"⟩
abbrev cX11_isFeasible : ByteArray := prog_1_method_22_code
def yX11_isFeasible : MethodName := ⟨RX11, "isFeasible", "()Z"⟩
abbrev cX11_full : ByteArray := prog_1_method_23_code
def yX11_full : MethodName := ⟨RX11, "full", "(I)I"⟩
abbrev cX11_task : ByteArray := prog_1_method_24_code
def yX11_task : MethodName := ⟨RX11, "task", "(III)I"⟩
abbrev cX11_load : ByteArray := prog_1_method_25_code
def yX11_load : MethodName := ⟨RX11, "load", "(Z)J"⟩
abbrev cX11_response : ByteArray := prog_1_method_26_code
def yX11_response : MethodName := ⟨RX11, "response", "(I)I"⟩
abbrev cX11_meanEnd : ByteArray := prog_1_method_27_code
def yX11_meanEnd : MethodName := ⟨RX11, "meanEnd", "()D"⟩
abbrev cX11_workShare : ByteArray := prog_1_method_28_code
def yX11_workShare : MethodName := ⟨RX11, "workShare", "()F"⟩
abbrev cX11_errors : ByteArray := prog_1_method_29_code
def yX11_errors : MethodName := ⟨RX11, "errors", "()I"⟩
abbrev cX11_haveRulesSameBusyTime : ByteArray := prog_1_method_30_code
def yX11_haveRulesSameBusyTime : MethodName := ⟨RX11, "haveRulesSameBusyTime", "()Z"⟩
abbrev cX11_hasLeastLeftLeastEnds : ByteArray := prog_1_method_31_code
def yX11_hasLeastLeftLeastEnds : MethodName := ⟨RX11, "hasLeastLeftLeastEnds", "()Z"⟩
abbrev cX11_keepsDeadlines : ByteArray := prog_1_method_32_code
def yX11_keepsDeadlines : MethodName := ⟨RX11, "keepsDeadlines", "(I)Z"⟩
abbrev cX11_doesSomeRuleKeepDeadlines : ByteArray := prog_1_method_33_code
def yX11_doesSomeRuleKeepDeadlines : MethodName := ⟨RX11, "doesSomeRuleKeepDeadlines", "()Z"⟩
abbrev cX11_isRingFair : ByteArray := prog_1_method_34_code
def yX11_isRingFair : MethodName := ⟨RX11, "isRingFair", "()Z"⟩
abbrev cX11_isHighestFreeInTime : ByteArray := prog_1_method_35_code
def yX11_isHighestFreeInTime : MethodName := ⟨RX11, "isHighestFreeInTime", "()Z"⟩
abbrev cX11_needJob : ByteArray := prog_1_method_36_code
def yX11_needJob : MethodName := ⟨RX11, "needJob", "(I)V"⟩
abbrev cX11_needMoment : ByteArray := prog_1_method_37_code
def yX11_needMoment : MethodName := ⟨RX11, "needMoment", "(I)V"⟩
abbrev cX11_needRun : ByteArray := prog_1_method_38_code
def yX11_needRun : MethodName := ⟨RX11, "needRun", "()V"⟩
abbrev cX11_isOutside : ByteArray := prog_1_method_39_code
def yX11_isOutside : MethodName := ⟨RX11, "isOutside", "(III)Z"⟩
abbrev cX11_reduced : ByteArray := prog_1_method_40_code
def yX11_reduced : MethodName := ⟨RX11, "reduced", "(JJ)J"⟩
def RX12 : String := "SlicehouseModel"
def TX12 : u_T := fun k => match k with
  | 0 => ("SlicehouseModel", "comes", "[I", true)
  | 1 => ("SlicehouseModel", "length", "[I", true)
  | 2 => ("SlicehouseModel", "deadline", "[I", true)
  | 3 => ("SlicehouseModel", "weight", "[I", true)
  | 4 => ("SlicehouseModel", "waitsFor", "[I", true)
  | 5 => ("SlicehouseModel", "lockMany", "[I", true)
  | 6 => ("SlicehouseModel", "lockOf", "[I", true)
  | 7 => ("SlicehouseModel", "lockFrom", "[I", true)
  | 8 => ("SlicehouseModel", "lockTo", "[I", true)
  | 9 => ("SlicehouseModel", "jobs", "I", false)
  | 10 => ("SlicehouseModel", "slice", "I", false)
  | 11 => ("SlicehouseModel", "change", "I", false)
  | 12 => ("SlicehouseModel", "rise", "I", false)
  | 13 => ("SlicehouseModel", "seed", "I", false)
  | 14 => ("SlicehouseModel", "thrown", "I", false)
  | 15 => ("SlicehouseModel", "isLending", "Z", false)
  | 16 => ("SlicehouseModel", "period", "[I", true)
  | 17 => ("SlicehouseModel", "taskLength", "[I", true)
  | 18 => ("SlicehouseModel", "taskDeadline", "[I", true)
  | 19 => ("SlicehouseModel", "tasks", "I", false)
  | 20 => ("SlicehouseModel", "log", "[I", true)
  | 21 => ("SlicehouseModel", "endOf", "[I", true)
  | 22 => ("SlicehouseModel", "readyOf", "[I", true)
  | 23 => ("SlicehouseModel", "blockedOf", "[I", true)
  | 24 => ("SlicehouseModel", "moments", "I", false)
  | 25 => ("SlicehouseModel", "latestRule", "I", false)
  | 26 => ("SlicehouseModel", "work", "[I", true)
  | 27 => ("SlicehouseModel", "left", "[I", true)
  | 28 => ("SlicehouseModel", "end", "[I", true)
  | 29 => ("SlicehouseModel", "ready", "[I", true)
  | 30 => ("SlicehouseModel", "kept", "[I", true)
  | 31 => ("SlicehouseModel", "count", "[I", true)
  | 32 => ("SlicehouseModel", "isReady", "[Z", true)
  | 33 => ("SlicehouseModel", "workMoments", "I", false)
  | 34 => ("SlicehouseModel", "ended", "I", false)
  | 35 => ("SlicehouseModel", "drawn", "I", false)
  | 36 => ("SlicehouseModel", "row", "[I", true)
  | 37 => ("SlicehouseModel", "rowMany", "[I", true)
  | 38 => ("SlicehouseModel", "levelOf", "[I", true)
  | 39 => ("SlicehouseModel", "fullFrom", "I", false)
  | 40 => ("SlicehouseModel", "fullTo", "I", false)
  | 41 => ("SlicehouseModel", "isBusy", "[Z", true)
  | _ => ("SlicehouseModel", "busyMoments", "I", false)
def tyX12 : Nat → FieldType := fun k => match k with
  | 0 => .array .int
  | 1 => .array .int
  | 2 => .array .int
  | 3 => .array .int
  | 4 => .array .int
  | 5 => .array .int
  | 6 => .array .int
  | 7 => .array .int
  | 8 => .array .int
  | 9 => .int
  | 10 => .int
  | 11 => .int
  | 12 => .int
  | 13 => .int
  | 14 => .int
  | 15 => .boolean
  | 16 => .array .int
  | 17 => .array .int
  | 18 => .array .int
  | 19 => .int
  | 20 => .array .int
  | 21 => .array .int
  | 22 => .array .int
  | 23 => .array .int
  | 24 => .int
  | 25 => .int
  | 26 => .array .int
  | 27 => .array .int
  | 28 => .array .int
  | 29 => .array .int
  | 30 => .array .int
  | 31 => .array .int
  | 32 => .array .boolean
  | 33 => .int
  | 34 => .int
  | 35 => .int
  | 36 => .array .int
  | 37 => .array .int
  | 38 => .array .int
  | 39 => .int
  | 40 => .int
  | 41 => .array .boolean
  | _ => .int
abbrev wsX120 : List Cond := u_ws RX12 TX12 43
theorem nmX12 : ∀ a, a < 43 → ∀ b, b < 43 → a ≠ b → (TX12 a).2.1 ≠ (TX12 b).2.1 := by decide +kernel
theorem tyX12_ok : ∀ k, k < 43 → parseFieldDescriptor (TX12 k).2.2.1 = some (tyX12 k) := by decide +kernel
abbrev cX12_init : ByteArray := prog_14_method_1_code
def yX12_init : MethodName := ⟨RX12, "<init>", "()V"⟩
abbrev cX12_thrown : ByteArray := prog_14_method_2_code
def yX12_thrown : MethodName := ⟨RX12, "thrown", "()I"⟩
abbrev cX12_in : ByteArray := prog_14_method_3_code
def yX12_in : MethodName := ⟨RX12, "in", "(III)Z"⟩
abbrev cX12_isJob : ByteArray := prog_14_method_4_code
def yX12_isJob : MethodName := ⟨RX12, "isJob", "(I)Z"⟩
abbrev cX12_refuse : ByteArray := prog_14_method_5_code
def yX12_refuse : MethodName := ⟨RX12, "refuse", "(I)I"⟩
abbrev cX12_told : ByteArray := prog_14_method_6_code
def yX12_told : MethodName := ⟨RX12, "told", "(I)I"⟩
abbrev cX12_denies : ByteArray := prog_14_method_7_code
def yX12_denies : MethodName := ⟨RX12, "denies", "(I)Z"⟩
abbrev cX12_changed : ByteArray := prog_14_method_8_code
def yX12_changed : MethodName := ⟨RX12, "changed", "(I)I"⟩
abbrev cX12_job : ByteArray := prog_14_method_9_code
def yX12_job : MethodName := ⟨RX12, "job", "(IIII)I"⟩
abbrev cX12_bits : ByteArray := prog_14_method_10_code
def yX12_bits : MethodName := ⟨RX12, "bits", "(I)I"⟩
abbrev cX12_after : ByteArray := prog_14_method_11_code
def yX12_after : MethodName := ⟨RX12, "after", "(II)I"⟩
abbrev cX12_lock : ByteArray := prog_14_method_12_code
def yX12_lock : MethodName := ⟨RX12, "lock", "(IIII)I"⟩
abbrev cX12_turns : ByteArray := prog_14_method_13_code
def yX12_turns : MethodName := ⟨RX12, "turns", "(IIIIZ)I"⟩
abbrev cX12_clear : ByteArray := prog_14_method_14_code
def yX12_clear : MethodName := ⟨RX12, "clear", "()I"⟩
abbrev cX12_joins : ByteArray := prog_14_method_15_code
def yX12_joins : MethodName := ⟨RX12, "joins", "(II)V"⟩
abbrev cX12_takes : ByteArray := prog_14_method_16_code
def yX12_takes : MethodName := ⟨RX12, "takes", "(I)I"⟩
abbrev cX12_rises : ByteArray := prog_14_method_17_code
def yX12_rises : MethodName := ⟨RX12, "rises", "()V"⟩
abbrev cX12_canBegin : ByteArray := prog_14_method_18_code
def yX12_canBegin : MethodName := ⟨RX12, "canBegin", "(II)Z"⟩
abbrev cX12_leastCount : ByteArray := prog_14_method_19_code
def yX12_leastCount : MethodName := ⟨RX12, "leastCount", "(I)I"⟩
abbrev cX12_becomesReady : ByteArray := prog_14_method_20_code
def yX12_becomesReady : MethodName := ⟨RX12, "becomesReady", "(II)V"⟩
abbrev cX12_isThere : ByteArray := prog_14_method_21_code
def yX12_isThere : MethodName := ⟨RX12, "isThere", "(I)Z"⟩
abbrev cX12_needs : ByteArray := prog_14_method_22_code
def yX12_needs : MethodName := ⟨RX12, "needs", "(I)I"⟩
abbrev cX12_has : ByteArray := prog_14_method_23_code
def yX12_has : MethodName := ⟨RX12, "has", "(II)Z"⟩
abbrev cX12_keeper : ByteArray := prog_14_method_24_code
def yX12_keeper : MethodName := ⟨RX12, "keeper", "(I)I"⟩
abbrev cX12_rankOf : ByteArray := prog_14_method_25_code
def yX12_rankOf : MethodName := ⟨RX12, "rankOf", "(IZ)I"⟩
abbrev cX12_draws : ByteArray := prog_14_method_26_code
def yX12_draws : MethodName := ⟨RX12, "draws", "(I)I"⟩
abbrev cX12_drawnJob : ByteArray := prog_14_method_27_code
def yX12_drawnJob : MethodName := ⟨RX12, "drawnJob", "()I"⟩
abbrev cX12_keyOf : ByteArray := prog_14_method_28_code
def yX12_keyOf : MethodName := ⟨RX12, "keyOf", "(IIZ)I"⟩
abbrev cX12_chooses : ByteArray := prog_14_method_29_code
def yX12_chooses : MethodName := ⟨RX12, "chooses", "(IZ)I"⟩
abbrev cX12_turnOf : ByteArray := prog_14_method_30_code
def yX12_turnOf : MethodName := ⟨RX12, "turnOf", "(III)I"⟩
abbrev cX12_begins : ByteArray := prog_14_method_31_code
def yX12_begins : MethodName := ⟨RX12, "begins", "()V"⟩
abbrev cX12_keepsWaiting : ByteArray := prog_14_method_32_code
def yX12_keepsWaiting : MethodName := ⟨RX12, "keepsWaiting", "(I)V"⟩
abbrev cX12_runs : ByteArray := prog_14_method_33_code
def yX12_runs : MethodName := ⟨RX12, "runs", "(IIIZ)V"⟩
abbrev cX12_sumOfWork : ByteArray := prog_14_method_34_code
def yX12_sumOfWork : MethodName := ⟨RX12, "sumOfWork", "()I"⟩
abbrev cX12_run : ByteArray := prog_14_method_35_code
def yX12_run : MethodName := ⟨RX12, "run", "(I)I"⟩
abbrev cX12_isRun : ByteArray := prog_14_method_36_code
def yX12_isRun : MethodName := ⟨RX12, "isRun", "()Z"⟩
abbrev cX12_atMoment : ByteArray := prog_14_method_37_code
def yX12_atMoment : MethodName := ⟨RX12, "atMoment", "(I)I"⟩
abbrev cX12_running : ByteArray := prog_14_method_38_code
def yX12_running : MethodName := ⟨RX12, "running", "(I)I"⟩
abbrev cX12_leftOf : ByteArray := prog_14_method_39_code
def yX12_leftOf : MethodName := ⟨RX12, "leftOf", "(II)I"⟩
abbrev cX12_left : ByteArray := prog_14_method_40_code
def yX12_left : MethodName := ⟨RX12, "left", "(II)I"⟩
abbrev cX12_work : ByteArray := prog_14_method_41_code
def yX12_work : MethodName := ⟨RX12, "work", "(I)I"⟩
abbrev cX12_end : ByteArray := prog_14_method_42_code
def yX12_end : MethodName := ⟨RX12, "end", "(I)I"⟩
abbrev cX12_sumOf : ByteArray := prog_14_method_43_code
def yX12_sumOf : MethodName := ⟨RX12, "sumOf", "()I"⟩
abbrev cX12_sumOfEnds : ByteArray := prog_14_method_44_code
def yX12_sumOfEnds : MethodName := ⟨RX12, "sumOfEnds", "()I"⟩
abbrev cX12_longest : ByteArray := prog_14_method_45_code
def yX12_longest : MethodName := ⟨RX12, "longest", "([IIII)I"⟩
abbrev cX12_waits : ByteArray := prog_14_method_46_code
def yX12_waits : MethodName := ⟨RX12, "waits", "(I)I"⟩
abbrev cX12_blocked : ByteArray := prog_14_method_47_code
def yX12_blocked : MethodName := ⟨RX12, "blocked", "(I)I"⟩
abbrev cX12_late : ByteArray := prog_14_method_48_code
def yX12_late : MethodName := ⟨RX12, "late", "(I)I"⟩
abbrev cX12_common : ByteArray := prog_14_method_49_code
def yX12_common : MethodName := ⟨RX12, "common", "(JJ)J"⟩
abbrev cX12_slowest : ByteArray := prog_14_method_50_code
def yX12_slowest : MethodName := ⟨RX12, "slowest", "(Z)I"⟩
abbrev cX12_busy : ByteArray := prog_14_method_51_code
def yX12_busy : MethodName := ⟨RX12, "busy", "(IZ)I"⟩
abbrev cX12_checksum : ByteArray := prog_14_method_52_code
def yX12_checksum : MethodName := ⟨RX12, "checksum", "()I"⟩
abbrev cX12_isLikeLatest : ByteArray := prog_14_method_53_code
def yX12_isLikeLatest : MethodName := ⟨RX12, "isLikeLatest", "()Z"⟩
abbrev cX12_which : ByteArray := prog_14_method_54_code
def yX12_which : MethodName := ⟨RX12, "which", "()I"⟩
abbrev cX12_best : ByteArray := prog_14_method_55_code
def yX12_best : MethodName := ⟨RX12, "best", "()I"⟩
abbrev cX12_two : ByteArray := prog_14_method_56_code
def yX12_two : MethodName := ⟨RX12, "two", "(ZZ)I"⟩
abbrev cX12_works : ByteArray := prog_14_method_57_code
def yX12_works : MethodName := ⟨RX12, "works", "(II)V"⟩
abbrev cX12_isAnyWaiting : ByteArray := prog_14_method_58_code
def yX12_isAnyWaiting : MethodName := ⟨RX12, "isAnyWaiting", "()Z"⟩
abbrev cX12_areKept : ByteArray := prog_14_method_59_code
def yX12_areKept : MethodName := ⟨RX12, "areKept", "()Z"⟩
abbrev cX12_isFeasible : ByteArray := prog_14_method_60_code
def yX12_isFeasible : MethodName := ⟨RX12, "isFeasible", "()Z"⟩
abbrev cX12_workWithin : ByteArray := prog_14_method_61_code
def yX12_workWithin : MethodName := ⟨RX12, "workWithin", "(II)I"⟩
abbrev cX12_isAnyFull : ByteArray := prog_14_method_62_code
def yX12_isAnyFull : MethodName := ⟨RX12, "isAnyFull", "()Z"⟩
abbrev cX12_full : ByteArray := prog_14_method_63_code
def yX12_full : MethodName := ⟨RX12, "full", "(I)I"⟩
abbrev cX12_task : ByteArray := prog_14_method_64_code
def yX12_task : MethodName := ⟨RX12, "task", "(III)I"⟩
abbrev cX12_load : ByteArray := prog_14_method_65_code
def yX12_load : MethodName := ⟨RX12, "load", "(Z)J"⟩
abbrev cX12_response : ByteArray := prog_14_method_66_code
def yX12_response : MethodName := ⟨RX12, "response", "(I)I"⟩
abbrev cX12_meanEnd : ByteArray := prog_14_method_67_code
def yX12_meanEnd : MethodName := ⟨RX12, "meanEnd", "()D"⟩
abbrev cX12_workShare : ByteArray := prog_14_method_68_code
def yX12_workShare : MethodName := ⟨RX12, "workShare", "()F"⟩
abbrev cX12_isLikeBusy : ByteArray := prog_14_method_69_code
def yX12_isLikeBusy : MethodName := ⟨RX12, "isLikeBusy", "()Z"⟩
abbrev cX12_longestFor : ByteArray := prog_14_method_70_code
def yX12_longestFor : MethodName := ⟨RX12, "longestFor", "(II)I"⟩
abbrev cX12_lentErrors : ByteArray := prog_14_method_71_code
def yX12_lentErrors : MethodName := ⟨RX12, "lentErrors", "()I"⟩
abbrev cX12_errors : ByteArray := prog_14_method_72_code
def yX12_errors : MethodName := ⟨RX12, "errors", "()I"⟩
def RJx145de : String := "java/io/Serializable"
def TJx145de : u_T := fun k => match k with
  | _ => ("", "", "", false)
def tyJx145de : Nat → FieldType := fun k => match k with
  | _ => .int
theorem nmJx145de : ∀ a, a < 0 → ∀ b, b < 0 → a ≠ b → (TJx145de a).2.1 ≠ (TJx145de b).2.1 := by decide +kernel
theorem tyJx145de_ok : ∀ k, k < 0 → parseFieldDescriptor (TJx145de k).2.2.1 = some (tyJx145de k) := by decide +kernel
def RJ6 : String := "java/lang/Integer"
def TJ6 : u_T := fun k => match k with
  | _ => ("", "", "", false)
def tyJ6 : Nat → FieldType := fun k => match k with
  | _ => .int
abbrev wsJ60 : List Cond := u_ws RJ6 TJ6 0
theorem nmJ6 : ∀ a, a < 0 → ∀ b, b < 0 → a ≠ b → (TJ6 a).2.1 ≠ (TJ6 b).2.1 := by decide +kernel
theorem tyJ6_ok : ∀ k, k < 0 → parseFieldDescriptor (TJ6 k).2.2.1 = some (tyJ6 k) := by decide +kernel
abbrev cJ6_bitCount_0f7a4 : ByteArray := prog_20_method_49_code
def yJ6_bitCount_0f7a4 : MethodName := ⟨RJ6, "bitCount", "(I)I"⟩
def RJ9 : String := "java/lang/Math"
def TJ9 : u_T := fun k => match k with
  | _ => ("", "", "", false)
def tyJ9 : Nat → FieldType := fun k => match k with
  | _ => .int
abbrev wsJ90 : List Cond := u_ws RJ9 TJ9 0
theorem nmJ9 : ∀ a, a < 0 → ∀ b, b < 0 → a ≠ b → (TJ9 a).2.1 ≠ (TJ9 b).2.1 := by decide +kernel
theorem tyJ9_ok : ∀ k, k < 0 → parseFieldDescriptor (TJ9 k).2.2.1 = some (tyJ9 k) := by decide +kernel
abbrev cJ9_max_7cf53 : ByteArray := prog_21_method_65_code
def yJ9_max_7cf53 : MethodName := ⟨RJ9, "max", "(II)I"⟩
abbrev cJ9_min_7cf53 : ByteArray := prog_21_method_69_code
def yJ9_min_7cf53 : MethodName := ⟨RJ9, "min", "(II)I"⟩
def RL : String := "SlicehouseLaw"
abbrev cL_job : ByteArray := method_3_code
def yL_job : MethodName := ⟨RL, "job", "(LSlicehouse;IIII[J)I"⟩
abbrev cL_after : ByteArray := method_4_code
def yL_after : MethodName := ⟨RL, "after", "(LSlicehouse;II[J)I"⟩
abbrev cL_lock : ByteArray := method_5_code
def yL_lock : MethodName := ⟨RL, "lock", "(LSlicehouse;IIII[J)I"⟩
abbrev cL_turns : ByteArray := method_6_code
def yL_turns : MethodName := ⟨RL, "turns", "(LSlicehouse;IIIIZ[J)I"⟩
abbrev cL_run : ByteArray := method_7_code
def yL_run : MethodName := ⟨RL, "run", "(LSlicehouse;I[J)I"⟩
abbrev cL_running : ByteArray := method_8_code
def yL_running : MethodName := ⟨RL, "running", "(LSlicehouse;I[J)I"⟩
abbrev cL_left : ByteArray := method_9_code
def yL_left : MethodName := ⟨RL, "left", "(LSlicehouse;II[J)I"⟩
abbrev cL_work : ByteArray := method_10_code
def yL_work : MethodName := ⟨RL, "work", "(LSlicehouse;I[J)I"⟩
abbrev cL_end : ByteArray := method_11_code
def yL_end : MethodName := ⟨RL, "end", "(LSlicehouse;I[J)I"⟩
abbrev cL_sumOfEnds : ByteArray := method_12_code
def yL_sumOfEnds : MethodName := ⟨RL, "sumOfEnds", "(LSlicehouse;[J)I"⟩
abbrev cL_waits : ByteArray := method_13_code
def yL_waits : MethodName := ⟨RL, "waits", "(LSlicehouse;I[J)I"⟩
abbrev cL_blocked : ByteArray := method_14_code
def yL_blocked : MethodName := ⟨RL, "blocked", "(LSlicehouse;I[J)I"⟩
abbrev cL_late : ByteArray := method_15_code
def yL_late : MethodName := ⟨RL, "late", "(LSlicehouse;I[J)I"⟩
abbrev cL_slowest : ByteArray := method_16_code
def yL_slowest : MethodName := ⟨RL, "slowest", "(LSlicehouse;Z[J)I"⟩
abbrev cL_busy : ByteArray := method_17_code
def yL_busy : MethodName := ⟨RL, "busy", "(LSlicehouse;IZ[J)I"⟩
abbrev cL_checksum : ByteArray := method_18_code
def yL_checksum : MethodName := ⟨RL, "checksum", "(LSlicehouse;[J)I"⟩
abbrev cL_which : ByteArray := method_19_code
def yL_which : MethodName := ⟨RL, "which", "(LSlicehouse;[J)I"⟩
abbrev cL_isFeasible : ByteArray := method_20_code
def yL_isFeasible : MethodName := ⟨RL, "isFeasible", "(LSlicehouse;[J)I"⟩
abbrev cL_full : ByteArray := method_21_code
def yL_full : MethodName := ⟨RL, "full", "(LSlicehouse;I[J)I"⟩
abbrev cL_task : ByteArray := method_22_code
def yL_task : MethodName := ⟨RL, "task", "(LSlicehouse;III[J)I"⟩
abbrev cL_response : ByteArray := method_23_code
def yL_response : MethodName := ⟨RL, "response", "(LSlicehouse;I[J)I"⟩
abbrev cL_meanEnd : ByteArray := method_24_code
def yL_meanEnd : MethodName := ⟨RL, "meanEnd", "(LSlicehouse;[D)I"⟩
abbrev cL_workShare : ByteArray := method_25_code
def yL_workShare : MethodName := ⟨RL, "workShare", "(LSlicehouse;[D)I"⟩
abbrev cL_law : ByteArray := code
def yL_law : MethodName := ⟨RL, "law", "([I)Z"⟩
def wsJ6_bitCount_0f7a4 : List Cond := .code yJ6_bitCount_0f7a4 cJ6_bitCount_0f7a4 1 (some .int) :: ([.constant RJ6 265 (1431655765), .constant RJ6 266 (858993459), .constant RJ6 267 (252645135)])
def wsJ9_max_7cf53 : List Cond := .code yJ9_max_7cf53 cJ9_max_7cf53 2 (some .int) :: ([])
def wsJ9_min_7cf53 : List Cond := .code yJ9_min_7cf53 cJ9_min_7cf53 2 (some .int) :: ([])
theorem inJ6 : ∀ w ∈ wsJ60, w ∈ lw_tbl := by decide +kernel
theorem inJ9 : ∀ w ∈ wsJ90, w ∈ lw_tbl := by decide +kernel
theorem dJ6_bitCount_0f7a4_0 : decode cJ6_bitCount_0f7a4 0 = .ok (.iload_n 0, 1) := by decide +kernel
theorem dJ6_bitCount_0f7a4_1 : decode cJ6_bitCount_0f7a4 1 = .ok (.iload_n 0, 1) := by decide +kernel
theorem dJ6_bitCount_0f7a4_2 : decode cJ6_bitCount_0f7a4 2 = .ok (.iconst 1, 1) := by decide +kernel
theorem dJ6_bitCount_0f7a4_3 : decode cJ6_bitCount_0f7a4 3 = .ok (.iushr, 1) := by decide +kernel
theorem dJ6_bitCount_0f7a4_4 : decode cJ6_bitCount_0f7a4 4 = .ok (.ldc_w 265, 3) := by decide +kernel
theorem dJ6_bitCount_0f7a4_7 : decode cJ6_bitCount_0f7a4 7 = .ok (.iand, 1) := by decide +kernel
theorem dJ6_bitCount_0f7a4_8 : decode cJ6_bitCount_0f7a4 8 = .ok (.isub, 1) := by decide +kernel
theorem dJ6_bitCount_0f7a4_9 : decode cJ6_bitCount_0f7a4 9 = .ok (.istore_n 0, 1) := by decide +kernel
theorem dJ6_bitCount_0f7a4_10 : decode cJ6_bitCount_0f7a4 10 = .ok (.iload_n 0, 1) := by decide +kernel
theorem dJ6_bitCount_0f7a4_11 : decode cJ6_bitCount_0f7a4 11 = .ok (.ldc_w 266, 3) := by decide +kernel
theorem dJ6_bitCount_0f7a4_14 : decode cJ6_bitCount_0f7a4 14 = .ok (.iand, 1) := by decide +kernel
theorem dJ6_bitCount_0f7a4_15 : decode cJ6_bitCount_0f7a4 15 = .ok (.iload_n 0, 1) := by decide +kernel
theorem dJ6_bitCount_0f7a4_16 : decode cJ6_bitCount_0f7a4 16 = .ok (.iconst 2, 1) := by decide +kernel
theorem dJ6_bitCount_0f7a4_17 : decode cJ6_bitCount_0f7a4 17 = .ok (.iushr, 1) := by decide +kernel
theorem dJ6_bitCount_0f7a4_18 : decode cJ6_bitCount_0f7a4 18 = .ok (.ldc_w 266, 3) := by decide +kernel
theorem dJ6_bitCount_0f7a4_21 : decode cJ6_bitCount_0f7a4 21 = .ok (.iand, 1) := by decide +kernel
theorem dJ6_bitCount_0f7a4_22 : decode cJ6_bitCount_0f7a4 22 = .ok (.iadd, 1) := by decide +kernel
theorem dJ6_bitCount_0f7a4_23 : decode cJ6_bitCount_0f7a4 23 = .ok (.istore_n 0, 1) := by decide +kernel
theorem dJ6_bitCount_0f7a4_24 : decode cJ6_bitCount_0f7a4 24 = .ok (.iload_n 0, 1) := by decide +kernel
theorem dJ6_bitCount_0f7a4_25 : decode cJ6_bitCount_0f7a4 25 = .ok (.iload_n 0, 1) := by decide +kernel
theorem dJ6_bitCount_0f7a4_26 : decode cJ6_bitCount_0f7a4 26 = .ok (.iconst 4, 1) := by decide +kernel
theorem dJ6_bitCount_0f7a4_27 : decode cJ6_bitCount_0f7a4 27 = .ok (.iushr, 1) := by decide +kernel
theorem dJ6_bitCount_0f7a4_28 : decode cJ6_bitCount_0f7a4 28 = .ok (.iadd, 1) := by decide +kernel
theorem dJ6_bitCount_0f7a4_29 : decode cJ6_bitCount_0f7a4 29 = .ok (.ldc_w 267, 3) := by decide +kernel
theorem dJ6_bitCount_0f7a4_32 : decode cJ6_bitCount_0f7a4 32 = .ok (.iand, 1) := by decide +kernel
theorem dJ6_bitCount_0f7a4_33 : decode cJ6_bitCount_0f7a4 33 = .ok (.istore_n 0, 1) := by decide +kernel
theorem dJ6_bitCount_0f7a4_34 : decode cJ6_bitCount_0f7a4 34 = .ok (.iload_n 0, 1) := by decide +kernel
theorem dJ6_bitCount_0f7a4_35 : decode cJ6_bitCount_0f7a4 35 = .ok (.iload_n 0, 1) := by decide +kernel
theorem dJ6_bitCount_0f7a4_36 : decode cJ6_bitCount_0f7a4 36 = .ok (.bipush 8, 2) := by decide +kernel
theorem dJ6_bitCount_0f7a4_38 : decode cJ6_bitCount_0f7a4 38 = .ok (.iushr, 1) := by decide +kernel
theorem dJ6_bitCount_0f7a4_39 : decode cJ6_bitCount_0f7a4 39 = .ok (.iadd, 1) := by decide +kernel
theorem dJ6_bitCount_0f7a4_40 : decode cJ6_bitCount_0f7a4 40 = .ok (.istore_n 0, 1) := by decide +kernel
theorem dJ6_bitCount_0f7a4_41 : decode cJ6_bitCount_0f7a4 41 = .ok (.iload_n 0, 1) := by decide +kernel
theorem dJ6_bitCount_0f7a4_42 : decode cJ6_bitCount_0f7a4 42 = .ok (.iload_n 0, 1) := by decide +kernel
theorem dJ6_bitCount_0f7a4_43 : decode cJ6_bitCount_0f7a4 43 = .ok (.bipush 16, 2) := by decide +kernel
theorem dJ6_bitCount_0f7a4_45 : decode cJ6_bitCount_0f7a4 45 = .ok (.iushr, 1) := by decide +kernel
theorem dJ6_bitCount_0f7a4_46 : decode cJ6_bitCount_0f7a4 46 = .ok (.iadd, 1) := by decide +kernel
theorem dJ6_bitCount_0f7a4_47 : decode cJ6_bitCount_0f7a4 47 = .ok (.istore_n 0, 1) := by decide +kernel
theorem dJ6_bitCount_0f7a4_48 : decode cJ6_bitCount_0f7a4 48 = .ok (.iload_n 0, 1) := by decide +kernel
theorem dJ6_bitCount_0f7a4_49 : decode cJ6_bitCount_0f7a4 49 = .ok (.bipush 63, 2) := by decide +kernel
theorem dJ6_bitCount_0f7a4_51 : decode cJ6_bitCount_0f7a4 51 = .ok (.iand, 1) := by decide +kernel
theorem dJ6_bitCount_0f7a4_52 : decode cJ6_bitCount_0f7a4 52 = .ok (.ireturn, 1) := by decide +kernel
theorem dJ9_max_7cf53_0 : decode cJ9_max_7cf53 0 = .ok (.iload_n 0, 1) := by decide +kernel
theorem dJ9_max_7cf53_1 : decode cJ9_max_7cf53 1 = .ok (.iload_n 1, 1) := by decide +kernel
theorem dJ9_max_7cf53_2 : decode cJ9_max_7cf53 2 = .ok (.if_icmp .lt 7, 3) := by decide +kernel
theorem dJ9_max_7cf53_5 : decode cJ9_max_7cf53 5 = .ok (.iload_n 0, 1) := by decide +kernel
theorem dJ9_max_7cf53_6 : decode cJ9_max_7cf53 6 = .ok (.goto 4, 3) := by decide +kernel
theorem dJ9_max_7cf53_9 : decode cJ9_max_7cf53 9 = .ok (.iload_n 1, 1) := by decide +kernel
theorem dJ9_max_7cf53_10 : decode cJ9_max_7cf53 10 = .ok (.ireturn, 1) := by decide +kernel
theorem dJ9_min_7cf53_0 : decode cJ9_min_7cf53 0 = .ok (.iload_n 0, 1) := by decide +kernel
theorem dJ9_min_7cf53_1 : decode cJ9_min_7cf53 1 = .ok (.iload_n 1, 1) := by decide +kernel
theorem dJ9_min_7cf53_2 : decode cJ9_min_7cf53 2 = .ok (.if_icmp .gt 7, 3) := by decide +kernel
theorem dJ9_min_7cf53_5 : decode cJ9_min_7cf53 5 = .ok (.iload_n 0, 1) := by decide +kernel
theorem dJ9_min_7cf53_6 : decode cJ9_min_7cf53 6 = .ok (.goto 4, 3) := by decide +kernel
theorem dJ9_min_7cf53_9 : decode cJ9_min_7cf53 9 = .ok (.iload_n 1, 1) := by decide +kernel
theorem dJ9_min_7cf53_10 : decode cJ9_min_7cf53 10 = .ok (.ireturn, 1) := by decide +kernel
abbrev vwCl : List vw_C := [(RX0, TX0, 3), (RX1, TX1, 10), (RX2, TX2, 3), (RX3, TX3, 2), (RX4, TX4, 5), (RX5, TX5, 2), (RX6, TX6, 7), (RX7, TX7, 1), (RX8, TX8, 4), (RX9, TX9, 5), (RX10, TX10, 18), (RX11, TX11, 8), (RX12, TX12, 43)]
end
section
/-! ===== the pure memory and its picture: objects are numbered from B on in the order in which they are made ===== -/
abbrev Mm : Type := Nat → Nat → Int
/-- object k, place j becomes v -/
def mup (μ : Mm) (k j : Nat) (v : Int) : Mm := fun a b => if a = k ∧ b = j then v else μ a b
theorem mup_eq (μ : Mm) (k j : Nat) (v : Int) : mup μ k j v k j = v := if_pos ⟨rfl, rfl⟩
theorem mup_ne {μ : Mm} {k j a b : Nat} {v : Int} (h : ¬ (a = k ∧ b = j)) : mup μ k j v a b = μ a b := if_neg h
theorem mup_nk {μ : Mm} {k j a b : Nat} {v : Int} (h : a ≠ k) : mup μ k j v a b = μ a b := if_neg (fun z => h z.1)
theorem mup_row (μ : Mm) (k j : Nat) (v : Int) (b : Nat) : mup μ k j v k b = if b = j then v else μ k b := by
  unfold mup
  by_cases h : b = j <;> simp [h]
abbrev iI (z : Int) : Value := .int (Int32.ofInt z)
abbrev iL (z : Int) : Value := .long (Int64.ofInt z)
abbrev InR (z : Int) : Prop := -2147483648 ≤ z ∧ z < 2147483648
abbrev InL (z : Int) : Prop := -9223372036854775808 ≤ z ∧ z < 9223372036854775808
/-- an object: its kind's number, its fields (a reference, or an int at that place); an array: what of, how long -/
abbrev Shp : Type := (Nat × List (Option Nat)) ⊕ (Nat × Nat)
def shRow (k n : Nat) : List Shp := [.inl (7, [some (k + 1)]), .inr (0, n)]
def shLine (k : Nat) : List Shp := [.inl (3, [some (k + 1), none]), .inr (0, 12)]
def shLevels (k : Nat) : List Shp := .inl (2, [some (k + 1), some (k + 3), some (k + 5)]) :: (shLine (k + 1) ++ (shLine (k + 3) ++ shLine (k + 5)))
def shProg (g : Nat) : List Shp := .inl (6, [some (g + 1), some (g + 3), some (g + 5), none, some 1, none, none]) :: (shRow (g + 1) 12 ++ (shRow (g + 3) 12 ++ shRow (g + 5) 12))
def shCourse (g : Nat) : List Shp := .inl (0, [none, some (g + 1), some 1]) :: shRow (g + 1) 2304
def shLocks (g p : Nat) : List Shp := .inl (4, [some 1, some p, some (g + 1), some (g + 3), some (g + 5)]) :: (shRow (g + 1) 3 ++ (shRow (g + 3) 12 ++ shRow (g + 5) 12))
def shWorker (w : Nat) : List Shp :=
  .inl (10, [some (w + 12), some (w + 19), some (w + 1), some 1, some 27, some (w + 3), some (w + 10), some (w + 22), none, none, none, none, none, none, none, none, none, none]) ::
  (shRow (w + 1) 12 ++ (shLevels (w + 3) ++ (shRow (w + 10) 12 ++ (shProg (w + 12) ++ (shCourse (w + 19) ++ shLocks (w + 22) (w + 12))))))
def shJobs : List Shp := .inl (1, [some 2, some 4, some 6, some 8, some 10, some 12, some 14, some 16, some 18, none]) ::
  (shRow 2 12 ++ (shRow 4 12 ++ (shRow 6 12 ++ (shRow 8 12 ++ (shRow 10 12 ++ (shRow 12 12 ++ (shRow 14 36 ++ (shRow 16 36 ++ shRow 18 36))))))))
def shTasks : List Shp := .inl (8, [some 21, some 23, some 25, none]) :: (shRow 21 5 ++ (shRow 23 5 ++ shRow 25 5))
def shWays : List Shp := [.inl (9, [none, none, none, none, none])]
def shPair : List Shp := .inl (5, [some 116, some 1]) :: shProg 116
def shHouse : List Shp := .inl (11, [some 1, some 20, some 27, some 28, some 57, some 86, some 115, none]) :: (shJobs ++ (shTasks ++ (shWays ++ (shWorker 28 ++ (shWorker 57 ++ (shWorker 86 ++ shPair))))))
def shModel : List Shp :=
  .inl (12, [some 124, some 125, some 126, some 127, some 128, some 129, some 130, some 131, some 132, none, none, none, none, none, none, none, some 133, some 134, some 135, none, some 136, some 137, some 138, some 139, none, none, some 140, some 141, some 142, some 143, some 144, some 145, some 146, none, none, none, some 147, some 148, some 149, none, none, some 150, none]) ::
  [.inr (0, 12), .inr (0, 12), .inr (0, 12), .inr (0, 12), .inr (0, 12), .inr (0, 12), .inr (0, 36), .inr (0, 36), .inr (0, 36), .inr (0, 5), .inr (0, 5), .inr (0, 5), .inr (0, 3000), .inr (0, 12), .inr (0, 12), .inr (0, 12), .inr (0, 3000), .inr (0, 12), .inr (0, 12), .inr (0, 12), .inr (0, 12), .inr (0, 12), .inr (1, 12), .inr (0, 36), .inr (0, 3), .inr (0, 12), .inr (1, 3000)]
def shOut : List Shp := [.inr (2, 1), .inr (3, 1)]
def shapes : List Shp := shHouse ++ (shModel ++ shOut)
def fvs (B : Nat) (μ : Nat → Int) : Nat → List (Option Nat) → List Value
  | _, [] => []
  | j, some r :: t => .ref (B + r) :: fvs B μ (j + 1) t
  | j, none :: t => iI (μ j) :: fvs B μ (j + 1) t
def cel (B : Nat) (E : Nat → ClassId) (μ : Nat → Int) : Shp → va_E
  | .inl q => .inr (q.1, fvs B μ 0 q.2)
  | .inr (0, n) => .inl (E 0, n, .inl (fun j => Int32.ofInt (μ j)))
  | .inr (1, n) => .inl (E 1, n, .inl (fun j => Int32.ofInt (μ j)))
  | .inr (2, n) => .inl (E 2, n, .inr (.inl (fun j => Int64.ofInt (μ j))))
  | .inr (_ + 3, n) => .inl (E 3, n, .inr (.inr (.inr (.inl (fun j => UInt64.ofNat (μ j).toNat)))))
def wsF (B : Nat) (E : Nat → ClassId) (μ : Mm) : Nat → List Shp → va_W
  | _, [] => []
  | k, s :: t => (B + k, cel B E (μ k) s) :: wsF B E μ (k + 1) t
abbrev wsm (B : Nat) (E : Nat → ClassId) (μ : Mm) : va_W := wsF B E μ 0 shapes
theorem wsF_get (B : Nat) (E : Nat → ClassId) (μ : Mm) : ∀ (l : List Shp) (k i : Nat), (wsF B E μ k l)[i]? = (l[i]?).map (fun s => (B + (k + i), cel B E (μ (k + i)) s)) := by
  intro l
  induction l with
  | nil => intro k i; simp [wsF]
  | cons s t ih =>
    intro k i
    cases i with
    | zero => simp [wsF]
    | succ i =>
      simp only [wsF, List.getElem?_cons_succ, ih]
      rw [show k + 1 + i = k + (i + 1) by omega]
theorem wsm_get {B : Nat} {E : Nat → ClassId} {μ : Mm} {k : Nat} {s : Shp} (h : shapes[k]? = some s) : (wsm B E μ)[k]? = some (B + k, cel B E (μ k) s) := by
  rw [wsF_get, h, Nat.zero_add]; rfl
theorem wsF_len (B : Nat) (E : Nat → ClassId) (μ : Mm) : ∀ (l : List Shp) (k : Nat), (wsF B E μ k l).length = l.length := by
  intro l
  induction l with
  | nil => intro k; rfl
  | cons s t ih => intro k; simp [wsF, ih]
theorem wsm_set {B : Nat} {E : Nat → ClassId} {μ : Mm} {k j : Nat} {v : Int} {s : Shp} {e : va_E} (h : shapes[k]? = some s) (he : e = cel B E (mup μ k j v k) s) : (wsm B E μ).set k (B + k, e) = wsm B E (mup μ k j v) := by
  subst he
  apply List.ext_getElem?
  intro i
  have hlt : k < (wsm B E μ).length := by
    rw [wsF_len]; exact (List.getElem?_eq_some_iff.mp h).1
  by_cases hik : i = k
  · subst hik
    rw [List.getElem?_set_self hlt, wsm_get h]
  · rw [List.getElem?_set_ne (Ne.symm hik), wsF_get, wsF_get]
    cases shapes[i]? with
    | none => rfl
    | some z =>
      have e1 : mup μ k j v (0 + i) = μ (0 + i) := by
        funext b
        exact mup_nk (by omega)
      simp only [Option.map_some, e1]
theorem wsm_apart (B : Nat) (E : Nat → ClassId) (μ : Mm) : va_D (fun q : Nat => B ≤ q) (wsm B E μ) := by
  refine ⟨fun i j p q hp hq hpq => ?_, fun k q hq => ?_⟩
  · rw [wsF_get] at hp hq
    obtain ⟨a, -, rfl⟩ := Option.map_eq_some_iff.mp hp
    obtain ⟨b, -, rfl⟩ := Option.map_eq_some_iff.mp hq
    simp only at hpq
    omega
  · rw [wsF_get] at hq
    obtain ⟨a, -, rfl⟩ := Option.map_eq_some_iff.mp hq
    exact Nat.le_add_right _ _
theorem fvs_set {B : Nat} {μ : Nat → Int} {j : Nat} {v : Int} : ∀ (fs : List (Option Nat)) (a k : Nat), j = a + k → fs[k]? = some none → (fvs B μ a fs).set k (iI v) = fvs B (fun b => if b = j then v else μ b) a fs := by
  have key : ∀ (fs : List (Option Nat)) (a : Nat), j < a → fvs B (fun b => if b = j then v else μ b) a fs = fvs B μ a fs := by
    intro fs
    induction fs with
    | nil => intro a _; rfl
    | cons f t ih =>
      intro a ha
      cases f with
      | none => simp only [fvs]; rw [ih (a + 1) (by omega), if_neg (by omega)]
      | some r => simp only [fvs]; rw [ih (a + 1) (by omega)]
  intro fs
  induction fs with
  | nil => intro a k _ h; simp at h
  | cons f t ih =>
    intro a k hj h
    cases k with
    | zero =>
      simp only [List.getElem?_cons_zero, Option.some.injEq] at h
      subst h
      simp only [fvs, List.set_cons_zero]
      rw [key t (a + 1) (by omega), if_pos (by omega)]
    | succ k =>
      simp only [List.getElem?_cons_succ] at h
      have := ih (a + 1) k (by omega) h
      cases f with
      | none => simp only [fvs, List.set_cons_succ]; rw [this, if_neg (by omega)]
      | some r => simp only [fvs, List.set_cons_succ]; rw [this]
theorem fvs_len (B : Nat) (μ : Nat → Int) : ∀ (fs : List (Option Nat)) (a : Nat), (fvs B μ a fs).length = fs.length := by
  intro fs
  induction fs with
  | nil => intro a; rfl
  | cons f t ih => intro a; cases f <;> simp [fvs, ih]
/-! ===== classes' words ===== -/
/-- the words of the tables that stay true -/
def TS : List Cond := lw_tbl.filter goodWord
theorem ts_all : TS.all goodWord = true := List.all_eq_true.mpr fun _ h => (List.mem_filter.mp h).2
theorem ts_self : GoodIn TS TS := goodIn_sub (fun _ h => h) ts_all
theorem ts_sub : ∀ w ∈ TS, w ∈ lw_tbl := fun _ h => (List.mem_filter.mp h).1
theorem tsm {w : Cond} (i : Nat) (h : lw_tbl[i]? = some w) (g : goodWord w = true) : w ∈ TS := List.mem_filter.mpr ⟨List.mem_of_getElem? h, g⟩
theorem tsl {ws : List Cond} (ps : List Nat) (h : ws = ps.filterMap (fun i => lw_tbl[i]?)) (g : ws.all goodWord = true) : ∀ w ∈ ws, w ∈ TS := by
  intro w hw
  have hg := List.all_eq_true.mp g w hw
  rw [h] at hw
  obtain ⟨i, -, hi⟩ := List.mem_filterMap.mp hw
  exact tsm i hi hg
theorem lyX0 : ∀ w ∈ u_ws RX0 TX0 3, w ∈ TS := tsl [301, 303, 305] (by decide +kernel) (by decide +kernel)
theorem lyX1 : ∀ w ∈ u_ws RX1 TX1 10, w ∈ TS := tsl [141, 143, 145, 147, 149, 151, 153, 155, 157, 159] (by decide +kernel) (by decide +kernel)
theorem lyX2 : ∀ w ∈ u_ws RX2 TX2 3, w ∈ TS := tsl [246, 248, 250] (by decide +kernel) (by decide +kernel)
theorem lyX3 : ∀ w ∈ u_ws RX3 TX3 2, w ∈ TS := tsl [238, 240] (by decide +kernel) (by decide +kernel)
theorem lyX4 : ∀ w ∈ u_ws RX4 TX4 5, w ∈ TS := tsl [321, 323, 325, 327, 329] (by decide +kernel) (by decide +kernel)
theorem lyX5 : ∀ w ∈ u_ws RX5 TX5 2, w ∈ TS := tsl [401, 403] (by decide +kernel) (by decide +kernel)
theorem lyX6 : ∀ w ∈ u_ws RX6 TX6 7, w ∈ TS := tsl [273, 275, 277, 279, 281, 283, 285] (by decide +kernel) (by decide +kernel)
theorem lyX7 : ∀ w ∈ u_ws RX7 TX7 1, w ∈ TS := tsl [110] (by decide +kernel) (by decide +kernel)
theorem lyX8 : ∀ w ∈ u_ws RX8 TX8 4, w ∈ TS := tsl [178, 180, 182, 184] (by decide +kernel) (by decide +kernel)
theorem lyX9 : ∀ w ∈ u_ws RX9 TX9 5, w ∈ TS := tsl [205, 207, 209, 211, 213] (by decide +kernel) (by decide +kernel)
theorem lyX10 : ∀ w ∈ u_ws RX10 TX10 18, w ∈ TS := tsl [353, 355, 357, 359, 361, 363, 365, 367, 369, 371, 373, 375, 377, 379, 381, 383, 385, 387] (by decide +kernel) (by decide +kernel)
theorem lyX11 : ∀ w ∈ u_ws RX11 TX11 8, w ∈ TS := tsl [414, 416, 418, 420, 422, 424, 426, 428] (by decide +kernel) (by decide +kernel)
theorem lyX12 : ∀ w ∈ u_ws RX12 TX12 43, w ∈ TS := tsl [1135, 1137, 1139, 1141, 1143, 1145, 1147, 1149, 1151, 1153, 1155, 1157, 1159, 1161, 1163, 1165, 1167, 1169, 1171, 1173, 1175, 1177, 1179, 1181, 1183, 1185, 1187, 1189, 1191, 1193, 1195, 1197, 1199, 1201, 1203, 1205, 1207, 1209, 1211, 1213, 1215, 1217, 1219] (by decide +kernel) (by decide +kernel)
def CI (ci : Nat) (C : String) (T : u_T) (N : Nat) (ty : Nat → FieldType) : Prop := vwCl[ci]? = some (C, T, N) ∧ (∀ w ∈ u_ws C T N, w ∈ TS) ∧ (∀ k, k < N → parseFieldDescriptor (T k).2.2.1 = some (ty k)) ∧ ∀ a, a < N → ∀ b, b < N → a ≠ b → (T a).2.1 ≠ (T b).2.1
theorem ci0 : CI 0 RX0 TX0 3 tyX0 := ⟨rfl, lyX0, tyX0_ok, nmX0⟩
theorem ci1 : CI 1 RX1 TX1 10 tyX1 := ⟨rfl, lyX1, tyX1_ok, nmX1⟩
theorem ci2 : CI 2 RX2 TX2 3 tyX2 := ⟨rfl, lyX2, tyX2_ok, nmX2⟩
theorem ci3 : CI 3 RX3 TX3 2 tyX3 := ⟨rfl, lyX3, tyX3_ok, nmX3⟩
theorem ci4 : CI 4 RX4 TX4 5 tyX4 := ⟨rfl, lyX4, tyX4_ok, nmX4⟩
theorem ci5 : CI 5 RX5 TX5 2 tyX5 := ⟨rfl, lyX5, tyX5_ok, nmX5⟩
theorem ci6 : CI 6 RX6 TX6 7 tyX6 := ⟨rfl, lyX6, tyX6_ok, nmX6⟩
theorem ci7 : CI 7 RX7 TX7 1 tyX7 := ⟨rfl, lyX7, tyX7_ok, nmX7⟩
theorem ci8 : CI 8 RX8 TX8 4 tyX8 := ⟨rfl, lyX8, tyX8_ok, nmX8⟩
theorem ci9 : CI 9 RX9 TX9 5 tyX9 := ⟨rfl, lyX9, tyX9_ok, nmX9⟩
theorem ci10 : CI 10 RX10 TX10 18 tyX10 := ⟨rfl, lyX10, tyX10_ok, nmX10⟩
theorem ci11 : CI 11 RX11 TX11 8 tyX11 := ⟨rfl, lyX11, tyX11_ok, nmX11⟩
theorem ci12 : CI 12 RX12 TX12 43 tyX12 := ⟨rfl, lyX12, tyX12_ok, nmX12⟩
abbrev tyE (E : Nat → ClassId) : List (ClassId × FieldType) := [(E 0, .int), (E 1, .boolean), (E 2, .long), (E 3, .double)]
end
section
/-! ===== numbers ===== -/
theorem iI_toInt {z : Int} (h : InR z) : (Int32.ofInt z).toInt = z := Int32.toInt_ofInt_of_le (by omega) (by omega)
theorem iI_inj {x y : Int} (hx : InR x) (hy : InR y) : Int32.ofInt x = Int32.ofInt y ↔ x = y := by
  rw [← Int32.toInt_inj, iI_toInt hx, iI_toInt hy]
theorem iI_lt {x y : Int} (hx : InR x) (hy : InR y) : Int32.ofInt x < Int32.ofInt y ↔ x < y := by
  rw [Int32.lt_iff_toInt_lt, iI_toInt hx, iI_toInt hy]
theorem iI_le {x y : Int} (hx : InR x) (hy : InR y) : Int32.ofInt x ≤ Int32.ofInt y ↔ x ≤ y := by
  rw [Int32.le_iff_toInt_le, iI_toInt hx, iI_toInt hy]
theorem iI_0 : Int32.ofInt 0 = 0 := rfl
theorem iI_nat {z : Int} (h : InR z) : (Int32.ofInt z).toNatClampNeg = z.toNat := by
  rw [← Int32.toNat_toInt, iI_toInt h]
theorem iI_toInt32 (x : Int32) : Int32.ofInt x.toInt = x := Int32.ofInt_toInt x
theorem toInt_InR (x : Int32) : InR x.toInt := ⟨Int32.le_toInt x, Int32.toInt_lt x⟩
theorem iI_in {z : Int} {n : Nat} (h : InR z) (h0 : 0 ≤ z) (h1 : z < n) : vp_in (Int32.ofInt z) n := by
  intro q
  rcases q with q | q
  · rw [← iI_0, iI_lt h (by omega)] at q
    omega
  · rw [iI_nat h] at q
    omega
theorem iL_toInt {z : Int} (h : InL z) : (Int64.ofInt z).toInt = z := Int64.toInt_ofInt_of_le (by omega) (by omega)
def bnd (x y : Int) : Int := (Int32.ofInt x &&& Int32.ofInt y).toInt
def bor (x y : Int) : Int := (Int32.ofInt x ||| Int32.ofInt y).toInt
def bxr (x y : Int) : Int := (Int32.ofInt x ^^^ Int32.ofInt y).toInt
def bus (x y : Int) : Int := ((Int32.ofInt x).toUInt32 >>> ((Int32.ofInt y).toUInt32 &&& Int32.toUInt32 31)).toInt32.toInt
def bsl (x y : Int) : Int := (Int32.ofInt x <<< (Int32.ofInt y &&& 31)).toInt
def bsr (x y : Int) : Int := (Int32.ofInt x >>> (Int32.ofInt y &&& 31)).toInt
theorem iI_div {x y : Int} (hx : 0 ≤ x ∧ InR x) (hy : 0 < y ∧ InR y) : Int32.ofInt x / Int32.ofInt y = Int32.ofInt (x / y) := by
  apply Int32.toInt_inj.mp
  rw [Int32.toInt_div, iI_toInt hx.2, iI_toInt hy.2, Int.tdiv_eq_ediv_of_nonneg hx.1]
  have h1 : 0 ≤ x / y := Int.ediv_nonneg hx.1 (by omega)
  have h2 : x / y ≤ x := Int.ediv_le_self _ hx.1
  rw [iI_toInt (by omega)]
  exact Int.bmod_eq_of_le (by omega) (by omega)
theorem iI_rem {x y : Int} (hx : 0 ≤ x ∧ InR x) (hy : 0 < y ∧ InR y) : Int32.ofInt x - Int32.ofInt x / Int32.ofInt y * Int32.ofInt y = Int32.ofInt (x % y) := by
  rw [iI_div hx hy, ← Int32.ofInt_mul, ← Int32.ofInt_sub]
  congr 1
  have := Int.emod_add_mul_ediv x y
  rw [Int.mul_comm] at this
  omega
theorem iL_div {x y : Int} (hx : 0 ≤ x ∧ InL x) (hy : 0 < y ∧ InL y) : Int64.ofInt x / Int64.ofInt y = Int64.ofInt (x / y) := by
  apply Int64.toInt_inj.mp
  rw [Int64.toInt_div, iL_toInt hx.2, iL_toInt hy.2, Int.tdiv_eq_ediv_of_nonneg hx.1]
  have h1 : 0 ≤ x / y := Int.ediv_nonneg hx.1 (by omega)
  have h2 : x / y ≤ x := Int.ediv_le_self _ hx.1
  rw [iL_toInt (by omega)]
  exact Int.bmod_eq_of_le (by omega) (by omega)
theorem iL_rem {x y : Int} (hx : 0 ≤ x ∧ InL x) (hy : 0 < y ∧ InL y) : Int64.ofInt x - Int64.ofInt x / Int64.ofInt y * Int64.ofInt y = Int64.ofInt (x % y) := by
  rw [iL_div hx hy, ← Int64.ofInt_mul, ← Int64.ofInt_sub]
  congr 1
  have := Int.emod_add_mul_ediv x y
  rw [Int.mul_comm] at this
  omega
/-! ===== locals ===== -/
def lvg : List (Nat × Value) → Nat → Option Value
  | [], _ => none
  | q :: t, i => cond (Nat.beq q.1 i) (some q.2) (lvg t i)
theorem lvg_mem : ∀ {lv : List (Nat × Value)} {i : Nat} {v : Value}, lvg lv i = some v → (i, v) ∈ lv := by
  intro lv
  induction lv with
  | nil => intro i v h; simp [lvg] at h
  | cons q t ih =>
    intro i v h
    unfold lvg at h
    cases hb : Nat.beq q.1 i with
    | true =>
      rw [hb] at h
      simp only [cond_true, Option.some.injEq] at h
      have := Nat.eq_of_beq_eq_true hb
      rw [← this, ← h]
      exact List.mem_cons_self
    | false =>
      rw [hb] at h
      exact List.mem_cons_of_mem _ (ih h)
theorem lvg_at {ls : Array Slot} {nL : Nat} {lv : List (Nat × Value)} {i : Nat} {v : Value} (h : lv_has ls nL lv) (g : lvg lv i = some v) : ls[i]? = some (.val v) := h.2.2 (i, v) (lvg_mem g)
theorem nbf {a b : Nat} (h : ¬ a = b) : Nat.beq a b = false := by
  cases e : Nat.beq a b with
  | false => rfl
  | true => exact absurd (Nat.eq_of_beq_eq_true e) h
/-- the locals behind a store of one place -/
def lvd (i : Nat) : List (Nat × Value) → List (Nat × Value)
  | [] => []
  | q :: t => cond (Nat.beq q.1 i) (lvd i t) (cond (Nat.beq (q.1 + 1) i && Nat.beq q.2.category 2) (lvd i t) (q :: lvd i t))
/-- .. of two places -/
def lvd2 (i : Nat) : List (Nat × Value) → List (Nat × Value)
  | [] => []
  | q :: t => cond (Nat.beq q.1 i) (lvd2 i t) (cond (Nat.beq q.1 (i + 1)) (lvd2 i t) (cond (Nat.beq (q.1 + 1) i && Nat.beq q.2.category 2) (lvd2 i t) (q :: lvd2 i t)))
theorem lvd_sub {i : Nat} : ∀ {lv : List (Nat × Value)} {q : Nat × Value}, q ∈ lvd i lv → q ∈ lv.filter (fun q => !(q.1 == i) && !(q.1 + 1 == i && q.2.category == 2)) := by
  intro lv
  induction lv with
  | nil => intro q h; simp [lvd] at h
  | cons x t ih =>
    intro q h
    unfold lvd at h
    by_cases h1 : x.1 = i
    · rw [show Nat.beq x.1 i = true from by simp [h1], cond_true] at h
      exact List.mem_filter.mpr ⟨List.mem_cons_of_mem _ (List.mem_filter.mp (ih h)).1, (List.mem_filter.mp (ih h)).2⟩
    · rw [show Nat.beq x.1 i = false from nbf h1, cond_false] at h
      by_cases h2 : x.1 + 1 = i ∧ x.2.category = 2
      · rw [show (Nat.beq (x.1 + 1) i && Nat.beq x.2.category 2) = true from by simp [h2.1, h2.2], cond_true] at h
        exact List.mem_filter.mpr ⟨List.mem_cons_of_mem _ (List.mem_filter.mp (ih h)).1, (List.mem_filter.mp (ih h)).2⟩
      · have h3 : (Nat.beq (x.1 + 1) i && Nat.beq x.2.category 2) = false := by
          cases hb : (Nat.beq (x.1 + 1) i && Nat.beq x.2.category 2) with
          | false => rfl
          | true =>
            simp only [Bool.and_eq_true] at hb
            exact absurd ⟨Nat.eq_of_beq_eq_true hb.1, Nat.eq_of_beq_eq_true hb.2⟩ h2
        rw [h3, cond_false] at h
        rcases List.mem_cons.mp h with e | h
        · subst e
          refine List.mem_filter.mpr ⟨List.mem_cons_self, ?_⟩
          simp only [Bool.and_eq_true, Bool.not_eq_true', beq_eq_false_iff_ne, Bool.and_eq_false_iff]
          refine ⟨h1, ?_⟩
          by_cases h4 : q.1 + 1 = i
          · exact Or.inr (fun h5 => h2 ⟨h4, h5⟩)
          · exact Or.inl h4
        · exact List.mem_filter.mpr ⟨List.mem_cons_of_mem _ (List.mem_filter.mp (ih h)).1, (List.mem_filter.mp (ih h)).2⟩
theorem lvd2_sub {i : Nat} : ∀ {lv : List (Nat × Value)} {q : Nat × Value}, q ∈ lvd2 i lv → q ∈ lv.filter (fun q => !(q.1 == i) && (!(q.1 == i + 1) && !(q.1 + 1 == i && q.2.category == 2))) := by
  intro lv
  induction lv with
  | nil => intro q h; simp [lvd2] at h
  | cons x t ih =>
    intro q h
    have up : ∀ {q : Nat × Value}, q ∈ t.filter (fun q => !(q.1 == i) && (!(q.1 == i + 1) && !(q.1 + 1 == i && q.2.category == 2))) → q ∈ (x :: t).filter (fun q => !(q.1 == i) && (!(q.1 == i + 1) && !(q.1 + 1 == i && q.2.category == 2))) := fun h => List.mem_filter.mpr ⟨List.mem_cons_of_mem _ (List.mem_filter.mp h).1, (List.mem_filter.mp h).2⟩
    unfold lvd2 at h
    by_cases h1 : x.1 = i
    · rw [show Nat.beq x.1 i = true from by simp [h1], cond_true] at h
      exact up (ih h)
    · rw [show Nat.beq x.1 i = false from nbf h1, cond_false] at h
      by_cases h0 : x.1 = i + 1
      · rw [show Nat.beq x.1 (i + 1) = true from by simp [h0], cond_true] at h
        exact up (ih h)
      · rw [show Nat.beq x.1 (i + 1) = false from nbf h0, cond_false] at h
        by_cases h2 : x.1 + 1 = i ∧ x.2.category = 2
        · rw [show (Nat.beq (x.1 + 1) i && Nat.beq x.2.category 2) = true from by simp [h2.1, h2.2], cond_true] at h
          exact up (ih h)
        · have h3 : (Nat.beq (x.1 + 1) i && Nat.beq x.2.category 2) = false := by
            cases hb : (Nat.beq (x.1 + 1) i && Nat.beq x.2.category 2) with
            | false => rfl
            | true =>
              simp only [Bool.and_eq_true] at hb
              exact absurd ⟨Nat.eq_of_beq_eq_true hb.1, Nat.eq_of_beq_eq_true hb.2⟩ h2
          rw [h3, cond_false] at h
          rcases List.mem_cons.mp h with e | h
          · subst e
            refine List.mem_filter.mpr ⟨List.mem_cons_self, ?_⟩
            simp only [Bool.and_eq_true, Bool.not_eq_true', beq_eq_false_iff_ne, Bool.and_eq_false_iff]
            refine ⟨h1, h0, ?_⟩
            by_cases h4 : q.1 + 1 = i
            · exact Or.inr (fun h5 => h2 ⟨h4, h5⟩)
            · exact Or.inl h4
          · exact up (ih h)
theorem lv_less {ls : Array Slot} {nL : Nat} {l l' : List (Nat × Value)} (h : lv_has ls nL l) (hs : ∀ q ∈ l', q ∈ l) : lv_has ls nL l' := ⟨h.1, h.2.1, fun q hq => h.2.2 q (hs q hq)⟩
theorem lvd_has {ls : Array Slot} {nL i : Nat} {v : Value} {lv : List (Nat × Value)} (h : lv_has ls nL ((i, v) :: lv.filter (fun q => !(q.1 == i) && !(q.1 + 1 == i && q.2.category == 2)))) : lv_has ls nL ((i, v) :: lvd i lv) :=
  lv_less h (fun q hq => (List.mem_cons.mp hq).elim (fun e => by rw [e]; exact List.mem_cons_self) (fun h => List.mem_cons_of_mem _ (lvd_sub h)))
theorem lvd2_has {ls : Array Slot} {nL i : Nat} {v : Value} {lv : List (Nat × Value)} (h : lv_has ls nL ((i, v) :: lv.filter (fun q => !(q.1 == i) && (!(q.1 == i + 1) && !(q.1 + 1 == i && q.2.category == 2))))) : lv_has ls nL ((i, v) :: lvd2 i lv) :=
  lv_less h (fun q hq => (List.mem_cons.mp hq).elim (fun e => by rw [e]; exact List.mem_cons_self) (fun h => List.mem_cons_of_mem _ (lvd2_sub h)))
/-- l' is held where l is -/
def lvs : List (Nat × Value) → List (Nat × Value) → Prop
  | _, [] => True
  | l, q :: t => lvg l q.1 = some q.2 ∧ lvs l t
theorem lvs_mem : ∀ {l' l : List (Nat × Value)}, lvs l l' → ∀ q ∈ l', q ∈ l := by
  intro l'
  induction l' with
  | nil => intro l _ q h; simp at h
  | cons x t ih =>
    intro l h q hq
    rcases List.mem_cons.mp hq with e | hq
    · subst e; exact lvg_mem h.1
    · exact ih h.2 q hq
/-! ===== the judgement ===== -/
abbrev Ax : Type := Program × Launch × Env × Room × State × MethodId × Array Value × List Frame × Method × Code × (State → Prop)
abbrev axP (a : Ax) : Program := a.1
abbrev axL (a : Ax) : Launch := a.2.1
abbrev axE (a : Ax) : Env := a.2.2.1
abbrev axR (a : Ax) : Room := a.2.2.2.1
abbrev axS (a : Ax) : State := a.2.2.2.2.1
abbrev axM (a : Ax) : MethodId := a.2.2.2.2.2.1
abbrev axA (a : Ax) : Array Value := a.2.2.2.2.2.2.1
abbrev axB (a : Ax) : List Frame := a.2.2.2.2.2.2.2.1
abbrev axF (a : Ax) : Method := a.2.2.2.2.2.2.2.2.1
abbrev axC (a : Ax) : Code := a.2.2.2.2.2.2.2.2.2.1
abbrev axQ (a : Ax) : State → Prop := a.2.2.2.2.2.2.2.2.2.2
def VV (a : Ax) (B : Nat) (P : Heap → Prop) (k n pc : Nat) (lv : List (Nat × Value)) (st : List Value) : Prop :=
  ∀ (H : Heap) (locs : List Loc) (ls : Array Slot), P H → va_S (fun q : Nat => B ≤ q) (axS a).heap H locs → lv_has ls (axC a).maxLocals lv →
    W (axP a) (axL a) (axE a) (axR a) (axS a) (axM a) (axA a) (axB a) (axF a) (axC a) H locs k n (axQ a) (F0 (axM a) pc ls st)
def xcl : List (String × String) := [("java/lang/IllegalArgumentException", "java/lang/IllegalArgumentException"), ("java/lang/IllegalStateException", "java/lang/IllegalStateException"), ("java/lang/IndexOutOfBoundsException", "java/lang/IndexOutOfBoundsException"), ("java/util/NoSuchElementException", "java/util/NoSuchElementException")]
def xnl : List (String × String) := [("java/lang/IllegalArgumentException", "java/lang/IllegalStateException"), ("java/lang/IllegalArgumentException", "java/lang/IndexOutOfBoundsException"), ("java/lang/IllegalArgumentException", "java/util/NoSuchElementException"),
  ("java/lang/IllegalStateException", "java/lang/IllegalArgumentException"), ("java/lang/IllegalStateException", "java/lang/IndexOutOfBoundsException"), ("java/lang/IllegalStateException", "java/util/NoSuchElementException"),
  ("java/lang/IndexOutOfBoundsException", "java/lang/IllegalArgumentException"), ("java/lang/IndexOutOfBoundsException", "java/lang/IllegalStateException"), ("java/lang/IndexOutOfBoundsException", "java/util/NoSuchElementException"),
  ("java/util/NoSuchElementException", "java/lang/IllegalArgumentException"), ("java/util/NoSuchElementException", "java/lang/IllegalStateException"), ("java/util/NoSuchElementException", "java/lang/IndexOutOfBoundsException")]
/-- what else the words of throws and handlers want of a state with the heap H -/
def ZX (B : Nat) (U : State) (H : Heap) : Prop := vx_Zq Bundle.tN "UNASSIGNED_STACK" Bundle.steD (fun q : Nat => B ≤ q) U H ∧ vx_Zq Bundle.tN "SUPPRESSED_SENTINEL" Bundle.listD (fun q : Nat => B ≤ q) U H ∧ (∀ q ∈ xcl, va_Nw (.castable q.1 q.2) U) ∧ ∀ q ∈ xnl, va_Nc q.1 q.2 U
theorem ZX.go {B : Nat} {s U : State} {H : Heap} {locs : List Loc} (h : ZX B s s.heap) (hS : va_S (fun q : Nat => B ≤ q) s.heap H locs) (hU : U.heap = H) (hW : s.WarmedH U.vm) : ZX B U U.heap := by
  rw [hU]
  exact ⟨vx_Zq.moved hW.alike (h.1.kept hS.2.1), vx_Zq.moved hW.alike (h.2.1.kept hS.2.1), fun q hq => va_Nw.warmC hW (h.2.2.1 q hq), fun q hq => va_Nc.moved hW.alike (h.2.2.2 q hq)⟩
def Ac (a : Ax) (B : Nat) (D : va_G) (E : Nat → ClassId) (own : String) (cc : ByteArray) (nL : Nat) (rm : Room) : Prop :=
  (axP a).tables.exec = Jvm.exec ∧ (axC a).code = cc ∧ (axC a).maxLocals = nL ∧ (axS a).vm.findClass own = some (axM a).cls ∧ (∀ w ∈ TS, w.before (axA a) (axS a) = true) ∧ axR a = rm ∧
  va_K D vwCl (tyE E) (axS a) ∧ ZX B (axS a) (axS a).heap ∧ (axL a).stackTraces = false ∧ (axF a).locks = false ∧ B ≤ (axS a).heap.size
section R1
variable {a : Ax} {B : Nat} {D : va_G} {E : Nat → ClassId} {own : String} {cc : ByteArray} {nL : Nat} {rm : Room} {P : Heap → Prop} {k n pc : Nat} {lv lv' : List (Nat × Value)} {st : List Value}
theorem Ac.exec (h : Ac a B D E own cc nL rm) : (axP a).tables.exec = Jvm.exec := h.1
theorem Ac.bytes (h : Ac a B D E own cc nL rm) : (axC a).code = cc := h.2.1
theorem Ac.maxl (h : Ac a B D E own cc nL rm) : (axC a).maxLocals = nL := h.2.2.1
theorem Ac.cls (h : Ac a B D E own cc nL rm) : (axS a).vm.findClass own = some (axM a).cls := h.2.2.2.1
theorem Ac.hts (h : Ac a B D E own cc nL rm) : ∀ w ∈ TS, w.before (axA a) (axS a) = true := h.2.2.2.2.1
theorem Ac.room (h : Ac a B D E own cc nL rm) : axR a = rm := h.2.2.2.2.2.1
theorem Ac.known (h : Ac a B D E own cc nL rm) : va_K D vwCl (tyE E) (axS a) := h.2.2.2.2.2.2.1
theorem Ac.zx (h : Ac a B D E own cc nL rm) : ZX B (axS a) (axS a).heap := h.2.2.2.2.2.2.2.1
theorem Ac.quiet (h : Ac a B D E own cc nL rm) : (axL a).stackTraces = false := h.2.2.2.2.2.2.2.2.1
theorem Ac.unlocked (h : Ac a B D E own cc nL rm) : (axF a).locks = false := h.2.2.2.2.2.2.2.2.2.1
theorem Ac.base (h : Ac a B D E own cc nL rm) : B ≤ (axS a).heap.size := h.2.2.2.2.2.2.2.2.2.2
theorem Ac.fix (h : Ac a B D E own cc nL rm) : CallFix (axP a) (axM a) (axC a) cc nL (axS a) (axA a) TS own := ⟨h.exec, h.bytes, h.maxl, h.cls, h.hts⟩
/-- the same with other words for locals, stack, heap -/
theorem VV.of {P' : Heap → Prop} (hs : lvs lv lv') (hP : ∀ H, P H → P' H) (q : VV a B P' k n pc lv' st) : VV a B P k n pc lv st := fun H locs ls h1 h2 h3 => q H locs ls (hP H h1) h2 (lv_less h3 (lvs_mem hs))
theorem VV.loc (hs : lvs lv lv') (q : VV a B P k n pc lv' st) : VV a B P k n pc lv st := VV.of hs (fun _ h => h) q
theorem VV.widen {k' n' : Nat} (h1 : k ≤ k') (h2 : n ≤ n') (q : VV a B P k' n' pc lv st) : VV a B P k n pc lv st := fun H locs ls a1 a2 a3 => W.widen h1 h2 (q H locs ls a1 a2 a3)
theorem v_iconst (h : Ac a B D E own cc nL rm) {z : Int} (d : decode cc pc = .ok (.iconst z, 1)) (q : VV a B P k n (pc + 1) lv (iI z :: st)) : VV a B P k n pc lv st := fun H locs ls a1 a2 a3 => lv_iconst h.exec h.bytes d rfl (q H locs ls a1 a2 a3)
theorem v_bipush (h : Ac a B D E own cc nL rm) {z : Int} (d : decode cc pc = .ok (.bipush z, 2)) (e : (Int8.ofInt z).toInt32 = Int32.ofInt z) (q : VV a B P k n (pc + 2) lv (iI z :: st)) : VV a B P k n pc lv st := fun H locs ls a1 a2 a3 => lv_bipush h.exec h.bytes d e (q H locs ls a1 a2 a3)
theorem v_sipush (h : Ac a B D E own cc nL rm) {z : Int} (d : decode cc pc = .ok (.sipush z, 3)) (e : (Int16.ofInt z).toInt32 = Int32.ofInt z) (q : VV a B P k n (pc + 3) lv (iI z :: st)) : VV a B P k n pc lv st := fun H locs ls a1 a2 a3 => lv_sipush h.exec h.bytes d e (q H locs ls a1 a2 a3)
theorem v_ldc (h : Ac a B D E own cc nL rm) {z : Int} {index : Nat} (w : Cond.constant own index (Int32.ofInt z) ∈ TS) (d : decode cc pc = .ok (.ldc index, 2)) (q : VV a B P k n (pc + 2) lv (iI z :: st)) : VV a B P k n pc lv st := fun H locs ls a1 a2 a3 => lv_ldc h.exec h.bytes h.cls (h.hts _ w) d (q H locs ls a1 a2 a3)
theorem v_ldcw (h : Ac a B D E own cc nL rm) {z : Int} {index : Nat} (w : Cond.constant own index (Int32.ofInt z) ∈ TS) (d : decode cc pc = .ok (.ldc_w index, 3)) (q : VV a B P k n (pc + 3) lv (iI z :: st)) : VV a B P k n pc lv st := fun H locs ls a1 a2 a3 => lv_ldcw h.exec h.bytes h.cls (h.hts _ w) d (q H locs ls a1 a2 a3)
theorem v_lconst (h : Ac a B D E own cc nL rm) {z : Fin 2} {y : Int} (d : decode cc pc = .ok (.lconst z, 1)) (e : ((z : Nat) : Int) = y) (q : VV a B P k n (pc + 1) lv (iL y :: st)) : VV a B P k n pc lv st := fun H locs ls a1 a2 a3 => lv_lconst h.exec h.bytes d (by rw [← e]; exact Int64.ofInt_eq_ofNat.symm) (q H locs ls a1 a2 a3)
theorem v_iload_n (h : Ac a B D E own cc nL rm) {i : Fin 4} {x : Int32} (d : decode cc pc = .ok (.iload_n i, 1)) (g : lvg lv i = some (.int x)) (q : VV a B P k n (pc + 1) lv (.int x :: st)) : VV a B P k n pc lv st := fun H locs ls a1 a2 a3 => lv_iload_n h.exec h.bytes d rfl (lvg_at a3 g) (q H locs ls a1 a2 a3)
theorem v_iload (h : Ac a B D E own cc nL rm) {i : Nat} {x : Int32} (d : decode cc pc = .ok (.iload i, 2)) (g : lvg lv i = some (.int x)) (q : VV a B P k n (pc + 2) lv (.int x :: st)) : VV a B P k n pc lv st := fun H locs ls a1 a2 a3 => lv_iload h.exec h.bytes d (lvg_at a3 g) (q H locs ls a1 a2 a3)
theorem v_lload_n (h : Ac a B D E own cc nL rm) {i : Fin 4} {x : Int64} (d : decode cc pc = .ok (.lload_n i, 1)) (g : lvg lv i = some (.long x)) (q : VV a B P k n (pc + 1) lv (.long x :: st)) : VV a B P k n pc lv st := fun H locs ls a1 a2 a3 => lv_lload_n h.exec h.bytes d rfl (lvg_at a3 g) (q H locs ls a1 a2 a3)
theorem v_lload (h : Ac a B D E own cc nL rm) {i : Nat} {x : Int64} (d : decode cc pc = .ok (.lload i, 2)) (g : lvg lv i = some (.long x)) (q : VV a B P k n (pc + 2) lv (.long x :: st)) : VV a B P k n pc lv st := fun H locs ls a1 a2 a3 => lv_lload h.exec h.bytes d (lvg_at a3 g) (q H locs ls a1 a2 a3)
theorem v_aload_n (h : Ac a B D E own cc nL rm) {i : Fin 4} {x : Nat} (d : decode cc pc = .ok (.aload_n i, 1)) (g : lvg lv i = some (.ref x)) (q : VV a B P k n (pc + 1) lv (.ref x :: st)) : VV a B P k n pc lv st := fun H locs ls a1 a2 a3 => lv_aload_n h.exec h.bytes d rfl (lvg_at a3 g) (q H locs ls a1 a2 a3)
theorem v_aload (h : Ac a B D E own cc nL rm) {i : Nat} {x : Nat} (d : decode cc pc = .ok (.aload i, 2)) (g : lvg lv i = some (.ref x)) (q : VV a B P k n (pc + 2) lv (.ref x :: st)) : VV a B P k n pc lv st := fun H locs ls a1 a2 a3 => lv_aload h.exec h.bytes d (lvg_at a3 g) (q H locs ls a1 a2 a3)
theorem v_istore_n (h : Ac a B D E own cc nL rm) {i : Fin 4} {x : Int32} (d : decode cc pc = .ok (.istore_n i, 1)) (hn : (i : Nat) < nL) (e : (↑i, Value.int x) :: lvd i lv = lv') (q : VV a B P k n (pc + 1) lv' st) : VV a B P k n pc lv (.int x :: st) := fun H locs ls a1 a2 a3 => lv_istore_n h.exec h.bytes d rfl a3 (by rw [h.maxl]; exact hn) rfl fun ls' h' => q H locs ls' a1 a2 (e ▸ lvd_has h')
theorem v_istore (h : Ac a B D E own cc nL rm) {i : Nat} {x : Int32} (d : decode cc pc = .ok (.istore i, 2)) (hn : i < nL) (e : (i, Value.int x) :: lvd i lv = lv') (q : VV a B P k n (pc + 2) lv' st) : VV a B P k n pc lv (.int x :: st) := fun H locs ls a1 a2 a3 => lv_istore h.exec h.bytes d a3 (by rw [h.maxl]; exact hn) rfl fun ls' h' => q H locs ls' a1 a2 (e ▸ lvd_has h')
theorem v_lstore_n (h : Ac a B D E own cc nL rm) {i : Fin 4} {x : Int64} (d : decode cc pc = .ok (.lstore_n i, 1)) (hn : (i : Nat) + 1 < nL) (e : (↑i, Value.long x) :: lvd2 i lv = lv') (q : VV a B P k n (pc + 1) lv' st) : VV a B P k n pc lv (.long x :: st) := fun H locs ls a1 a2 a3 => lv_lstore_n h.exec h.bytes d rfl a3 (by rw [h.maxl]; exact hn) rfl fun ls' h' => q H locs ls' a1 a2 (e ▸ lvd2_has h')
theorem v_lstore (h : Ac a B D E own cc nL rm) {i : Nat} {x : Int64} (d : decode cc pc = .ok (.lstore i, 2)) (hn : i + 1 < nL) (e : (i, Value.long x) :: lvd2 i lv = lv') (q : VV a B P k n (pc + 2) lv' st) : VV a B P k n pc lv (.long x :: st) := fun H locs ls a1 a2 a3 => lv_lstore h.exec h.bytes d a3 (by rw [h.maxl]; exact hn) rfl fun ls' h' => q H locs ls' a1 a2 (e ▸ lvd2_has h')
theorem v_astore_n (h : Ac a B D E own cc nL rm) {i : Fin 4} {x : Nat} (d : decode cc pc = .ok (.astore_n i, 1)) (hn : (i : Nat) < nL) (e : (↑i, Value.ref x) :: lvd i lv = lv') (q : VV a B P k n (pc + 1) lv' st) : VV a B P k n pc lv (.ref x :: st) := fun H locs ls a1 a2 a3 => lv_astore_n h.exec h.bytes d rfl a3 (by rw [h.maxl]; exact hn) rfl fun ls' h' => q H locs ls' a1 a2 (e ▸ lvd_has h')
theorem v_astore (h : Ac a B D E own cc nL rm) {i : Nat} {x : Nat} (d : decode cc pc = .ok (.astore i, 2)) (hn : i < nL) (e : (i, Value.ref x) :: lvd i lv = lv') (q : VV a B P k n (pc + 2) lv' st) : VV a B P k n pc lv (.ref x :: st) := fun H locs ls a1 a2 a3 => lv_astore h.exec h.bytes d a3 (by rw [h.maxl]; exact hn) rfl fun ls' h' => q H locs ls' a1 a2 (e ▸ lvd_has h')
theorem lvg_place : ∀ {lv : List (Nat × Value)} {i : Nat} {v : Value}, lvg lv i = some v → ∃ j : Nat, lv[j]? = some (i, v) := fun g => by
  obtain ⟨j, hj⟩ := List.getElem?_of_mem (lvg_mem g)
  exact ⟨j, hj⟩
theorem v_iinc (h : Ac a B D E own cc nL rm) {i : Nat} {z x : Int} (d : decode cc pc = .ok (.iinc i z, 3)) (g : lvg lv i = some (iI x)) (hn : i < nL) (e : (i, iI (x + z)) :: lvd i lv = lv') (q : VV a B P k n (pc + 3) lv' st) : VV a B P k n pc lv st := fun H locs ls a1 a2 a3 => by
  obtain ⟨j, hj⟩ := lvg_place g
  exact lv_iinc h.exec h.bytes d a3 (k := j) hj (v := Int32.ofInt (x + z)) (Int32.ofInt_add x z).symm (by rw [h.maxl]; exact hn) rfl fun ls' h' => q H locs ls' a1 a2 (e ▸ lvd_has h')
theorem v_iadd (h : Ac a B D E own cc nL rm) {x y : Int} (d : decode cc pc = .ok (.iadd, 1)) (q : VV a B P k n (pc + 1) lv (iI (x + y) :: st)) : VV a B P k n pc lv (iI y :: iI x :: st) := fun H locs ls a1 a2 a3 => lv_iadd h.exec h.bytes d (by rw [← Int32.ofInt_add]; exact q H locs ls a1 a2 a3)
theorem v_isub (h : Ac a B D E own cc nL rm) {x y : Int} (d : decode cc pc = .ok (.isub, 1)) (q : VV a B P k n (pc + 1) lv (iI (x - y) :: st)) : VV a B P k n pc lv (iI y :: iI x :: st) := fun H locs ls a1 a2 a3 => lv_isub h.exec h.bytes d (by rw [← Int32.ofInt_sub]; exact q H locs ls a1 a2 a3)
theorem v_imul (h : Ac a B D E own cc nL rm) {x y : Int} (d : decode cc pc = .ok (.imul, 1)) (q : VV a B P k n (pc + 1) lv (iI (x * y) :: st)) : VV a B P k n pc lv (iI y :: iI x :: st) := fun H locs ls a1 a2 a3 => lv_imul h.exec h.bytes d (by rw [← Int32.ofInt_mul]; exact q H locs ls a1 a2 a3)
theorem v_ineg (h : Ac a B D E own cc nL rm) {x : Int} (d : decode cc pc = .ok (.ineg, 1)) (q : VV a B P k n (pc + 1) lv (iI (-x) :: st)) : VV a B P k n pc lv (iI x :: st) := fun H locs ls a1 a2 a3 => lv_ineg h.exec h.bytes d (by rw [← Int32.ofInt_neg]; exact q H locs ls a1 a2 a3)
theorem v_iand (h : Ac a B D E own cc nL rm) {x y : Int} (d : decode cc pc = .ok (.iand, 1)) (q : VV a B P k n (pc + 1) lv (iI (bnd x y) :: st)) : VV a B P k n pc lv (iI y :: iI x :: st) := fun H locs ls a1 a2 a3 => lv_iand h.exec h.bytes d (by have := q H locs ls a1 a2 a3; rw [show iI (bnd x y) = Value.int (Int32.ofInt x &&& Int32.ofInt y) from congrArg Value.int (iI_toInt32 _)] at this; exact this)
theorem v_ior (h : Ac a B D E own cc nL rm) {x y : Int} (d : decode cc pc = .ok (.ior, 1)) (q : VV a B P k n (pc + 1) lv (iI (bor x y) :: st)) : VV a B P k n pc lv (iI y :: iI x :: st) := fun H locs ls a1 a2 a3 => lv_ior h.exec h.bytes d (by have := q H locs ls a1 a2 a3; rw [show iI (bor x y) = Value.int (Int32.ofInt x ||| Int32.ofInt y) from congrArg Value.int (iI_toInt32 _)] at this; exact this)
theorem v_ixor (h : Ac a B D E own cc nL rm) {x y : Int} (d : decode cc pc = .ok (.ixor, 1)) (q : VV a B P k n (pc + 1) lv (iI (bxr x y) :: st)) : VV a B P k n pc lv (iI y :: iI x :: st) := fun H locs ls a1 a2 a3 => lv_ixor h.exec h.bytes d (by have := q H locs ls a1 a2 a3; rw [show iI (bxr x y) = Value.int (Int32.ofInt x ^^^ Int32.ofInt y) from congrArg Value.int (iI_toInt32 _)] at this; exact this)
theorem v_ishl (h : Ac a B D E own cc nL rm) {x y : Int} (d : decode cc pc = .ok (.ishl, 1)) (q : VV a B P k n (pc + 1) lv (iI (bsl x y) :: st)) : VV a B P k n pc lv (iI y :: iI x :: st) := fun H locs ls a1 a2 a3 => lv_ishl h.exec h.bytes d (by have := q H locs ls a1 a2 a3; rw [show iI (bsl x y) = Value.int (Int32.ofInt x <<< (Int32.ofInt y &&& 31)) from congrArg Value.int (iI_toInt32 _)] at this; exact this)
theorem v_ishr (h : Ac a B D E own cc nL rm) {x y : Int} (d : decode cc pc = .ok (.ishr, 1)) (q : VV a B P k n (pc + 1) lv (iI (bsr x y) :: st)) : VV a B P k n pc lv (iI y :: iI x :: st) := fun H locs ls a1 a2 a3 => lv_ishr h.exec h.bytes d (by have := q H locs ls a1 a2 a3; rw [show iI (bsr x y) = Value.int (Int32.ofInt x >>> (Int32.ofInt y &&& 31)) from congrArg Value.int (iI_toInt32 _)] at this; exact this)
theorem v_iushr (h : Ac a B D E own cc nL rm) {x y : Int} (d : decode cc pc = .ok (.iushr, 1)) (q : VV a B P k n (pc + 1) lv (iI (bus x y) :: st)) : VV a B P k n pc lv (iI y :: iI x :: st) := fun H locs ls a1 a2 a3 => lv_iushr (v := Int32.ofInt (bus x y)) h.exec h.bytes d (iI_toInt32 _).symm (q H locs ls a1 a2 a3)
theorem v_idiv (h : Ac a B D E own cc nL rm) {x y : Int} (d : decode cc pc = .ok (.idiv, 1)) (hx : 0 ≤ x ∧ InR x) (hy : 0 < y ∧ InR y) (q : VV a B P k n (pc + 1) lv (iI (x / y) :: st)) : VV a B P k n pc lv (iI y :: iI x :: st) := fun H locs ls a1 a2 a3 => lv_idiv h.exec h.bytes d (fun z => by rw [← iI_0, iI_inj hy.2 (by omega)] at z; omega) (by rw [iI_div hx hy]; exact q H locs ls a1 a2 a3)
theorem v_irem (h : Ac a B D E own cc nL rm) {x y : Int} (d : decode cc pc = .ok (.irem, 1)) (hx : 0 ≤ x ∧ InR x) (hy : 0 < y ∧ InR y) (q : VV a B P k n (pc + 1) lv (iI (x % y) :: st)) : VV a B P k n pc lv (iI y :: iI x :: st) := fun H locs ls a1 a2 a3 => lv_irem h.exec h.bytes d (fun z => by rw [← iI_0, iI_inj hy.2 (by omega)] at z; omega) (by rw [iI_rem hx hy]; exact q H locs ls a1 a2 a3)
theorem v_i2l (h : Ac a B D E own cc nL rm) {x : Int} (d : decode cc pc = .ok (.i2l, 1)) (hx : InR x) (q : VV a B P k n (pc + 1) lv (iL x :: st)) : VV a B P k n pc lv (iI x :: st) := fun H locs ls a1 a2 a3 => lv_i2l h.exec h.bytes d (by rw [← Int64.ofInt_int32ToInt, iI_toInt hx]) (q H locs ls a1 a2 a3)
theorem v_l2i (h : Ac a B D E own cc nL rm) {x : Int} (d : decode cc pc = .ok (.l2i, 1)) (hx : InL x) (q : VV a B P k n (pc + 1) lv (iI x :: st)) : VV a B P k n pc lv (iL x :: st) := fun H locs ls a1 a2 a3 => lv_l2i h.exec h.bytes d (by rw [← Int32.ofInt_int64ToInt, iL_toInt hx]) (q H locs ls a1 a2 a3)
theorem v_ladd (h : Ac a B D E own cc nL rm) {x y : Int} (d : decode cc pc = .ok (.ladd, 1)) (q : VV a B P k n (pc + 1) lv (iL (x + y) :: st)) : VV a B P k n pc lv (iL y :: iL x :: st) := fun H locs ls a1 a2 a3 => lv_ladd h.exec h.bytes d (by rw [← Int64.ofInt_add]; exact q H locs ls a1 a2 a3)
theorem v_lmul (h : Ac a B D E own cc nL rm) {x y : Int} (d : decode cc pc = .ok (.lmul, 1)) (q : VV a B P k n (pc + 1) lv (iL (x * y) :: st)) : VV a B P k n pc lv (iL y :: iL x :: st) := fun H locs ls a1 a2 a3 => lv_lmul h.exec h.bytes d (by rw [← Int64.ofInt_mul]; exact q H locs ls a1 a2 a3)
theorem v_ldiv (h : Ac a B D E own cc nL rm) {x y : Int} (d : decode cc pc = .ok (.ldiv, 1)) (hx : 0 ≤ x ∧ InL x) (hy : 0 < y ∧ InL y) (q : VV a B P k n (pc + 1) lv (iL (x / y) :: st)) : VV a B P k n pc lv (iL y :: iL x :: st) := fun H locs ls a1 a2 a3 => lv_ldiv h.exec h.bytes d (fun z => by have := congrArg Int64.toInt z; rw [iL_toInt hy.2] at this; have e : (0 : Int64).toInt = 0 := rfl; omega) (by rw [iL_div hx hy]; exact q H locs ls a1 a2 a3)
theorem v_lrem (h : Ac a B D E own cc nL rm) {x y : Int} (d : decode cc pc = .ok (.lrem, 1)) (hx : 0 ≤ x ∧ InL x) (hy : 0 < y ∧ InL y) (q : VV a B P k n (pc + 1) lv (iL (x % y) :: st)) : VV a B P k n pc lv (iL y :: iL x :: st) := fun H locs ls a1 a2 a3 => lv_lrem h.exec h.bytes d (fun z => by have := congrArg Int64.toInt z; rw [iL_toInt hy.2] at this; have e : (0 : Int64).toInt = 0 := rfl; omega) (by rw [iL_rem hx hy]; exact q H locs ls a1 a2 a3)
theorem lcmp_of {x y : Int} (hx : InL x) (hy : InL y) : lg_cmp (Int64.ofInt x) (Int64.ofInt y) = Int32.ofInt (if x < y then -1 else if x = y then 0 else 1) := by
  unfold lg_cmp
  have e1 : (Int64.ofInt x < Int64.ofInt y) ↔ x < y := by rw [Int64.lt_iff_toInt_lt, iL_toInt hx, iL_toInt hy]
  have e2 : (Int64.ofInt y < Int64.ofInt x) ↔ y < x := by rw [Int64.lt_iff_toInt_lt, iL_toInt hx, iL_toInt hy]
  have e3 : (Int64.ofInt x = Int64.ofInt y) ↔ x = y := by rw [← Int64.toInt_inj, iL_toInt hx, iL_toInt hy]
  by_cases h1 : x < y
  · have h2 : ¬ y < x := by omega
    have h3 : ¬ x = y := by omega
    simp only [e1, e2, e3, h1, h2, h3, if_true, if_false]; rfl
  · by_cases h2 : x = y
    · have h3 : ¬ y < x := by omega
      simp only [e1, e2, e3, h1, h3, if_false]; rw [if_pos h2, if_pos h2]; rfl
    · have h3 : y < x := by omega
      simp only [e1, e2, e3, h1, h2, h3, if_true, if_false]; rfl
theorem v_lcmp (h : Ac a B D E own cc nL rm) {x y : Int} (d : decode cc pc = .ok (.lcmp, 1)) (hx : InL x) (hy : InL y) (q : VV a B P k n (pc + 1) lv (iI (if x < y then -1 else if x = y then 0 else 1) :: st)) : VV a B P k n pc lv (iL y :: iL x :: st) := fun H locs ls a1 a2 a3 => W.lcmp h.exec h.bytes d (by rw [lcmp_of hx hy]; exact q H locs ls a1 a2 a3)
theorem v_dup (h : Ac a B D E own cc nL rm) {v : Value} (d : decode cc pc = .ok (.dup, 1)) (hv : v.category = 1) (q : VV a B P k n (pc + 1) lv (v :: v :: st)) : VV a B P k n pc lv (v :: st) := fun H locs ls a1 a2 a3 => lv_dup h.exec h.bytes d hv (q H locs ls a1 a2 a3)
theorem v_pop (h : Ac a B D E own cc nL rm) {v : Value} (d : decode cc pc = .ok (.pop, 1)) (hv : v.category = 1) (q : VV a B P k n (pc + 1) lv st) : VV a B P k n pc lv (v :: st) := fun H locs ls a1 a2 a3 => lv_pop h.exec h.bytes d hv (q H locs ls a1 a2 a3)
theorem v_dup2 (h : Ac a B D E own cc nL rm) {v w : Value} (d : decode cc pc = .ok (.dup2, 1)) (hv : v.category = 1) (hw : w.category = 1) (q : VV a B P k n (pc + 1) lv (v :: w :: v :: w :: st)) : VV a B P k n pc lv (v :: w :: st) := fun H locs ls a1 a2 a3 => lv_dup2_11 h.exec h.bytes d hv hw (q H locs ls a1 a2 a3)
theorem v_goto (h : Ac a B D E own cc nL rm) {off : Int} (tgt : Nat) (d : decode cc pc = .ok (.goto off, 3)) (e : (pc : Int) + off = (tgt : Int)) (q : VV a B P k n tgt lv st) : VV a B P k n pc lv st := fun H locs ls a1 a2 a3 => lv_goto h.exec h.bytes d e (q H locs ls a1 a2 a3)
theorem v_if_eq (h : Ac a B D E own cc nL rm) {x off : Int} (tgt : Nat) (d : decode cc pc = .ok (.ifCond .eq off, 3)) (e : (pc : Int) + off = (tgt : Int)) (hx : InR x) (q1 : x = 0 → VV a B P k n tgt lv st) (q2 : x ≠ 0 → VV a B P k n (pc + 3) lv st) : VV a B P k n pc lv (iI x :: st) := fun H locs ls a1 a2 a3 => lv_if_eq h.exec h.bytes d e (fun z => q1 (by rwa [← iI_0, iI_inj hx (by omega)] at z) H locs ls a1 a2 a3) (fun z => q2 (fun c => z (by rw [c]; rfl)) H locs ls a1 a2 a3)
theorem v_if_ne (h : Ac a B D E own cc nL rm) {x off : Int} (tgt : Nat) (d : decode cc pc = .ok (.ifCond .ne off, 3)) (e : (pc : Int) + off = (tgt : Int)) (hx : InR x) (q1 : x ≠ 0 → VV a B P k n tgt lv st) (q2 : x = 0 → VV a B P k n (pc + 3) lv st) : VV a B P k n pc lv (iI x :: st) := fun H locs ls a1 a2 a3 => lv_if_ne h.exec h.bytes d e (fun z => q1 (fun c => z (by rw [c]; rfl)) H locs ls a1 a2 a3) (fun z => q2 (by rwa [← iI_0, iI_inj hx (by omega)] at z) H locs ls a1 a2 a3)
theorem v_if_lt (h : Ac a B D E own cc nL rm) {x off : Int} (tgt : Nat) (d : decode cc pc = .ok (.ifCond .lt off, 3)) (e : (pc : Int) + off = (tgt : Int)) (hx : InR x) (q1 : x < 0 → VV a B P k n tgt lv st) (q2 : 0 ≤ x → VV a B P k n (pc + 3) lv st) : VV a B P k n pc lv (iI x :: st) := fun H locs ls a1 a2 a3 => lv_if_lt h.exec h.bytes d e (fun z => q1 (by rwa [← iI_0, iI_lt hx (by omega)] at z) H locs ls a1 a2 a3) (fun z => q2 (by rw [← iI_0, iI_lt hx (by omega)] at z; omega) H locs ls a1 a2 a3)
theorem v_if_ge (h : Ac a B D E own cc nL rm) {x off : Int} (tgt : Nat) (d : decode cc pc = .ok (.ifCond .ge off, 3)) (e : (pc : Int) + off = (tgt : Int)) (hx : InR x) (q1 : 0 ≤ x → VV a B P k n tgt lv st) (q2 : x < 0 → VV a B P k n (pc + 3) lv st) : VV a B P k n pc lv (iI x :: st) := fun H locs ls a1 a2 a3 => lv_if_ge h.exec h.bytes d e (fun z => q1 (by rwa [← iI_0, iI_le (by omega) hx] at z) H locs ls a1 a2 a3) (fun z => q2 (by rw [← iI_0, iI_le (by omega) hx] at z; omega) H locs ls a1 a2 a3)
theorem v_if_gt (h : Ac a B D E own cc nL rm) {x off : Int} (tgt : Nat) (d : decode cc pc = .ok (.ifCond .gt off, 3)) (e : (pc : Int) + off = (tgt : Int)) (hx : InR x) (q1 : 0 < x → VV a B P k n tgt lv st) (q2 : x ≤ 0 → VV a B P k n (pc + 3) lv st) : VV a B P k n pc lv (iI x :: st) := fun H locs ls a1 a2 a3 => lv_if_gt h.exec h.bytes d e (fun z => q1 (by rwa [← iI_0, iI_lt (by omega) hx] at z) H locs ls a1 a2 a3) (fun z => q2 (by rw [← iI_0, iI_lt (by omega) hx] at z; omega) H locs ls a1 a2 a3)
theorem v_if_le (h : Ac a B D E own cc nL rm) {x off : Int} (tgt : Nat) (d : decode cc pc = .ok (.ifCond .le off, 3)) (e : (pc : Int) + off = (tgt : Int)) (hx : InR x) (q1 : x ≤ 0 → VV a B P k n tgt lv st) (q2 : 0 < x → VV a B P k n (pc + 3) lv st) : VV a B P k n pc lv (iI x :: st) := fun H locs ls a1 a2 a3 => lv_if_le h.exec h.bytes d e (fun z => q1 (by rwa [← iI_0, iI_le hx (by omega)] at z) H locs ls a1 a2 a3) (fun z => q2 (by rw [← iI_0, iI_le hx (by omega)] at z; omega) H locs ls a1 a2 a3)
theorem v_icmp_eq (h : Ac a B D E own cc nL rm) {x y off : Int} (tgt : Nat) (d : decode cc pc = .ok (.if_icmp .eq off, 3)) (e : (pc : Int) + off = (tgt : Int)) (hx : InR x ∧ InR y) (q1 : x = y → VV a B P k n tgt lv st) (q2 : x ≠ y → VV a B P k n (pc + 3) lv st) : VV a B P k n pc lv (iI y :: iI x :: st) := fun H locs ls a1 a2 a3 => lv_icmp_eq h.exec h.bytes d e (fun z => q1 (by rwa [iI_inj hx.1 hx.2] at z) H locs ls a1 a2 a3) (fun z => q2 (fun c => z (by rw [c])) H locs ls a1 a2 a3)
theorem v_icmp_ne (h : Ac a B D E own cc nL rm) {x y off : Int} (tgt : Nat) (d : decode cc pc = .ok (.if_icmp .ne off, 3)) (e : (pc : Int) + off = (tgt : Int)) (hx : InR x ∧ InR y) (q1 : x ≠ y → VV a B P k n tgt lv st) (q2 : x = y → VV a B P k n (pc + 3) lv st) : VV a B P k n pc lv (iI y :: iI x :: st) := fun H locs ls a1 a2 a3 => lv_icmp_ne h.exec h.bytes d e (fun z => q1 (fun c => z (by rw [c])) H locs ls a1 a2 a3) (fun z => q2 (by rwa [iI_inj hx.1 hx.2] at z) H locs ls a1 a2 a3)
theorem v_icmp_lt (h : Ac a B D E own cc nL rm) {x y off : Int} (tgt : Nat) (d : decode cc pc = .ok (.if_icmp .lt off, 3)) (e : (pc : Int) + off = (tgt : Int)) (hx : InR x ∧ InR y) (q1 : x < y → VV a B P k n tgt lv st) (q2 : y ≤ x → VV a B P k n (pc + 3) lv st) : VV a B P k n pc lv (iI y :: iI x :: st) := fun H locs ls a1 a2 a3 => lv_icmp_lt h.exec h.bytes d e (fun z => q1 (by rwa [iI_lt hx.1 hx.2] at z) H locs ls a1 a2 a3) (fun z => q2 (by rw [iI_lt hx.1 hx.2] at z; omega) H locs ls a1 a2 a3)
theorem v_icmp_ge (h : Ac a B D E own cc nL rm) {x y off : Int} (tgt : Nat) (d : decode cc pc = .ok (.if_icmp .ge off, 3)) (e : (pc : Int) + off = (tgt : Int)) (hx : InR x ∧ InR y) (q1 : y ≤ x → VV a B P k n tgt lv st) (q2 : x < y → VV a B P k n (pc + 3) lv st) : VV a B P k n pc lv (iI y :: iI x :: st) := fun H locs ls a1 a2 a3 => lv_icmp_ge h.exec h.bytes d e (fun z => q1 (by rwa [iI_le hx.2 hx.1] at z) H locs ls a1 a2 a3) (fun z => q2 (by rw [iI_le hx.2 hx.1] at z; omega) H locs ls a1 a2 a3)
theorem v_icmp_gt (h : Ac a B D E own cc nL rm) {x y off : Int} (tgt : Nat) (d : decode cc pc = .ok (.if_icmp .gt off, 3)) (e : (pc : Int) + off = (tgt : Int)) (hx : InR x ∧ InR y) (q1 : y < x → VV a B P k n tgt lv st) (q2 : x ≤ y → VV a B P k n (pc + 3) lv st) : VV a B P k n pc lv (iI y :: iI x :: st) := fun H locs ls a1 a2 a3 => lv_icmp_gt h.exec h.bytes d e (fun z => q1 (by rwa [iI_lt hx.2 hx.1] at z) H locs ls a1 a2 a3) (fun z => q2 (by rw [iI_lt hx.2 hx.1] at z; omega) H locs ls a1 a2 a3)
theorem v_icmp_le (h : Ac a B D E own cc nL rm) {x y off : Int} (tgt : Nat) (d : decode cc pc = .ok (.if_icmp .le off, 3)) (e : (pc : Int) + off = (tgt : Int)) (hx : InR x ∧ InR y) (q1 : x ≤ y → VV a B P k n tgt lv st) (q2 : y < x → VV a B P k n (pc + 3) lv st) : VV a B P k n pc lv (iI y :: iI x :: st) := fun H locs ls a1 a2 a3 => lv_icmp_le h.exec h.bytes d e (fun z => q1 (by rwa [iI_le hx.1 hx.2] at z) H locs ls a1 a2 a3) (fun z => q2 (by rw [iI_le hx.1 hx.2] at z; omega) H locs ls a1 a2 a3)
theorem v_switchOut (h : Ac a B D E own cc nL rm) {x dflt lo hi : Int} {offs : Array Int} {len : Nat} (tgt : Nat) (d : decode cc pc = .ok (.tableswitch dflt lo hi offs, len)) (hx : InR x) (c : x < lo ∨ hi < x) (e : (pc : Int) + dflt = (tgt : Int)) (q : VV a B P k n tgt lv st) : VV a B P k n pc lv (iI x :: st) := fun H locs ls a1 a2 a3 => lv_tableOut h.exec h.bytes d (by rw [iI_toInt hx]; exact c) e (q H locs ls a1 a2 a3)
theorem v_switchIn (h : Ac a B D E own cc nL rm) {x dflt lo hi off : Int} {offs : Array Int} {len : Nat} (tgt : Nat) (d : decode cc pc = .ok (.tableswitch dflt lo hi offs, len)) (hx : InR x) (c1 : lo ≤ x) (c2 : x ≤ hi) (o : offs[(x - lo).toNat]? = some off) (e : (pc : Int) + off = (tgt : Int)) (q : VV a B P k n tgt lv st) : VV a B P k n pc lv (iI x :: st) := fun H locs ls a1 a2 a3 => lv_tableIn h.exec h.bytes d (by rw [iI_toInt hx]; omega) (by rw [iI_toInt hx]; omega) (by rw [iI_toInt hx]; exact o) e (q H locs ls a1 a2 a3)
end R1
end
section
/-! ===== the picture of the whole system in a heap; fields, arrays ===== -/
def SP (B : Nat) (D : va_G) (E : Nat → ClassId) (μ : Mm) : Heap → Prop := fun H => va_P D vwCl (wsm B E μ) H
section R2
variable {a : Ax} {B : Nat} {D : va_G} {E : Nat → ClassId} {own : String} {cc : ByteArray} {nL : Nat} {rm : Room} {μ : Mm} {k n pc : Nat} {lv : List (Nat × Value)} {st : List Value} {o : Nat}
theorem v_get (h : Ac a B D E own cc nL rm) {ci j index N : Nat} {C : String} {T : u_T} {ty : Nat → FieldType} {fs : List (Option Nat)} {v : Value} (hc : CI ci C T N ty) (sh : shapes[o]? = some (.inl (ci, fs))) (hj : j < N) (w : Cond.fieldLink own index (T j).1 (T j).2.1 (T j).2.2.1 ∈ TS) (hv : (fvs B (μ o) 0 fs)[j]? = some v) (d : decode cc pc = .ok (.getfield index, 3))
    (q : VV a B (SP B D E μ) k n (pc + 3) lv (v :: st)) : VV a B (SP B D E μ) k n pc lv (.ref (B + o) :: st) := fun H locs ls a1 a2 a3 =>
  va_get h.exec h.bytes h.hts hc.2.1 h.cls h.known a1 o (wsm_get sh) hc.1 j hj (h.hts _ w) (fun _ z => z) hv d (q H locs ls a1 a2 a3)
theorem v_put (h : Ac a B D E own cc nL rm) {ci j index N : Nat} {C : String} {T : u_T} {ty : Nat → FieldType} {fs : List (Option Nat)} {z : Int} (hc : CI ci C T N ty) (sh : shapes[o]? = some (.inl (ci, fs))) (hj : j < N) (w : Cond.fieldLink own index (T j).1 (T j).2.1 (T j).2.2.1 ∈ TS) (hf : fs[j]? = some none) (hfin : (T j).2.2.2 = false) (hn : narrow (ty j) (iI z) = iI z) (hft : fits (ty j) (iI z) = true) (d : decode cc pc = .ok (.putfield index, 3))
    (q : VV a B (SP B D E (mup μ o j z)) k n (pc + 3) lv st) : VV a B (SP B D E μ) k n pc lv (iI z :: .ref (B + o) :: st) := fun H locs ls a1 a2 a3 =>
  va_put h.exec h.bytes h.hts hc.2.1 ty hc.2.2.1 hc.2.2.2 h.cls h.known a1 (wsm_apart B E μ) a2 o (wsm_get sh) hc.1 j hj (h.hts _ w) (fun _ z => z) hfin (hc.2.2.1 j hj) hn hft (by rw [fvs_len]; exact (List.getElem?_eq_some_iff.mp hf).1) d (fun H1 locs1 b1 _ b3 => q H1 locs1 ls (by
    have e : (wsm B E μ).set o (B + o, .inr (ci, (fvs B (μ o) 0 fs).set j (iI z))) = wsm B E (mup μ o j z) := wsm_set (s := .inl (ci, fs)) sh (by
      show _ = (Sum.inr (ci, fvs B (mup μ o j z o) 0 fs) : va_E)
      rw [fvs_set fs 0 j (Nat.zero_add j).symm hf]
      have : (fun b => if b = j then z else μ o b) = mup μ o j z o := by funext b; rw [mup_row]
      rw [this])
    show va_P D vwCl (wsm B E (mup μ o j z)) H1
    rw [← e]; exact b1) b3 a3)
theorem v_iald (h : Ac a B D E own cc nL rm) {len : Nat} {z : Int} (sh : shapes[o]? = some (.inr (0, len))) (hl : len ≤ 4000) (hz : 0 ≤ z ∧ z < (len : Int)) (d : decode cc pc = .ok (.iaload, 1))
    (q : VV a B (SP B D E μ) k n (pc + 1) lv (iI (μ o z.toNat) :: st)) : VV a B (SP B D E μ) k n pc lv (iI z :: .ref (B + o) :: st) := fun H locs ls a1 a2 a3 =>
  va_iald h.exec h.bytes h.known a1 o 0 (wsm_get sh) rfl (iI_in (by omega) hz.1 hz.2) d (by rw [iI_nat (by omega)]; exact q H locs ls a1 a2 a3)
theorem v_zald (h : Ac a B D E own cc nL rm) {len : Nat} {z : Int} (sh : shapes[o]? = some (.inr (1, len))) (hl : len ≤ 4000) (hz : 0 ≤ z ∧ z < (len : Int)) (d : decode cc pc = .ok (.baload, 1))
    (q : VV a B (SP B D E μ) k n (pc + 1) lv (iI (μ o z.toNat) :: st)) : VV a B (SP B D E μ) k n pc lv (iI z :: .ref (B + o) :: st) := fun H locs ls a1 a2 a3 =>
  va_zald h.exec h.bytes h.known a1 o 1 (wsm_get sh) rfl (iI_in (by omega) hz.1 hz.2) d (by rw [iI_nat (by omega)]; exact q H locs ls a1 a2 a3)
theorem upd_mup {j : Nat} {y : Int} : upd (fun j => Int32.ofInt (μ o j)) j (Int32.ofInt y) = fun b => Int32.ofInt (mup μ o j y o b) := by
  funext b
  rw [mup_row]
  unfold upd
  by_cases hb : b = j <;> simp [hb]
theorem v_iast (h : Ac a B D E own cc nL rm) {len : Nat} {z y : Int} (sh : shapes[o]? = some (.inr (0, len))) (hl : len ≤ 4000) (hz : 0 ≤ z ∧ z < (len : Int)) (d : decode cc pc = .ok (.iastore, 1))
    (q : VV a B (SP B D E (mup μ o z.toNat y)) k n (pc + 1) lv st) : VV a B (SP B D E μ) k n pc lv (iI y :: iI z :: .ref (B + o) :: st) := fun H locs ls a1 a2 a3 =>
  va_iast h.exec h.bytes h.known a1 (wsm_apart B E μ) a2 o 0 (wsm_get sh) rfl (iI_in (by omega) hz.1 hz.2) d (fun H1 locs1 b1 _ b3 => q H1 locs1 ls (by
    rw [iI_nat (by omega), upd_mup] at b1
    have e : (wsm B E μ).set o (B + o, .inl (E 0, len, .inl (fun b => Int32.ofInt (mup μ o z.toNat y o b)))) = wsm B E (mup μ o z.toNat y) := wsm_set (s := .inr (0, len)) sh rfl
    show va_P D vwCl (wsm B E (mup μ o z.toNat y)) H1
    rw [← e]
    exact b1) b3 a3)
theorem nar_b {y : Int} (hy : y = 0 ∨ y = 1) : vp_nar .boolean (Int32.ofInt y) = Int32.ofInt y := by rcases hy with rfl | rfl <;> rfl
theorem v_zast (h : Ac a B D E own cc nL rm) {len : Nat} {z y : Int} (sh : shapes[o]? = some (.inr (1, len))) (hl : len ≤ 4000) (hz : 0 ≤ z ∧ z < (len : Int)) (hy : y = 0 ∨ y = 1) (d : decode cc pc = .ok (.bastore, 1))
    (q : VV a B (SP B D E (mup μ o z.toNat y)) k n (pc + 1) lv st) : VV a B (SP B D E μ) k n pc lv (iI y :: iI z :: .ref (B + o) :: st) := fun H locs ls a1 a2 a3 =>
  va_zast h.exec h.bytes h.known a1 (wsm_apart B E μ) a2 o 1 (wsm_get sh) rfl (iI_in (by omega) hz.1 hz.2) d (fun H1 locs1 b1 _ b3 => q H1 locs1 ls (by
    rw [nar_b hy, iI_nat (by omega), upd_mup] at b1
    have e : (wsm B E μ).set o (B + o, .inl (E 1, len, .inl (fun b => Int32.ofInt (mup μ o z.toNat y o b)))) = wsm B E (mup μ o z.toNat y) := wsm_set (s := .inr (1, len)) sh rfl
    show va_P D vwCl (wsm B E (mup μ o z.toNat y)) H1
    rw [← e]
    exact b1) b3 a3)
theorem v_alen (h : Ac a B D E own cc nL rm) {len : Nat} (sh : shapes[o]? = some (.inr (0, len))) (d : decode cc pc = .ok (.arraylength, 1))
    (q : VV a B (SP B D E μ) k n (pc + 1) lv (iI (len : Int) :: st)) : VV a B (SP B D E μ) k n pc lv (.ref (B + o) :: st) := fun H locs ls a1 a2 a3 =>
  va_alen h.exec h.bytes h.known a1 o 0 (wsm_get sh) rfl (Int32.ofInt_eq_ofNat.symm) d (q H locs ls a1 a2 a3)
end R2
/-! ===== contracts ===== -/
abbrev Pv : Type := Option Value → Mm → Prop
abbrev Px : Type := String → Mm → Prop
def Ent (B : Nat) (D : va_G) (E : Nat → ClassId) (μ : Mm) (U : State) : Prop := SP B D E μ U.heap ∧ va_K D vwCl (tyE E) U ∧ ZX B U U.heap ∧ B ≤ U.heap.size
def Qt (B : Nat) (D : va_G) (E : Nat → ClassId) (P : Pv) : Array Value → State → Outcome → State → Prop := fun _ s oc t => (∃ (v : Option Value) (μ : Mm), oc = .returned v ∧ P v μ ∧ SP B D E μ t.heap) ∧ va_F (fun q : Nat => B ≤ q) s t
def Xt (B : Nat) (D : va_G) (E : Nat → ClassId) (X : Px) : String → State → State → Prop := fun e s t => (∃ μ : Mm, X e μ ∧ SP B D E μ t.heap) ∧ va_F (fun q : Nat => B ≤ q) s t
/-- a method's contract: from the memory μ with the arguments av it returns as P says or throws as X says -/
def Ct (l : Launch) (B : Nat) (D : va_G) (E : Nat → ClassId) (y : MethodName) (cw : Cond) (rm : Room) (av : List Value) (μ : Mm) (P : Pv) (X : Px) : Prop :=
  vx_Met l y (cw :: TS) rm (va_Pc av (Ent B D E μ)) (Qt B D E P) (Xt B D E X) rm.cells rm.slots (fun q : Nat => B ≤ q)
def NX : Px := fun _ _ => False
/-- it returns v, the memory is μ' -/
def dr (v : Option Value) (μ' : Mm) : Pv := fun w m => w = v ∧ m = μ'
/-- .. an int, the memory as it was -/
abbrev ri (z : Int) (μ' : Mm) : Pv := dr (some (iI z)) μ'
abbrev rv (μ' : Mm) : Pv := dr none μ'
def Rt (a : Ax) (B : Nat) (D : va_G) (E : Nat → ClassId) (ret : Option FieldType) (P : Pv) (X : Px) (mc ms : Nat) : Prop :=
  axQ a = vx_MQ (axB a) (Qt B D E P) (Xt B D E X) (axA a) (axS a) mc ms (fun q : Nat => B ≤ q) ∧ (axF a).sig.returnType = ret
def noTab (a : Ax) : Prop := ∀ x ∈ (axC a).exceptionTable.toList, False
theorem ct_of {l : Launch} {B : Nat} {D : va_G} {E : Nat → ClassId} {y : MethodName} {own : String} {cc : ByteArray} {nL : Nat} {ret : Option FieldType} {rm : Room} {av : List Value} {μ : Mm} {P : Pv} {X : Px} {lv : List (Nat × Value)}
    (hst : l.stackTraces = false) (hy : plainName y.cls = true) (hcl : y.cls = own) (hlv : lv_args 0 av = lv) (hsz : (lg_sl av).length ≤ nL)
    (body : ∀ a : Ax, Ac a B D E own cc nL rm → Rt a B D E ret P X rm.cells rm.slots → noTab a → VV a B (SP B D E μ) 0 0 0 lv []) : Ct l B D E y (.code y cc nL ret) rm av μ P X := by
  refine vx_ofW (cc := cc) (maxL := nL) (ret := ret) hy rfl ?_
  intro p e s m args below meth c s₁ B0 hml htab hv
  obtain ⟨rfl, hP, hK, hZ, hB⟩ := hv
  have hts := atoms_spec (ws := Cond.code y cc nL ret :: TS) B0.pre
  have hown : s.vm.findClass own = some m.cls := by rw [← hcl]; exact findClass_of_methodNamed B0.named
  have hl := lv_entry av hsz
  rw [hlv] at hl
  rw [lg_entry_eq]
  generalize (lg_sl av ++ List.replicate (nL - (lg_sl av).length) Slot.unset).toArray = ls at hl ⊢
  have hb := body (p, l, e, rm, s, m, av.toArray, below, meth, c, vx_MQ below (Qt B D E P) (Xt B D E X) av.toArray s rm.cells rm.slots (fun q : Nat => B ≤ q))
    ⟨B0.exec, B0.bytes, hml, hown, fun w hw => hts w (List.mem_cons_of_mem _ hw), rfl, hK, hZ, hst, B0.notSynchronized, hB⟩ ⟨rfl, B0.returns⟩ htab
  exact hb s.heap [] ls hP va_S.rf (by rw [← hml] at hl; exact hl)
/-! ===== ends ===== -/
section R3
variable {a : Ax} {B : Nat} {D : va_G} {E : Nat → ClassId} {own : String} {cc : ByteArray} {nL : Nat} {rm : Room} {μ : Mm} {k n pc : Nat} {lv : List (Nat × Value)} {P : Pv} {X : Px} {mc ms : Nat}
theorem Rt.end {ret : Option FieldType} (r : Rt a B D E ret P X mc ms) (hk : k ≤ mc) (hn : n ≤ ms) {H : Heap} {locs : List Loc} {g : JFrame}
    (q : W (axP a) (axL a) (axE a) (axR a) (axS a) (axM a) (axA a) (axB a) (axF a) (axC a) H locs mc ms (MQ (axB a) (Qt B D E P) (axA a) (axS a) mc ms (fun q : Nat => B ≤ q)) g) : W (axP a) (axL a) (axE a) (axR a) (axS a) (axM a) (axA a) (axB a) (axF a) (axC a) H locs k n (axQ a) g := by
  rw [r.1]
  exact W.widen hk hn (vx_ret q)
theorem v_iret (h : Ac a B D E own cc nL rm) (r : Rt a B D E (some .int) P X mc ms) {z : Int} (d : decode cc pc = .ok (.ireturn, 1)) (hk : k ≤ mc) (hn : n ≤ ms) (p : P (some (iI z)) μ) : VV a B (SP B D E μ) k n pc lv [iI z] := fun H locs ls a1 a2 _ =>
  r.end hk hn (W.iret h.exec h.bytes r.2 (fun t ht _ => ⟨⟨_, μ, rfl, p, by rw [ht]; exact a1⟩, a2.F ht⟩) a2.2.2 d (hlocks := h.unlocked))
theorem v_zret (h : Ac a B D E own cc nL rm) (r : Rt a B D E (some .boolean) P X mc ms) {z : Int} (d : decode cc pc = .ok (.ireturn, 1)) (hk : k ≤ mc) (hn : n ≤ ms) (hz : z = 0 ∨ z = 1) (p : P (some (iI z)) μ) : VV a B (SP B D E μ) k n pc lv [iI z] := fun H locs ls a1 a2 _ =>
  r.end hk hn (W.zret h.exec h.bytes r.2 (by rcases hz with rfl | rfl <;> rfl) (fun t ht _ => ⟨⟨_, μ, rfl, p, by rw [ht]; exact a1⟩, a2.F ht⟩) a2.2.2 d (hlocks := h.unlocked))
theorem v_lret (h : Ac a B D E own cc nL rm) (r : Rt a B D E (some .long) P X mc ms) {z : Int} (d : decode cc pc = .ok (.lreturn, 1)) (hk : k ≤ mc) (hn : n ≤ ms) (p : P (some (iL z)) μ) : VV a B (SP B D E μ) k n pc lv [iL z] := fun H locs ls a1 a2 _ =>
  r.end hk hn (W.lret h.exec h.bytes r.2 (fun t ht _ => ⟨⟨_, μ, rfl, p, by rw [ht]; exact a1⟩, a2.F ht⟩) a2.2.2 d (hlocks := h.unlocked))
theorem v_vret (h : Ac a B D E own cc nL rm) (r : Rt a B D E none P X mc ms) (d : decode cc pc = .ok (.return_, 1)) (hk : k ≤ mc) (hn : n ≤ ms) (p : P none μ) : VV a B (SP B D E μ) k n pc lv [] := fun H locs ls a1 a2 _ =>
  r.end hk hn (W.vret h.exec h.bytes r.2 (fun t ht _ => ⟨⟨_, μ, rfl, p, by rw [ht]; exact a1⟩, a2.F ht⟩) a2.2.2 d (hlocks := h.unlocked))
theorem v_aret (h : Ac a B D E own cc nL rm) {x : Nat} {rt : String} (r : Rt a B D E (some (.object rt)) P X mc ms) (d : decode cc pc = .ok (.areturn, 1)) (hk : k ≤ mc) (hn : n ≤ ms) (p : P (some (.ref x)) μ) : VV a B (SP B D E μ) k n pc lv [.ref x] := fun H locs ls a1 a2 _ =>
  r.end hk hn (W.aret h.exec h.bytes r.2 (Or.inl ⟨rt, rfl⟩) (Or.inr ⟨x, rfl⟩) (fun t ht _ => ⟨⟨_, μ, rfl, p, by rw [ht]; exact a1⟩, a2.F ht⟩) a2.2.2 d (hlocks := h.unlocked))
/-- an exception of the class e is on its way, at pc -/
def VX (a : Ax) (B : Nat) (P : Heap → Prop) (k n pc : Nat) (e : String) (lv : List (Nat × Value)) (st : List Value) : Prop :=
  ∀ (H : Heap) (locs : List Loc) (ls : Array Slot) (q : Addr) (ce : Cell), P H → va_S (fun q : Nat => B ≤ q) (axS a).heap H locs → lv_has ls (axC a).maxLocals lv → H[q]? = some ce → ce.vm = .none → (axS a).vm.findClass e = some ce.cls →
    vx_W (axP a) (axL a) (axE a) (axR a) (axS a) (axM a) (axA a) (axB a) (axF a) (axC a) H locs k n (axQ a) (F0 (axM a) pc ls st) q
theorem v_out {ret : Option FieldType} {st : List Value} {e : String} (h : Ac a B D E own cc nL rm) (r : Rt a B D E ret P X mc ms) (t : noTab a) (hk : k ≤ mc) (hn : n ≤ ms) (x : X e μ) : VX a B (SP B D E μ) k n pc e lv st := fun H locs ls q ce a1 a2 _ a4 a5 a6 => by
  rw [r.1]
  exact vx_out (E := e) (fun y hy => (t y hy).elim) h.unlocked a4 a5 a6 (fun t' ht _ => ⟨⟨μ, x, by rw [ht]; exact a1⟩, a2.F ht⟩) a2.2.2 hk hn
end R3
end
section
/-! ===== calls ===== -/
/-- what the words say of a virtual method: its class's number, how many arguments -/
def KV (ci : Nat) (C : String) (T : u_T) (N : Nat) (y : MethodName) (bytes : ByteArray) (maxL : Nat) (ret : Option FieldType) (m : Nat) : Prop :=
  vwCl[ci]? = some (C, T, N) ∧ (Cond.instanceMethod y ∈ TS ∧ Cond.selects C y y ∈ TS ∧ Cond.initialized C ∈ TS ∧ Cond.code y bytes maxL ret ∈ TS) ∧ (y.cls = C ∧ y.cls ≠ "java/lang/invoke/MethodHandle" ∧ y.cls ≠ "java/lang/invoke/VarHandle" ∧ (parseMethodDescriptor y.desc).map (fun d => d.parameters.length) = some m)
def KS (C : String) (y : MethodName) (bytes : ByteArray) (maxL : Nat) (ret : Option FieldType) (m : Nat) : Prop :=
  (Cond.static y ∈ TS ∧ Cond.initialized C ∈ TS ∧ Cond.code y bytes maxL ret ∈ TS) ∧ (y.cls = C ∧ y.cls ≠ "java/lang/invoke/MethodHandle" ∧ y.cls ≠ "java/lang/invoke/VarHandle" ∧ (parseMethodDescriptor y.desc).map (fun d => d.parameters.length) = some m)
/-- room for a callee's -/
def RM (rm r : Room) (k n maxL : Nat) : Prop := (r.frames + 1 ≤ rm.frames ∧ 8 + (maxL + 11) + r.locals ≤ rm.locals) ∧ k + r.cells ≤ rm.cells ∧ n + r.slots ≤ rm.slots
def rmb (rm r : Room) (k n maxL : Nat) : Bool := Nat.ble (r.frames + 1) rm.frames && (Nat.ble (8 + (maxL + 11) + r.locals) rm.locals && (Nat.ble (k + r.cells) rm.cells && Nat.ble (n + r.slots) rm.slots))
theorem RM.of {rm r : Room} {k n maxL : Nat} (h : rmb rm r k n maxL = true) : RM rm r k n maxL := by
  simp only [rmb, Bool.and_eq_true] at h
  exact ⟨⟨Nat.le_of_ble_eq_true h.1, Nat.le_of_ble_eq_true h.2.1⟩, Nat.le_of_ble_eq_true h.2.2.1, Nat.le_of_ble_eq_true h.2.2.2⟩
theorem Ent.blind {B : Nat} {D : va_G} {E : Nat → ClassId} {μ : Mm} {av : List Value} : FrameBlind (va_Pc av (Ent B D E μ)) := fun _ U g mk q =>
  ⟨q.1, q.2.1, va_K.moved (u := U) (U := U.calling g mk _) (Vm.Alike.refl U.vm) q.2.2.1, q.2.2.2.1, q.2.2.2.2⟩
section R4
variable {a : Ax} {B : Nat} {D : va_G} {E : Nat → ClassId} {own : String} {cc : ByteArray} {nL : Nat} {rm : Room} {μ : Mm} {k n pc : Nat} {lv : List (Nat × Value)} {rest st : List Value}
theorem Ac.ent (h : Ac a B D E own cc nL rm) {H : Heap} {locs : List Loc} (a1 : SP B D E μ H) (a2 : va_S (fun q : Nat => B ≤ q) (axS a).heap H locs) {U : State} (hU : U.heap = H) (hW : (axS a).WarmedH U.vm) : Ent B D E μ U :=
  ⟨by rw [hU]; exact a1, va_K.moved hW.alike h.known, h.zx.go a2 hU hW, by rw [hU]; exact Nat.le_trans h.base a2.1⟩
/-- a virtual call; what it returns, and what it throws -/
theorem v_callVX (h : Ac a B D E own cc nL rm) {C : String} {T : u_T} {N ci o m index maxL : Nat} {fs : List (Option Nat)} {y : MethodName} {bytes : ByteArray} {ret : Option FieldType} {r : Room} {As : List Value} {P : Pv} {X : Px}
    (hM : Ct (axL a) B D E y (.code y bytes maxL ret) r (.ref (B + o) :: As) μ P X) (kv : KV ci C T N y bytes maxL ret m) (sh : shapes[o]? = some (.inl (ci, fs))) (w : Cond.methodLink own index y ∈ TS) (hst : st = As.reverse ++ .ref (B + o) :: rest) (hm : As.length = m) (hcat : (rest.map fun v => v.category).sum ≤ 8) (hR : RM rm r k n maxL) (d : decode cc pc = .ok (.invokevirtual index, 3))
    (kx : ∀ (e : String) (μ' : Mm), X e μ' → VX a B (SP B D E μ') (k + r.cells) (n + r.slots) pc e lv rest)
    (q : ∀ (v : Option Value) (μ' : Mm), P v μ' → VV a B (SP B D E μ') (k + r.cells) (n + r.slots) (pc + 3) lv (v.toList ++ rest)) : VV a B (SP B D E μ) k n pc lv st := by
  intro H locs ls a1 a2 a3 T0 hT X0
  have hr := h.room
  obtain ⟨hci, ⟨w1, w2, w3, w4⟩, hd⟩ := kv
  have hG : GoodIn TS (wsV own index C y (Cond.code y bytes maxL ret :: TS)) := by
    intro z hz
    have hm : z ∈ TS := by
      rcases List.mem_append.mp hz with hz | hz
      · rcases List.mem_cons.mp hz with e | hz
        · rw [e]; exact w
        · rcases List.mem_cons.mp hz with e | hz
          · rw [e]; exact w1
          · rcases List.mem_cons.mp hz with e | hz
            · rw [e]; exact w2
            · rw [List.mem_singleton.mp hz]; exact w3
      · rcases List.mem_cons.mp hz with e | hz
        · rw [e]; exact w4
        · exact hz
    exact ts_self z hm
  have hrun := vx_runV (e := axE a) (below := axB a) (meth := axF a) (R := axR a) (g := F0 (axM a) pc ls st) (rest := rest) (n := m) (cells := k) (slots := n) (locs := locs) (H := H) h.fix hM (cwV m h.hts hG rfl rfl rfl hd (by rw [hr]; exact hR.1))
    ⟨Ent.blind, va_recv h.known a1 hci (wsm_get sh), fun U hU hW => ⟨rfl, h.ent a1 a2 hU hW⟩⟩ rfl hm (by rw [← h.maxl]; exact a3.1) hst (lv_room hcat) d (by rw [hr]; exact hR.2)
  rcases hrun T0 hT X0 with ⟨v, st₀, t, T', L, h0, X', hL, e1, e2, ⟨⟨v', μ', hv, hp, hP1⟩, hF⟩, stp⟩ | ⟨q9, st₀, t, T', L, e, ce, h0, X', hL, e1, e2, ⟨⟨μ', hx, hP1⟩, hF⟩, hce, hcv, hcl, stp⟩
  · cases hv
    obtain ⟨-, -, k3⟩ := vx_keep h0 e1 a2 (fun _ _ z => z) (fun _ z => z) hL hF
    obtain ⟨t2, b1, b2⟩ := q v μ' hp T'.heap (locs ++ L) ls (by rw [e1]; exact hP1) k3 a3 T' rfl X'
    exact ⟨t2, stp t2 b1, b2⟩
  · obtain ⟨-, -, k3⟩ := vx_keep h0 e1 a2 (fun _ _ z => z) (fun _ z => z) hL hF
    obtain ⟨t2, b1, b2⟩ := kx e μ' hx T'.heap (locs ++ L) ls q9 ce (by rw [e1]; exact hP1) k3 a3 (by rw [e1]; exact hce) hcv hcl T' rfl X'
    exact ⟨t2, stp.trans b1, b2⟩
theorem v_callV (h : Ac a B D E own cc nL rm) {C : String} {T : u_T} {N ci o m index maxL : Nat} {fs : List (Option Nat)} {y : MethodName} {bytes : ByteArray} {ret : Option FieldType} {r : Room} {As : List Value} {P : Pv}
    (hM : Ct (axL a) B D E y (.code y bytes maxL ret) r (.ref (B + o) :: As) μ P NX) (kv : KV ci C T N y bytes maxL ret m) (sh : shapes[o]? = some (.inl (ci, fs))) (w : Cond.methodLink own index y ∈ TS) (hst : st = As.reverse ++ .ref (B + o) :: rest) (hm : As.length = m) (hcat : (rest.map fun v => v.category).sum ≤ 8) (hR : RM rm r k n maxL) (d : decode cc pc = .ok (.invokevirtual index, 3))
    (q : ∀ (v : Option Value) (μ' : Mm), P v μ' → VV a B (SP B D E μ') (k + r.cells) (n + r.slots) (pc + 3) lv (v.toList ++ rest)) : VV a B (SP B D E μ) k n pc lv st :=
  v_callVX h hM kv sh w hst hm hcat hR d (fun _ _ z => z.elim) q
/-- .. of a method of which it is known what it returns, and that makes nothing -/
theorem v_callVi (h : Ac a B D E own cc nL rm) {C : String} {T : u_T} {N ci o m index maxL : Nat} {fs : List (Option Nat)} {y : MethodName} {bytes : ByteArray} {ret : Option FieldType} {r : Room} {As : List Value} {v : Value} {μ' : Mm}
    (hM : Ct (axL a) B D E y (.code y bytes maxL ret) r (.ref (B + o) :: As) μ (dr (some v) μ') NX) (kv : KV ci C T N y bytes maxL ret m) (sh : shapes[o]? = some (.inl (ci, fs))) (w : Cond.methodLink own index y ∈ TS) (hst : st = As.reverse ++ .ref (B + o) :: rest) (hm : As.length = m) (hcat : (rest.map fun v => v.category).sum ≤ 8) (hR : RM rm r k n maxL) (d : decode cc pc = .ok (.invokevirtual index, 3))
    (q : VV a B (SP B D E μ') (k + r.cells) (n + r.slots) (pc + 3) lv (v :: rest)) : VV a B (SP B D E μ) k n pc lv st :=
  v_callV h hM kv sh w hst hm hcat hR d (fun _ _ z => by obtain ⟨rfl, rfl⟩ := z; exact q)
theorem v_callVv (h : Ac a B D E own cc nL rm) {C : String} {T : u_T} {N ci o m index maxL : Nat} {fs : List (Option Nat)} {y : MethodName} {bytes : ByteArray} {ret : Option FieldType} {r : Room} {As : List Value} {μ' : Mm}
    (hM : Ct (axL a) B D E y (.code y bytes maxL ret) r (.ref (B + o) :: As) μ (dr none μ') NX) (kv : KV ci C T N y bytes maxL ret m) (sh : shapes[o]? = some (.inl (ci, fs))) (w : Cond.methodLink own index y ∈ TS) (hst : st = As.reverse ++ .ref (B + o) :: rest) (hm : As.length = m) (hcat : (rest.map fun v => v.category).sum ≤ 8) (hR : RM rm r k n maxL) (d : decode cc pc = .ok (.invokevirtual index, 3))
    (q : VV a B (SP B D E μ') (k + r.cells) (n + r.slots) (pc + 3) lv rest) : VV a B (SP B D E μ) k n pc lv st :=
  v_callV h hM kv sh w hst hm hcat hR d (fun _ _ z => by obtain ⟨rfl, rfl⟩ := z; exact q)
/-- a static call within the class -/
theorem v_callS (h : Ac a B D E own cc nL rm) {m index maxL : Nat} {y : MethodName} {bytes : ByteArray} {ret : Option FieldType} {r : Room} {As : List Value} {P : Pv}
    (hM : Ct (axL a) B D E y (.code y bytes maxL ret) r As μ P NX) (kv : KS own y bytes maxL ret m) (w : Cond.methodLink own index y ∈ TS) (hst : st = As.reverse ++ rest) (hm : As.length = m) (hcat : (rest.map fun v => v.category).sum ≤ 8) (hR : RM rm r k n maxL) (d : decode cc pc = .ok (.invokestatic index, 3))
    (q : ∀ (v : Option Value) (μ' : Mm), P v μ' → VV a B (SP B D E μ') (k + r.cells) (n + r.slots) (pc + 3) lv (v.toList ++ rest)) : VV a B (SP B D E μ) k n pc lv st := by
  intro H locs ls a1 a2 a3 T0 hT X0
  have hr := h.room
  obtain ⟨⟨w1, w3, w4⟩, hd⟩ := kv
  have hG : GoodIn TS (wsS own index y (Cond.code y bytes maxL ret :: TS)) := by
    intro z hz
    have hm : z ∈ TS := by
      rcases List.mem_append.mp hz with hz | hz
      · rcases List.mem_cons.mp hz with e | hz
        · rw [e]; exact w
        · rcases List.mem_cons.mp hz with e | hz
          · rw [e]; exact w1
          · rw [List.mem_singleton.mp hz]; exact w3
      · rcases List.mem_cons.mp hz with e | hz
        · rw [e]; exact w4
        · exact hz
    exact ts_self z hm
  have hrun := vx_runS (e := axE a) (below := axB a) (meth := axF a) (R := axR a) (g := F0 (axM a) pc ls st) (rest := rest) (n := m) (cells := k) (slots := n) (locs := locs) (H := H) h.fix hM (cwS m h.hts hG rfl rfl rfl hd (by rw [hr]; exact hR.1))
    ⟨Ent.blind, fun U hU hW => ⟨rfl, h.ent a1 a2 hU hW⟩⟩ rfl hm (by rw [← h.maxl]; exact a3.1) hst (lv_room hcat) d (by rw [hr]; exact hR.2)
  rcases hrun T0 hT X0 with ⟨v, st₀, t, T', L, h0, X', hL, e1, e2, ⟨⟨v', μ', hv, hp, hP1⟩, hF⟩, stp⟩ | ⟨q9, st₀, t, T', L, e, ce, h0, X', hL, e1, e2, ⟨⟨μ', hx, hP1⟩, hF⟩, hce, hcv, hcl, stp⟩
  · cases hv
    obtain ⟨-, -, k3⟩ := vx_keep h0 e1 a2 (fun _ _ z => z) (fun _ z => z) hL hF
    obtain ⟨t2, b1, b2⟩ := q v μ' hp T'.heap (locs ++ L) ls (by rw [e1]; exact hP1) k3 a3 T' rfl X'
    exact ⟨t2, stp t2 b1, b2⟩
  · exact hx.elim
theorem v_callSi (h : Ac a B D E own cc nL rm) {m index maxL : Nat} {y : MethodName} {bytes : ByteArray} {ret : Option FieldType} {r : Room} {As : List Value} {v : Value} {μ' : Mm}
    (hM : Ct (axL a) B D E y (.code y bytes maxL ret) r As μ (dr (some v) μ') NX) (kv : KS own y bytes maxL ret m) (w : Cond.methodLink own index y ∈ TS) (hst : st = As.reverse ++ rest) (hm : As.length = m) (hcat : (rest.map fun v => v.category).sum ≤ 8) (hR : RM rm r k n maxL) (d : decode cc pc = .ok (.invokestatic index, 3))
    (q : VV a B (SP B D E μ') (k + r.cells) (n + r.slots) (pc + 3) lv (v :: rest)) : VV a B (SP B D E μ) k n pc lv st :=
  v_callS h hM kv w hst hm hcat hR d (fun _ _ z => by obtain ⟨rfl, rfl⟩ := z; exact q)
/-- Math.max, Math.min -/
def KM (y : MethodName) (bytes : ByteArray) : Prop := Cond.static y ∈ TS ∧ Cond.initialized "java/lang/Math" ∈ TS ∧ Cond.code y bytes 2 (some .int) ∈ TS
theorem v_max (h : Ac a B D E own cc nL rm) {index : Nat} {x y : Int} {P : Heap → Prop} (km : KM Lib.Math.max.name Lib.Math.max.code) (w : Cond.methodLink own index Lib.Math.max.name ∈ TS) (hx : InR x ∧ InR y) (hcat : (rest.map fun v => v.category).sum ≤ 8) (hf : 1 ≤ rm.frames ∧ 21 ≤ rm.locals ∧ k ≤ rm.cells ∧ n ≤ rm.slots) (d : decode cc pc = .ok (.invokestatic index, 3))
    (q : VV a B P k n (pc + 3) lv (iI (if x < y then y else x) :: rest)) : VV a B P k n pc lv (iI y :: iI x :: rest) := fun H locs ls a1 a2 a3 => by
  have hr := h.room
  refine va_mmax h.exec h.bytes a3.1.symm h.cls (h.hts _ w) (h.hts _ km.1) (h.hts _ km.2.1) (h.hts _ km.2.2) (by rw [hr]; exact hf.1) (by rw [hr]; omega) (by rw [hr]; exact hf.2.2.1) (by rw [hr]; exact hf.2.2.2) d ?_
  have e : (if Int32.ofInt x < Int32.ofInt y then Int32.ofInt y else Int32.ofInt x) = Int32.ofInt (if x < y then y else x) := by
    by_cases c : x < y
    · rw [if_pos c, if_pos ((iI_lt hx.1 hx.2).mpr c)]
    · rw [if_neg c, if_neg (fun z => c ((iI_lt hx.1 hx.2).mp z))]
  rw [e]
  exact q H locs ls a1 a2 a3
theorem v_min (h : Ac a B D E own cc nL rm) {index : Nat} {x y : Int} {P : Heap → Prop} (km : KM Lib.Math.min.name Lib.Math.min.code) (w : Cond.methodLink own index Lib.Math.min.name ∈ TS) (hx : InR x ∧ InR y) (hcat : (rest.map fun v => v.category).sum ≤ 8) (hf : 1 ≤ rm.frames ∧ 21 ≤ rm.locals ∧ k ≤ rm.cells ∧ n ≤ rm.slots) (d : decode cc pc = .ok (.invokestatic index, 3))
    (q : VV a B P k n (pc + 3) lv (iI (if y < x then y else x) :: rest)) : VV a B P k n pc lv (iI y :: iI x :: rest) := fun H locs ls a1 a2 a3 => by
  have hr := h.room
  refine va_mmin h.exec h.bytes a3.1.symm h.cls (h.hts _ w) (h.hts _ km.1) (h.hts _ km.2.1) (h.hts _ km.2.2) (by rw [hr]; exact hf.1) (by rw [hr]; omega) (by rw [hr]; exact hf.2.2.1) (by rw [hr]; exact hf.2.2.2) d ?_
  have e : (if Int32.ofInt y < Int32.ofInt x then Int32.ofInt y else Int32.ofInt x) = Int32.ofInt (if y < x then y else x) := by
    by_cases c : y < x
    · rw [if_pos c, if_pos ((iI_lt hx.2 hx.1).mpr c)]
    · rw [if_neg c, if_neg (fun z => c ((iI_lt hx.2 hx.1).mp z))]
  rw [e]
  exact q H locs ls a1 a2 a3
/-- what 'throw new e()' wants of the words, but those that speak of castables -/
def KT (own : String) (ik ic : Nat) (e : String) (names : List String) : Prop :=
  (Bundle.fit e = true ∧ ∀ z ∈ names, Bundle.fit z = true) ∧ (Cond.classLink own ik e ∈ TS ∧ Cond.initialized e ∈ TS) ∧ (∀ w ∈ (vx_at0 own ic e names).filter goodWord, w ∈ TS) ∧ (∀ w ∈ (vx_at0 own ic e names).filter (fun w => !goodWord w), w = .castable e e) ∧ (e, e) ∈ xcl ∧ (∀ w ∈ Cond.classLink own ik e :: Cond.initialized e :: vx_at0 own ic e names, vx_ot w = true)
theorem v_throw (h : Ac a B D E own cc nL rm) {ret : Option FieldType} {P : Pv} {X : Px} {mc ms : Nat} {e : String} {names : List String} {ik ic : Nat} (r : Rt a B D E ret P X mc ms) (t : noTab a) (kt : KT own ik ic e names)
    (d0 : decode cc pc = .ok (.new ik, 3)) (d3 : decode cc (pc + 3) = .ok (.dup, 1)) (d4 : decode cc (pc + 4) = .ok (.invokespecial ic, 3)) (d7 : decode cc (pc + 7) = .ok (.athrow, 1))
    (hf : names.length + 3 < rm.frames ∧ 8 + (13 * (names.length + 1) + 42) ≤ rm.locals ∧ k + 1 ≤ rm.cells ∧ n + 6 ≤ rm.slots) (hcat : (rest.map fun v => v.category).sum ≤ 8) (hk : k + 1 ≤ mc) (hn : n + 6 ≤ ms) (x : X e μ) : VV a B (SP B D E μ) k n pc lv rest := fun H locs ls a1 a2 a3 => by
  have hr := h.room
  obtain ⟨⟨f1, f2⟩, ⟨w1, w2⟩, w3, w4, w5, w6⟩ := kt
  have hall : ∀ w ∈ vx_at0 own ic e names, w.before (axA a) (axS a) = true := by
    intro w hw
    by_cases hg : goodWord w = true
    · exact h.hts _ (w3 w (List.mem_filter.mpr ⟨hw, hg⟩))
    · rw [w4 w (List.mem_filter.mpr ⟨hw, by simpa using hg⟩)]
      exact va_Nw.use rfl (h.zx.2.2.1 _ w5)
  rw [r.1]
  exact vx_throw0 (A := fun q : Nat => B ≤ q) h.exec h.bytes h.quiet h.cls f1 f2 (h.hts _ w1) (h.hts _ w2) hall w6 h.zx.1 h.zx.2.1 a2 a3.1 d0 d3 d4 d7 (fun y hy => (t y hy).elim)
    (by rw [hr]; exact hf.1) (by rw [hr]; omega) (by rw [hr]; exact hf.2.2.1) (by rw [hr]; exact hf.2.2.2) h.unlocked
    (fun t' _ z1 z2 => ⟨⟨μ, x, va_P.kept a1 (fun j q hj => z2 q.1 ((a1 j q hj).lt))⟩, ⟨Nat.le_trans a2.1 z1, fun q b1 b2 => (z2 q (Nat.lt_of_lt_of_le b1 a2.1)).trans (a2.2.1 q b1 b2)⟩⟩) a2.2.2 hk hn
end R4
end
