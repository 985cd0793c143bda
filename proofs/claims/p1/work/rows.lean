section
-- ===== PART A: goes FIRST, ahead of the names: the tables' words, and 'selects' of the private methods out of them =====
/-- a private method of a class that the tables say can be made, by its rows of tables_1 -/
def lw_okq (q : MethodName × Nat) : Prop := (q.1.cls ≠ "java/lang/invoke/MethodHandle" ∧ q.1.cls ≠ "java/lang/invoke/VarHandle") ∧ Cond.instantiable q.1.cls q.2 ∈ tables_1 ∧ Cond.privateMethod q.1 ∈ tables_1 ∧ Cond.instanceMethod q.1 ∈ tables_1
theorem lw_p0 : lw_okq (⟨"java/util/ArrayList", "add", "(Ljava/lang/Object;[Ljava/lang/Object;I)V"⟩, 3) := ⟨⟨by decide +kernel, by decide +kernel⟩, List.mem_of_getElem? (i := 107) (by decide +kernel), List.mem_of_getElem? (i := 706) (by decide +kernel), List.mem_of_getElem? (i := 707) (by decide +kernel)⟩
theorem lw_p1 : lw_okq (⟨"java/util/ArrayList", "grow", "()[Ljava/lang/Object;"⟩, 3) := ⟨⟨by decide +kernel, by decide +kernel⟩, List.mem_of_getElem? (i := 107) (by decide +kernel), List.mem_of_getElem? (i := 710) (by decide +kernel), List.mem_of_getElem? (i := 711) (by decide +kernel)⟩
theorem lw_p2 : lw_okq (⟨"java/util/ArrayList", "grow", "(I)[Ljava/lang/Object;"⟩, 3) := ⟨⟨by decide +kernel, by decide +kernel⟩, List.mem_of_getElem? (i := 107) (by decide +kernel), List.mem_of_getElem? (i := 714) (by decide +kernel), List.mem_of_getElem? (i := 715) (by decide +kernel)⟩
theorem lw_p3 : lw_okq (⟨"EdgeHouse", "close", "(LEdgeHouse$Reply;I)V"⟩, 15) := ⟨⟨by decide +kernel, by decide +kernel⟩, List.mem_of_getElem? (i := 37) (by decide +kernel), List.mem_of_getElem? (i := 767) (by decide +kernel), List.mem_of_getElem? (i := 768) (by decide +kernel)⟩
theorem lw_p4 : lw_okq (⟨"EdgeHouse", "ringNode", "(IIIILEdgeHouse$Node;)I"⟩, 15) := ⟨⟨by decide +kernel, by decide +kernel⟩, List.mem_of_getElem? (i := 37) (by decide +kernel), List.mem_of_getElem? (i := 771) (by decide +kernel), List.mem_of_getElem? (i := 772) (by decide +kernel)⟩
theorem lw_p5 : lw_okq (⟨"EdgeHouse", "look", "(LEdgeHouse$Node;LEdgeHouse$Request;)V"⟩, 15) := ⟨⟨by decide +kernel, by decide +kernel⟩, List.mem_of_getElem? (i := 37) (by decide +kernel), List.mem_of_getElem? (i := 781) (by decide +kernel), List.mem_of_getElem? (i := 782) (by decide +kernel)⟩
theorem lw_p6 : lw_okq (⟨"java/util/ArrayList", "fastRemove", "([Ljava/lang/Object;I)V"⟩, 3) := ⟨⟨by decide +kernel, by decide +kernel⟩, List.mem_of_getElem? (i := 107) (by decide +kernel), List.mem_of_getElem? (i := 879) (by decide +kernel), List.mem_of_getElem? (i := 880) (by decide +kernel)⟩
theorem lw_p7 : lw_okq (⟨"EdgeHouse", "serve", "(LEdgeHouse$Node;LEdgeHouse$Request;LEdgeHouse$Entry;I)V"⟩, 15) := ⟨⟨by decide +kernel, by decide +kernel⟩, List.mem_of_getElem? (i := 37) (by decide +kernel), List.mem_of_getElem? (i := 907) (by decide +kernel), List.mem_of_getElem? (i := 908) (by decide +kernel)⟩
theorem lw_p8 : lw_okq (⟨"EdgeHouse", "sendFill", "(ILEdgeHouse$Request;LEdgeHouse$Entry;)V"⟩, 15) := ⟨⟨by decide +kernel, by decide +kernel⟩, List.mem_of_getElem? (i := 37) (by decide +kernel), List.mem_of_getElem? (i := 911) (by decide +kernel), List.mem_of_getElem? (i := 912) (by decide +kernel)⟩
theorem lw_p9 : lw_okq (⟨"EdgeHouse", "send", "(LEdgeHouse$Message;)V"⟩, 15) := ⟨⟨by decide +kernel, by decide +kernel⟩, List.mem_of_getElem? (i := 37) (by decide +kernel), List.mem_of_getElem? (i := 1002) (by decide +kernel), List.mem_of_getElem? (i := 1003) (by decide +kernel)⟩
theorem lw_p10 : lw_okq (⟨"EdgeHouse", "sendFetch", "(LEdgeHouse$Node;LEdgeHouse$Fetch;)Z"⟩, 15) := ⟨⟨by decide +kernel, by decide +kernel⟩, List.mem_of_getElem? (i := 37) (by decide +kernel), List.mem_of_getElem? (i := 1099) (by decide +kernel), List.mem_of_getElem? (i := 1100) (by decide +kernel)⟩
theorem lw_p11 : lw_okq (⟨"EdgeHouse", "endAll", "(LEdgeHouse$Node;LEdgeHouse$Request;I)V"⟩, 15) := ⟨⟨by decide +kernel, by decide +kernel⟩, List.mem_of_getElem? (i := 37) (by decide +kernel), List.mem_of_getElem? (i := 1121) (by decide +kernel), List.mem_of_getElem? (i := 1122) (by decide +kernel)⟩
theorem lw_p12 : lw_okq (⟨"EdgeHouse", "sendStatus", "(ILEdgeHouse$Request;I)V"⟩, 15) := ⟨⟨by decide +kernel, by decide +kernel⟩, List.mem_of_getElem? (i := 37) (by decide +kernel), List.mem_of_getElem? (i := 1125) (by decide +kernel), List.mem_of_getElem? (i := 1126) (by decide +kernel)⟩
theorem lw_p13 : lw_okq (⟨"EdgeHouse", "letWait", "(LEdgeHouse$Node;LEdgeHouse$Request;I)LEdgeHouse$Fetch;"⟩, 15) := ⟨⟨by decide +kernel, by decide +kernel⟩, List.mem_of_getElem? (i := 37) (by decide +kernel), List.mem_of_getElem? (i := 1129) (by decide +kernel), List.mem_of_getElem? (i := 1130) (by decide +kernel)⟩
theorem lw_p14 : lw_okq (⟨"EdgeHouse", "failAll", "(LEdgeHouse$Node;LEdgeHouse$Request;)V"⟩, 15) := ⟨⟨by decide +kernel, by decide +kernel⟩, List.mem_of_getElem? (i := 37) (by decide +kernel), List.mem_of_getElem? (i := 1144) (by decide +kernel), List.mem_of_getElem? (i := 1145) (by decide +kernel)⟩
theorem lw_p15 : lw_okq (⟨"EdgeHouse", "carry", "(LEdgeHouse$Message;)V"⟩, 15) := ⟨⟨by decide +kernel, by decide +kernel⟩, List.mem_of_getElem? (i := 37) (by decide +kernel), List.mem_of_getElem? (i := 1168) (by decide +kernel), List.mem_of_getElem? (i := 1169) (by decide +kernel)⟩
def lw_privs_1 : List (MethodName × Nat) := [(⟨"java/util/ArrayList", "add", "(Ljava/lang/Object;[Ljava/lang/Object;I)V"⟩, 3), (⟨"java/util/ArrayList", "grow", "()[Ljava/lang/Object;"⟩, 3), (⟨"java/util/ArrayList", "grow", "(I)[Ljava/lang/Object;"⟩, 3), (⟨"EdgeHouse", "close", "(LEdgeHouse$Reply;I)V"⟩, 15), (⟨"EdgeHouse", "ringNode", "(IIIILEdgeHouse$Node;)I"⟩, 15), (⟨"EdgeHouse", "look", "(LEdgeHouse$Node;LEdgeHouse$Request;)V"⟩, 15), (⟨"java/util/ArrayList", "fastRemove", "([Ljava/lang/Object;I)V"⟩, 3), (⟨"EdgeHouse", "serve", "(LEdgeHouse$Node;LEdgeHouse$Request;LEdgeHouse$Entry;I)V"⟩, 15), (⟨"EdgeHouse", "sendFill", "(ILEdgeHouse$Request;LEdgeHouse$Entry;)V"⟩, 15), (⟨"EdgeHouse", "send", "(LEdgeHouse$Message;)V"⟩, 15), (⟨"EdgeHouse", "sendFetch", "(LEdgeHouse$Node;LEdgeHouse$Fetch;)Z"⟩, 15), (⟨"EdgeHouse", "endAll", "(LEdgeHouse$Node;LEdgeHouse$Request;I)V"⟩, 15), (⟨"EdgeHouse", "sendStatus", "(ILEdgeHouse$Request;I)V"⟩, 15), (⟨"EdgeHouse", "letWait", "(LEdgeHouse$Node;LEdgeHouse$Request;I)LEdgeHouse$Fetch;"⟩, 15), (⟨"EdgeHouse", "failAll", "(LEdgeHouse$Node;LEdgeHouse$Request;)V"⟩, 15), (⟨"EdgeHouse", "carry", "(LEdgeHouse$Message;)V"⟩, 15)]
theorem lw_r1 : ∀ q ∈ lw_privs_1, lw_okq q := List.forall_mem_cons.mpr ⟨lw_p0, List.forall_mem_cons.mpr ⟨lw_p1, List.forall_mem_cons.mpr ⟨lw_p2, List.forall_mem_cons.mpr ⟨lw_p3, List.forall_mem_cons.mpr ⟨lw_p4, List.forall_mem_cons.mpr ⟨lw_p5, List.forall_mem_cons.mpr ⟨lw_p6, List.forall_mem_cons.mpr ⟨lw_p7, List.forall_mem_cons.mpr ⟨lw_p8, List.forall_mem_cons.mpr ⟨lw_p9, List.forall_mem_cons.mpr ⟨lw_p10, List.forall_mem_cons.mpr ⟨lw_p11, List.forall_mem_cons.mpr ⟨lw_p12, List.forall_mem_cons.mpr ⟨lw_p13, List.forall_mem_cons.mpr ⟨lw_p14, List.forall_mem_cons.mpr ⟨lw_p15, fun _ h => absurd h List.not_mem_nil⟩⟩⟩⟩⟩⟩⟩⟩⟩⟩⟩⟩⟩⟩⟩⟩
theorem lw_p16 : lw_okq (⟨"EdgeHouse", "takeAtOrigin", "(LEdgeHouse$Message;)V"⟩, 15) := ⟨⟨by decide +kernel, by decide +kernel⟩, List.mem_of_getElem? (i := 37) (by decide +kernel), List.mem_of_getElem? (i := 1172) (by decide +kernel), List.mem_of_getElem? (i := 1173) (by decide +kernel)⟩
theorem lw_p17 : lw_okq (⟨"EdgeHouse", "takePurge", "(LEdgeHouse$Node;LEdgeHouse$Message;)V"⟩, 15) := ⟨⟨by decide +kernel, by decide +kernel⟩, List.mem_of_getElem? (i := 37) (by decide +kernel), List.mem_of_getElem? (i := 1242) (by decide +kernel), List.mem_of_getElem? (i := 1243) (by decide +kernel)⟩
theorem lw_p18 : lw_okq (⟨"EdgeHouse", "takeFill", "(LEdgeHouse$Node;LEdgeHouse$Message;)LEdgeHouse$Request;"⟩, 15) := ⟨⟨by decide +kernel, by decide +kernel⟩, List.mem_of_getElem? (i := 37) (by decide +kernel), List.mem_of_getElem? (i := 1263) (by decide +kernel), List.mem_of_getElem? (i := 1264) (by decide +kernel)⟩
theorem lw_p19 : lw_okq (⟨"EdgeHouse", "isRefused", "(LEdgeHouse$Node;LEdgeHouse$Fetch;LEdgeHouse$Message;)Z"⟩, 15) := ⟨⟨by decide +kernel, by decide +kernel⟩, List.mem_of_getElem? (i := 37) (by decide +kernel), List.mem_of_getElem? (i := 1281) (by decide +kernel), List.mem_of_getElem? (i := 1282) (by decide +kernel)⟩
theorem lw_p20 : lw_okq (⟨"EdgeHouse", "isOf", "(ILEdgeHouse$Told;)Z"⟩, 15) := ⟨⟨by decide +kernel, by decide +kernel⟩, List.mem_of_getElem? (i := 37) (by decide +kernel), List.mem_of_getElem? (i := 1289) (by decide +kernel), List.mem_of_getElem? (i := 1290) (by decide +kernel)⟩
theorem lw_p21 : lw_okq (⟨"EdgeHouse", "takeIn", "(LEdgeHouse$Node;LEdgeHouse$Fetch;LEdgeHouse$Message;)LEdgeHouse$Entry;"⟩, 15) := ⟨⟨by decide +kernel, by decide +kernel⟩, List.mem_of_getElem? (i := 37) (by decide +kernel), List.mem_of_getElem? (i := 1298) (by decide +kernel), List.mem_of_getElem? (i := 1299) (by decide +kernel)⟩
theorem lw_p22 : lw_okq (⟨"EdgeHouse", "textOf", "(LEdgeHouse$Reply;)Ljava/lang/String;"⟩, 15) := ⟨⟨by decide +kernel, by decide +kernel⟩, List.mem_of_getElem? (i := 37) (by decide +kernel), List.mem_of_getElem? (i := 1356) (by decide +kernel), List.mem_of_getElem? (i := 1357) (by decide +kernel)⟩
theorem lw_p23 : lw_okq (⟨"java/lang/Throwable", "fillInStackTrace", "(I)Ljava/lang/Throwable;"⟩, 6) := ⟨⟨by decide +kernel, by decide +kernel⟩, List.mem_of_getElem? (i := 1566) (by decide +kernel), List.mem_of_getElem? (i := 1564) (by decide +kernel), List.mem_of_getElem? (i := 1565) (by decide +kernel)⟩
theorem lw_p24 : lw_okq (⟨"EdgeHouse", "endOverdue", "(LEdgeHouse$Node;)V"⟩, 15) := ⟨⟨by decide +kernel, by decide +kernel⟩, List.mem_of_getElem? (i := 37) (by decide +kernel), List.mem_of_getElem? (i := 1852) (by decide +kernel), List.mem_of_getElem? (i := 1853) (by decide +kernel)⟩
theorem lw_p25 : lw_okq (⟨"EdgeHouseModel", "readText", "(Z)Z"⟩, 92) := ⟨⟨by decide +kernel, by decide +kernel⟩, List.mem_of_getElem? (i := 1902) (by decide +kernel), List.mem_of_getElem? (i := 2200) (by decide +kernel), List.mem_of_getElem? (i := 2201) (by decide +kernel)⟩
theorem lw_p26 : lw_okq (⟨"EdgeHouseModel", "see", "()I"⟩, 92) := ⟨⟨by decide +kernel, by decide +kernel⟩, List.mem_of_getElem? (i := 1902) (by decide +kernel), List.mem_of_getElem? (i := 2204) (by decide +kernel), List.mem_of_getElem? (i := 2205) (by decide +kernel)⟩
theorem lw_p27 : lw_okq (⟨"EdgeHouseModel", "expectWord", "(Ljava/lang/String;)Z"⟩, 92) := ⟨⟨by decide +kernel, by decide +kernel⟩, List.mem_of_getElem? (i := 1902) (by decide +kernel), List.mem_of_getElem? (i := 2209) (by decide +kernel), List.mem_of_getElem? (i := 2210) (by decide +kernel)⟩
theorem lw_p28 : lw_okq (⟨"EdgeHouseModel", "expect", "(I)Z"⟩, 92) := ⟨⟨by decide +kernel, by decide +kernel⟩, List.mem_of_getElem? (i := 1902) (by decide +kernel), List.mem_of_getElem? (i := 2215) (by decide +kernel), List.mem_of_getElem? (i := 2216) (by decide +kernel)⟩
theorem lw_p29 : lw_okq (⟨"EdgeHouseModel", "wrong", "(I)Z"⟩, 92) := ⟨⟨by decide +kernel, by decide +kernel⟩, List.mem_of_getElem? (i := 1902) (by decide +kernel), List.mem_of_getElem? (i := 2219) (by decide +kernel), List.mem_of_getElem? (i := 2220) (by decide +kernel)⟩
theorem lw_p30 : lw_okq (⟨"EdgeHouseModel", "target", "(Z)V"⟩, 92) := ⟨⟨by decide +kernel, by decide +kernel⟩, List.mem_of_getElem? (i := 1902) (by decide +kernel), List.mem_of_getElem? (i := 2225) (by decide +kernel), List.mem_of_getElem? (i := 2226) (by decide +kernel)⟩
theorem lw_p31 : lw_okq (⟨"EdgeHouseModel", "number", "(I)I"⟩, 92) := ⟨⟨by decide +kernel, by decide +kernel⟩, List.mem_of_getElem? (i := 1902) (by decide +kernel), List.mem_of_getElem? (i := 2229) (by decide +kernel), List.mem_of_getElem? (i := 2230) (by decide +kernel)⟩
def lw_privs_2 : List (MethodName × Nat) := [(⟨"EdgeHouse", "takeAtOrigin", "(LEdgeHouse$Message;)V"⟩, 15), (⟨"EdgeHouse", "takePurge", "(LEdgeHouse$Node;LEdgeHouse$Message;)V"⟩, 15), (⟨"EdgeHouse", "takeFill", "(LEdgeHouse$Node;LEdgeHouse$Message;)LEdgeHouse$Request;"⟩, 15), (⟨"EdgeHouse", "isRefused", "(LEdgeHouse$Node;LEdgeHouse$Fetch;LEdgeHouse$Message;)Z"⟩, 15), (⟨"EdgeHouse", "isOf", "(ILEdgeHouse$Told;)Z"⟩, 15), (⟨"EdgeHouse", "takeIn", "(LEdgeHouse$Node;LEdgeHouse$Fetch;LEdgeHouse$Message;)LEdgeHouse$Entry;"⟩, 15), (⟨"EdgeHouse", "textOf", "(LEdgeHouse$Reply;)Ljava/lang/String;"⟩, 15), (⟨"java/lang/Throwable", "fillInStackTrace", "(I)Ljava/lang/Throwable;"⟩, 6), (⟨"EdgeHouse", "endOverdue", "(LEdgeHouse$Node;)V"⟩, 15), (⟨"EdgeHouseModel", "readText", "(Z)Z"⟩, 92), (⟨"EdgeHouseModel", "see", "()I"⟩, 92), (⟨"EdgeHouseModel", "expectWord", "(Ljava/lang/String;)Z"⟩, 92), (⟨"EdgeHouseModel", "expect", "(I)Z"⟩, 92), (⟨"EdgeHouseModel", "wrong", "(I)Z"⟩, 92), (⟨"EdgeHouseModel", "target", "(Z)V"⟩, 92), (⟨"EdgeHouseModel", "number", "(I)I"⟩, 92)]
theorem lw_r2 : ∀ q ∈ lw_privs_2, lw_okq q := List.forall_mem_cons.mpr ⟨lw_p16, List.forall_mem_cons.mpr ⟨lw_p17, List.forall_mem_cons.mpr ⟨lw_p18, List.forall_mem_cons.mpr ⟨lw_p19, List.forall_mem_cons.mpr ⟨lw_p20, List.forall_mem_cons.mpr ⟨lw_p21, List.forall_mem_cons.mpr ⟨lw_p22, List.forall_mem_cons.mpr ⟨lw_p23, List.forall_mem_cons.mpr ⟨lw_p24, List.forall_mem_cons.mpr ⟨lw_p25, List.forall_mem_cons.mpr ⟨lw_p26, List.forall_mem_cons.mpr ⟨lw_p27, List.forall_mem_cons.mpr ⟨lw_p28, List.forall_mem_cons.mpr ⟨lw_p29, List.forall_mem_cons.mpr ⟨lw_p30, List.forall_mem_cons.mpr ⟨lw_p31, fun _ h => absurd h List.not_mem_nil⟩⟩⟩⟩⟩⟩⟩⟩⟩⟩⟩⟩⟩⟩⟩⟩
theorem lw_p32 : lw_okq (⟨"EdgeHouseModel", "line", "(Z)V"⟩, 92) := ⟨⟨by decide +kernel, by decide +kernel⟩, List.mem_of_getElem? (i := 1902) (by decide +kernel), List.mem_of_getElem? (i := 2236) (by decide +kernel), List.mem_of_getElem? (i := 2237) (by decide +kernel)⟩
theorem lw_p33 : lw_okq (⟨"EdgeHouseModel", "name", "()Z"⟩, 92) := ⟨⟨by decide +kernel, by decide +kernel⟩, List.mem_of_getElem? (i := 1902) (by decide +kernel), List.mem_of_getElem? (i := 2240) (by decide +kernel), List.mem_of_getElem? (i := 2241) (by decide +kernel)⟩
theorem lw_p34 : lw_okq (⟨"EdgeHouseModel", "isSame", "(IIII)Z"⟩, 92) := ⟨⟨by decide +kernel, by decide +kernel⟩, List.mem_of_getElem? (i := 1902) (by decide +kernel), List.mem_of_getElem? (i := 2247) (by decide +kernel), List.mem_of_getElem? (i := 2248) (by decide +kernel)⟩
theorem lw_p35 : lw_okq (⟨"EdgeHouseModel", "isNamed", "(Ljava/lang/String;)Z"⟩, 92) := ⟨⟨by decide +kernel, by decide +kernel⟩, List.mem_of_getElem? (i := 1902) (by decide +kernel), List.mem_of_getElem? (i := 2252) (by decide +kernel), List.mem_of_getElem? (i := 2253) (by decide +kernel)⟩
theorem lw_p36 : lw_okq (⟨"EdgeHouseModel", "range", "()V"⟩, 92) := ⟨⟨by decide +kernel, by decide +kernel⟩, List.mem_of_getElem? (i := 1902) (by decide +kernel), List.mem_of_getElem? (i := 2256) (by decide +kernel), List.mem_of_getElem? (i := 2257) (by decide +kernel)⟩
theorem lw_p37 : lw_okq (⟨"EdgeHouseModel", "matching", "()V"⟩, 92) := ⟨⟨by decide +kernel, by decide +kernel⟩, List.mem_of_getElem? (i := 1902) (by decide +kernel), List.mem_of_getElem? (i := 2263) (by decide +kernel), List.mem_of_getElem? (i := 2264) (by decide +kernel)⟩
theorem lw_p38 : lw_okq (⟨"EdgeHouseModel", "tag", "()I"⟩, 92) := ⟨⟨by decide +kernel, by decide +kernel⟩, List.mem_of_getElem? (i := 1902) (by decide +kernel), List.mem_of_getElem? (i := 2268) (by decide +kernel), List.mem_of_getElem? (i := 2269) (by decide +kernel)⟩
theorem lw_p39 : lw_okq (⟨"EdgeHouseModel", "list", "(I)V"⟩, 92) := ⟨⟨by decide +kernel, by decide +kernel⟩, List.mem_of_getElem? (i := 1902) (by decide +kernel), List.mem_of_getElem? (i := 2273) (by decide +kernel), List.mem_of_getElem? (i := 2274) (by decide +kernel)⟩
theorem lw_p40 : lw_okq (⟨"EdgeHouseModel", "requestWord", "()V"⟩, 92) := ⟨⟨by decide +kernel, by decide +kernel⟩, List.mem_of_getElem? (i := 1902) (by decide +kernel), List.mem_of_getElem? (i := 2277) (by decide +kernel), List.mem_of_getElem? (i := 2278) (by decide +kernel)⟩
theorem lw_p41 : lw_okq (⟨"EdgeHouseModel", "isWord", "(Ljava/lang/String;)Z"⟩, 92) := ⟨⟨by decide +kernel, by decide +kernel⟩, List.mem_of_getElem? (i := 1902) (by decide +kernel), List.mem_of_getElem? (i := 2282) (by decide +kernel), List.mem_of_getElem? (i := 2283) (by decide +kernel)⟩
theorem lw_p42 : lw_okq (⟨"EdgeHouseModel", "thingWord", "()V"⟩, 92) := ⟨⟨by decide +kernel, by decide +kernel⟩, List.mem_of_getElem? (i := 1902) (by decide +kernel), List.mem_of_getElem? (i := 2291) (by decide +kernel), List.mem_of_getElem? (i := 2292) (by decide +kernel)⟩
theorem lw_p43 : lw_okq (⟨"EdgeHouseModel", "weighWord", "()V"⟩, 92) := ⟨⟨by decide +kernel, by decide +kernel⟩, List.mem_of_getElem? (i := 1902) (by decide +kernel), List.mem_of_getElem? (i := 2298) (by decide +kernel), List.mem_of_getElem? (i := 2299) (by decide +kernel)⟩
theorem lw_p44 : lw_okq (⟨"EdgeHouseModel", "varyWord", "()V"⟩, 92) := ⟨⟨by decide +kernel, by decide +kernel⟩, List.mem_of_getElem? (i := 1902) (by decide +kernel), List.mem_of_getElem? (i := 2307) (by decide +kernel), List.mem_of_getElem? (i := 2308) (by decide +kernel)⟩
theorem lw_p45 : lw_okq (⟨"EdgeHouseModel", "keyLetters", "()V"⟩, 92) := ⟨⟨by decide +kernel, by decide +kernel⟩, List.mem_of_getElem? (i := 1902) (by decide +kernel), List.mem_of_getElem? (i := 2316) (by decide +kernel), List.mem_of_getElem? (i := 2317) (by decide +kernel)⟩
theorem lw_p46 : lw_okq (⟨"EdgeHouseModel", "anyValue", "()V"⟩, 92) := ⟨⟨by decide +kernel, by decide +kernel⟩, List.mem_of_getElem? (i := 1902) (by decide +kernel), List.mem_of_getElem? (i := 2320) (by decide +kernel), List.mem_of_getElem? (i := 2321) (by decide +kernel)⟩
theorem lw_p47 : lw_okq (⟨"EdgeHouseModel", "close", "(IIII)V"⟩, 92) := ⟨⟨by decide +kernel, by decide +kernel⟩, List.mem_of_getElem? (i := 1902) (by decide +kernel), List.mem_of_getElem? (i := 2332) (by decide +kernel), List.mem_of_getElem? (i := 2333) (by decide +kernel)⟩
def lw_privs_3 : List (MethodName × Nat) := [(⟨"EdgeHouseModel", "line", "(Z)V"⟩, 92), (⟨"EdgeHouseModel", "name", "()Z"⟩, 92), (⟨"EdgeHouseModel", "isSame", "(IIII)Z"⟩, 92), (⟨"EdgeHouseModel", "isNamed", "(Ljava/lang/String;)Z"⟩, 92), (⟨"EdgeHouseModel", "range", "()V"⟩, 92), (⟨"EdgeHouseModel", "matching", "()V"⟩, 92), (⟨"EdgeHouseModel", "tag", "()I"⟩, 92), (⟨"EdgeHouseModel", "list", "(I)V"⟩, 92), (⟨"EdgeHouseModel", "requestWord", "()V"⟩, 92), (⟨"EdgeHouseModel", "isWord", "(Ljava/lang/String;)Z"⟩, 92), (⟨"EdgeHouseModel", "thingWord", "()V"⟩, 92), (⟨"EdgeHouseModel", "weighWord", "()V"⟩, 92), (⟨"EdgeHouseModel", "varyWord", "()V"⟩, 92), (⟨"EdgeHouseModel", "keyLetters", "()V"⟩, 92), (⟨"EdgeHouseModel", "anyValue", "()V"⟩, 92), (⟨"EdgeHouseModel", "close", "(IIII)V"⟩, 92)]
theorem lw_r3 : ∀ q ∈ lw_privs_3, lw_okq q := List.forall_mem_cons.mpr ⟨lw_p32, List.forall_mem_cons.mpr ⟨lw_p33, List.forall_mem_cons.mpr ⟨lw_p34, List.forall_mem_cons.mpr ⟨lw_p35, List.forall_mem_cons.mpr ⟨lw_p36, List.forall_mem_cons.mpr ⟨lw_p37, List.forall_mem_cons.mpr ⟨lw_p38, List.forall_mem_cons.mpr ⟨lw_p39, List.forall_mem_cons.mpr ⟨lw_p40, List.forall_mem_cons.mpr ⟨lw_p41, List.forall_mem_cons.mpr ⟨lw_p42, List.forall_mem_cons.mpr ⟨lw_p43, List.forall_mem_cons.mpr ⟨lw_p44, List.forall_mem_cons.mpr ⟨lw_p45, List.forall_mem_cons.mpr ⟨lw_p46, List.forall_mem_cons.mpr ⟨lw_p47, fun _ h => absurd h List.not_mem_nil⟩⟩⟩⟩⟩⟩⟩⟩⟩⟩⟩⟩⟩⟩⟩⟩
theorem lw_p48 : lw_okq (⟨"EdgeHouseModel", "wanted", "()I"⟩, 92) := ⟨⟨by decide +kernel, by decide +kernel⟩, List.mem_of_getElem? (i := 1902) (by decide +kernel), List.mem_of_getElem? (i := 2336) (by decide +kernel), List.mem_of_getElem? (i := 2337) (by decide +kernel)⟩
theorem lw_p49 : lw_okq (⟨"EdgeHouseModel", "ring", "(IIII)I"⟩, 92) := ⟨⟨by decide +kernel, by decide +kernel⟩, List.mem_of_getElem? (i := 1902) (by decide +kernel), List.mem_of_getElem? (i := 2340) (by decide +kernel), List.mem_of_getElem? (i := 2341) (by decide +kernel)⟩
theorem lw_p50 : lw_okq (⟨"EdgeHouseModel", "isShunned", "(II)Z"⟩, 92) := ⟨⟨by decide +kernel, by decide +kernel⟩, List.mem_of_getElem? (i := 1902) (by decide +kernel), List.mem_of_getElem? (i := 2351) (by decide +kernel), List.mem_of_getElem? (i := 2352) (by decide +kernel)⟩
theorem lw_p51 : lw_okq (⟨"EdgeHouseModel", "spare", "()I"⟩, 92) := ⟨⟨by decide +kernel, by decide +kernel⟩, List.mem_of_getElem? (i := 1902) (by decide +kernel), List.mem_of_getElem? (i := 2356) (by decide +kernel), List.mem_of_getElem? (i := 2357) (by decide +kernel)⟩
theorem lw_p52 : lw_okq (⟨"EdgeHouseModel", "look", "(I)V"⟩, 92) := ⟨⟨by decide +kernel, by decide +kernel⟩, List.mem_of_getElem? (i := 1902) (by decide +kernel), List.mem_of_getElem? (i := 2360) (by decide +kernel), List.mem_of_getElem? (i := 2361) (by decide +kernel)⟩
theorem lw_p53 : lw_okq (⟨"EdgeHouseModel", "suits", "(II)I"⟩, 92) := ⟨⟨by decide +kernel, by decide +kernel⟩, List.mem_of_getElem? (i := 1902) (by decide +kernel), List.mem_of_getElem? (i := 2364) (by decide +kernel), List.mem_of_getElem? (i := 2365) (by decide +kernel)⟩
theorem lw_p54 : lw_okq (⟨"EdgeHouseModel", "told", "(II)I"⟩, 92) := ⟨⟨by decide +kernel, by decide +kernel⟩, List.mem_of_getElem? (i := 1902) (by decide +kernel), List.mem_of_getElem? (i := 2368) (by decide +kernel), List.mem_of_getElem? (i := 2369) (by decide +kernel)⟩
theorem lw_p55 : lw_okq (⟨"EdgeHouseModel", "isMarked", "(II)Z"⟩, 92) := ⟨⟨by decide +kernel, by decide +kernel⟩, List.mem_of_getElem? (i := 1902) (by decide +kernel), List.mem_of_getElem? (i := 2375) (by decide +kernel), List.mem_of_getElem? (i := 2376) (by decide +kernel)⟩
theorem lw_p56 : lw_okq (⟨"EdgeHouseModel", "isForced", "(I)Z"⟩, 92) := ⟨⟨by decide +kernel, by decide +kernel⟩, List.mem_of_getElem? (i := 1902) (by decide +kernel), List.mem_of_getElem? (i := 2379) (by decide +kernel), List.mem_of_getElem? (i := 2380) (by decide +kernel)⟩
theorem lw_p57 : lw_okq (⟨"EdgeHouseModel", "asks", "(II)I"⟩, 92) := ⟨⟨by decide +kernel, by decide +kernel⟩, List.mem_of_getElem? (i := 1902) (by decide +kernel), List.mem_of_getElem? (i := 2383) (by decide +kernel), List.mem_of_getElem? (i := 2384) (by decide +kernel)⟩
theorem lw_p58 : lw_okq (⟨"EdgeHouseModel", "isWhole", "(II)Z"⟩, 92) := ⟨⟨by decide +kernel, by decide +kernel⟩, List.mem_of_getElem? (i := 1902) (by decide +kernel), List.mem_of_getElem? (i := 2387) (by decide +kernel), List.mem_of_getElem? (i := 2388) (by decide +kernel)⟩
theorem lw_p59 : lw_okq (⟨"EdgeHouseModel", "tagOf", "(I)I"⟩, 92) := ⟨⟨by decide +kernel, by decide +kernel⟩, List.mem_of_getElem? (i := 1902) (by decide +kernel), List.mem_of_getElem? (i := 2391) (by decide +kernel), List.mem_of_getElem? (i := 2392) (by decide +kernel)⟩
theorem lw_p60 : lw_okq (⟨"EdgeHouseModel", "needs", "(III)I"⟩, 92) := ⟨⟨by decide +kernel, by decide +kernel⟩, List.mem_of_getElem? (i := 1902) (by decide +kernel), List.mem_of_getElem? (i := 2395) (by decide +kernel), List.mem_of_getElem? (i := 2396) (by decide +kernel)⟩
theorem lw_p61 : lw_okq (⟨"EdgeHouseModel", "hasBytes", "(III)Z"⟩, 92) := ⟨⟨by decide +kernel, by decide +kernel⟩, List.mem_of_getElem? (i := 1902) (by decide +kernel), List.mem_of_getElem? (i := 2402) (by decide +kernel), List.mem_of_getElem? (i := 2403) (by decide +kernel)⟩
theorem lw_p62 : lw_okq (⟨"EdgeHouseModel", "firstByte", "(III)I"⟩, 92) := ⟨⟨by decide +kernel, by decide +kernel⟩, List.mem_of_getElem? (i := 1902) (by decide +kernel), List.mem_of_getElem? (i := 2406) (by decide +kernel), List.mem_of_getElem? (i := 2407) (by decide +kernel)⟩
theorem lw_p63 : lw_okq (⟨"EdgeHouseModel", "rangeOf", "(II)I"⟩, 92) := ⟨⟨by decide +kernel, by decide +kernel⟩, List.mem_of_getElem? (i := 1902) (by decide +kernel), List.mem_of_getElem? (i := 2410) (by decide +kernel), List.mem_of_getElem? (i := 2411) (by decide +kernel)⟩
def lw_privs_4 : List (MethodName × Nat) := [(⟨"EdgeHouseModel", "wanted", "()I"⟩, 92), (⟨"EdgeHouseModel", "ring", "(IIII)I"⟩, 92), (⟨"EdgeHouseModel", "isShunned", "(II)Z"⟩, 92), (⟨"EdgeHouseModel", "spare", "()I"⟩, 92), (⟨"EdgeHouseModel", "look", "(I)V"⟩, 92), (⟨"EdgeHouseModel", "suits", "(II)I"⟩, 92), (⟨"EdgeHouseModel", "told", "(II)I"⟩, 92), (⟨"EdgeHouseModel", "isMarked", "(II)Z"⟩, 92), (⟨"EdgeHouseModel", "isForced", "(I)Z"⟩, 92), (⟨"EdgeHouseModel", "asks", "(II)I"⟩, 92), (⟨"EdgeHouseModel", "isWhole", "(II)Z"⟩, 92), (⟨"EdgeHouseModel", "tagOf", "(I)I"⟩, 92), (⟨"EdgeHouseModel", "needs", "(III)I"⟩, 92), (⟨"EdgeHouseModel", "hasBytes", "(III)Z"⟩, 92), (⟨"EdgeHouseModel", "firstByte", "(III)I"⟩, 92), (⟨"EdgeHouseModel", "rangeOf", "(II)I"⟩, 92)]
theorem lw_r4 : ∀ q ∈ lw_privs_4, lw_okq q := List.forall_mem_cons.mpr ⟨lw_p48, List.forall_mem_cons.mpr ⟨lw_p49, List.forall_mem_cons.mpr ⟨lw_p50, List.forall_mem_cons.mpr ⟨lw_p51, List.forall_mem_cons.mpr ⟨lw_p52, List.forall_mem_cons.mpr ⟨lw_p53, List.forall_mem_cons.mpr ⟨lw_p54, List.forall_mem_cons.mpr ⟨lw_p55, List.forall_mem_cons.mpr ⟨lw_p56, List.forall_mem_cons.mpr ⟨lw_p57, List.forall_mem_cons.mpr ⟨lw_p58, List.forall_mem_cons.mpr ⟨lw_p59, List.forall_mem_cons.mpr ⟨lw_p60, List.forall_mem_cons.mpr ⟨lw_p61, List.forall_mem_cons.mpr ⟨lw_p62, List.forall_mem_cons.mpr ⟨lw_p63, fun _ h => absurd h List.not_mem_nil⟩⟩⟩⟩⟩⟩⟩⟩⟩⟩⟩⟩⟩⟩⟩⟩
theorem lw_p64 : lw_okq (⟨"EdgeHouseModel", "endByte", "(III)I"⟩, 92) := ⟨⟨by decide +kernel, by decide +kernel⟩, List.mem_of_getElem? (i := 1902) (by decide +kernel), List.mem_of_getElem? (i := 2414) (by decide +kernel), List.mem_of_getElem? (i := 2415) (by decide +kernel)⟩
theorem lw_p65 : lw_okq (⟨"EdgeHouseModel", "isFresh", "(II)Z"⟩, 92) := ⟨⟨by decide +kernel, by decide +kernel⟩, List.mem_of_getElem? (i := 1902) (by decide +kernel), List.mem_of_getElem? (i := 2418) (by decide +kernel), List.mem_of_getElem? (i := 2419) (by decide +kernel)⟩
theorem lw_p66 : lw_okq (⟨"EdgeHouseModel", "ageOf", "(I)I"⟩, 92) := ⟨⟨by decide +kernel, by decide +kernel⟩, List.mem_of_getElem? (i := 1902) (by decide +kernel), List.mem_of_getElem? (i := 2422) (by decide +kernel), List.mem_of_getElem? (i := 2423) (by decide +kernel)⟩
theorem lw_p67 : lw_okq (⟨"EdgeHouseModel", "lifeOf", "(I)I"⟩, 92) := ⟨⟨by decide +kernel, by decide +kernel⟩, List.mem_of_getElem? (i := 1902) (by decide +kernel), List.mem_of_getElem? (i := 2426) (by decide +kernel), List.mem_of_getElem? (i := 2427) (by decide +kernel)⟩
theorem lw_p68 : lw_okq (⟨"EdgeHouseModel", "use", "(II)V"⟩, 92) := ⟨⟨by decide +kernel, by decide +kernel⟩, List.mem_of_getElem? (i := 1902) (by decide +kernel), List.mem_of_getElem? (i := 2430) (by decide +kernel), List.mem_of_getElem? (i := 2431) (by decide +kernel)⟩
theorem lw_p69 : lw_okq (⟨"EdgeHouseModel", "newest", "(I)V"⟩, 92) := ⟨⟨by decide +kernel, by decide +kernel⟩, List.mem_of_getElem? (i := 1902) (by decide +kernel), List.mem_of_getElem? (i := 2434) (by decide +kernel), List.mem_of_getElem? (i := 2435) (by decide +kernel)⟩
theorem lw_p70 : lw_okq (⟨"EdgeHouseModel", "trim", "(I)V"⟩, 92) := ⟨⟨by decide +kernel, by decide +kernel⟩, List.mem_of_getElem? (i := 1902) (by decide +kernel), List.mem_of_getElem? (i := 2438) (by decide +kernel), List.mem_of_getElem? (i := 2439) (by decide +kernel)⟩
theorem lw_p71 : lw_okq (⟨"EdgeHouseModel", "sizes", "(IZ)I"⟩, 92) := ⟨⟨by decide +kernel, by decide +kernel⟩, List.mem_of_getElem? (i := 1902) (by decide +kernel), List.mem_of_getElem? (i := 2442) (by decide +kernel), List.mem_of_getElem? (i := 2443) (by decide +kernel)⟩
theorem lw_p72 : lw_okq (⟨"EdgeHouseModel", "sizeOf", "(I)I"⟩, 92) := ⟨⟨by decide +kernel, by decide +kernel⟩, List.mem_of_getElem? (i := 1902) (by decide +kernel), List.mem_of_getElem? (i := 2446) (by decide +kernel), List.mem_of_getElem? (i := 2447) (by decide +kernel)⟩
theorem lw_p73 : lw_okq (⟨"EdgeHouseModel", "oldest", "(IZ)I"⟩, 92) := ⟨⟨by decide +kernel, by decide +kernel⟩, List.mem_of_getElem? (i := 1902) (by decide +kernel), List.mem_of_getElem? (i := 2451) (by decide +kernel), List.mem_of_getElem? (i := 2452) (by decide +kernel)⟩
theorem lw_p74 : lw_okq (⟨"EdgeHouseModel", "serve", "(III)V"⟩, 92) := ⟨⟨by decide +kernel, by decide +kernel⟩, List.mem_of_getElem? (i := 1902) (by decide +kernel), List.mem_of_getElem? (i := 2455) (by decide +kernel), List.mem_of_getElem? (i := 2456) (by decide +kernel)⟩
theorem lw_p75 : lw_okq (⟨"EdgeHouseModel", "give", "(II)V"⟩, 92) := ⟨⟨by decide +kernel, by decide +kernel⟩, List.mem_of_getElem? (i := 1902) (by decide +kernel), List.mem_of_getElem? (i := 2459) (by decide +kernel), List.mem_of_getElem? (i := 2460) (by decide +kernel)⟩
theorem lw_p76 : lw_okq (⟨"EdgeHouseModel", "statusOf", "(I)I"⟩, 92) := ⟨⟨by decide +kernel, by decide +kernel⟩, List.mem_of_getElem? (i := 1902) (by decide +kernel), List.mem_of_getElem? (i := 2463) (by decide +kernel), List.mem_of_getElem? (i := 2464) (by decide +kernel)⟩
theorem lw_p77 : lw_okq (⟨"EdgeHouseModel", "nowTag", "()I"⟩, 92) := ⟨⟨by decide +kernel, by decide +kernel⟩, List.mem_of_getElem? (i := 1902) (by decide +kernel), List.mem_of_getElem? (i := 2467) (by decide +kernel), List.mem_of_getElem? (i := 2468) (by decide +kernel)⟩
theorem lw_p78 : lw_okq (⟨"EdgeHouseModel", "blank", "(IIIII)V"⟩, 92) := ⟨⟨by decide +kernel, by decide +kernel⟩, List.mem_of_getElem? (i := 1902) (by decide +kernel), List.mem_of_getElem? (i := 2471) (by decide +kernel), List.mem_of_getElem? (i := 2472) (by decide +kernel)⟩
theorem lw_p79 : lw_okq (⟨"EdgeHouseModel", "post", "()V"⟩, 92) := ⟨⟨by decide +kernel, by decide +kernel⟩, List.mem_of_getElem? (i := 1902) (by decide +kernel), List.mem_of_getElem? (i := 2475) (by decide +kernel), List.mem_of_getElem? (i := 2476) (by decide +kernel)⟩
def lw_privs_5 : List (MethodName × Nat) := [(⟨"EdgeHouseModel", "endByte", "(III)I"⟩, 92), (⟨"EdgeHouseModel", "isFresh", "(II)Z"⟩, 92), (⟨"EdgeHouseModel", "ageOf", "(I)I"⟩, 92), (⟨"EdgeHouseModel", "lifeOf", "(I)I"⟩, 92), (⟨"EdgeHouseModel", "use", "(II)V"⟩, 92), (⟨"EdgeHouseModel", "newest", "(I)V"⟩, 92), (⟨"EdgeHouseModel", "trim", "(I)V"⟩, 92), (⟨"EdgeHouseModel", "sizes", "(IZ)I"⟩, 92), (⟨"EdgeHouseModel", "sizeOf", "(I)I"⟩, 92), (⟨"EdgeHouseModel", "oldest", "(IZ)I"⟩, 92), (⟨"EdgeHouseModel", "serve", "(III)V"⟩, 92), (⟨"EdgeHouseModel", "give", "(II)V"⟩, 92), (⟨"EdgeHouseModel", "statusOf", "(I)I"⟩, 92), (⟨"EdgeHouseModel", "nowTag", "()I"⟩, 92), (⟨"EdgeHouseModel", "blank", "(IIIII)V"⟩, 92), (⟨"EdgeHouseModel", "post", "()V"⟩, 92)]
theorem lw_r5 : ∀ q ∈ lw_privs_5, lw_okq q := List.forall_mem_cons.mpr ⟨lw_p64, List.forall_mem_cons.mpr ⟨lw_p65, List.forall_mem_cons.mpr ⟨lw_p66, List.forall_mem_cons.mpr ⟨lw_p67, List.forall_mem_cons.mpr ⟨lw_p68, List.forall_mem_cons.mpr ⟨lw_p69, List.forall_mem_cons.mpr ⟨lw_p70, List.forall_mem_cons.mpr ⟨lw_p71, List.forall_mem_cons.mpr ⟨lw_p72, List.forall_mem_cons.mpr ⟨lw_p73, List.forall_mem_cons.mpr ⟨lw_p74, List.forall_mem_cons.mpr ⟨lw_p75, List.forall_mem_cons.mpr ⟨lw_p76, List.forall_mem_cons.mpr ⟨lw_p77, List.forall_mem_cons.mpr ⟨lw_p78, List.forall_mem_cons.mpr ⟨lw_p79, fun _ h => absurd h List.not_mem_nil⟩⟩⟩⟩⟩⟩⟩⟩⟩⟩⟩⟩⟩⟩⟩⟩
theorem lw_p80 : lw_okq (⟨"EdgeHouseModel", "isStaleEnough", "(II)Z"⟩, 92) := ⟨⟨by decide +kernel, by decide +kernel⟩, List.mem_of_getElem? (i := 1902) (by decide +kernel), List.mem_of_getElem? (i := 2479) (by decide +kernel), List.mem_of_getElem? (i := 2480) (by decide +kernel)⟩
theorem lw_p81 : lw_okq (⟨"EdgeHouseModel", "fetch", "(II)Z"⟩, 92) := ⟨⟨by decide +kernel, by decide +kernel⟩, List.mem_of_getElem? (i := 1902) (by decide +kernel), List.mem_of_getElem? (i := 2483) (by decide +kernel), List.mem_of_getElem? (i := 2484) (by decide +kernel)⟩
theorem lw_p82 : lw_okq (⟨"EdgeHouseModel", "send", "(I)Z"⟩, 92) := ⟨⟨by decide +kernel, by decide +kernel⟩, List.mem_of_getElem? (i := 1902) (by decide +kernel), List.mem_of_getElem? (i := 2489) (by decide +kernel), List.mem_of_getElem? (i := 2490) (by decide +kernel)⟩
theorem lw_p83 : lw_okq (⟨"EdgeHouseModel", "goal", "(II)I"⟩, 92) := ⟨⟨by decide +kernel, by decide +kernel⟩, List.mem_of_getElem? (i := 1902) (by decide +kernel), List.mem_of_getElem? (i := 2493) (by decide +kernel), List.mem_of_getElem? (i := 2494) (by decide +kernel)⟩
theorem lw_p84 : lw_okq (⟨"EdgeHouseModel", "stay", "(I)V"⟩, 92) := ⟨⟨by decide +kernel, by decide +kernel⟩, List.mem_of_getElem? (i := 1902) (by decide +kernel), List.mem_of_getElem? (i := 2497) (by decide +kernel), List.mem_of_getElem? (i := 2498) (by decide +kernel)⟩
theorem lw_p85 : lw_okq (⟨"EdgeHouseModel", "giveUp", "(I)V"⟩, 92) := ⟨⟨by decide +kernel, by decide +kernel⟩, List.mem_of_getElem? (i := 1902) (by decide +kernel), List.mem_of_getElem? (i := 2501) (by decide +kernel), List.mem_of_getElem? (i := 2502) (by decide +kernel)⟩
theorem lw_p86 : lw_okq (⟨"EdgeHouseModel", "refuse", "(II)V"⟩, 92) := ⟨⟨by decide +kernel, by decide +kernel⟩, List.mem_of_getElem? (i := 1902) (by decide +kernel), List.mem_of_getElem? (i := 2505) (by decide +kernel), List.mem_of_getElem? (i := 2506) (by decide +kernel)⟩
theorem lw_p87 : lw_okq (⟨"EdgeHouseModel", "bring", "(I)V"⟩, 92) := ⟨⟨by decide +kernel, by decide +kernel⟩, List.mem_of_getElem? (i := 1902) (by decide +kernel), List.mem_of_getElem? (i := 2517) (by decide +kernel), List.mem_of_getElem? (i := 2518) (by decide +kernel)⟩
theorem lw_p88 : lw_okq (⟨"EdgeHouseModel", "remove", "(I)V"⟩, 92) := ⟨⟨by decide +kernel, by decide +kernel⟩, List.mem_of_getElem? (i := 1902) (by decide +kernel), List.mem_of_getElem? (i := 2521) (by decide +kernel), List.mem_of_getElem? (i := 2522) (by decide +kernel)⟩
theorem lw_p89 : lw_okq (⟨"EdgeHouseModel", "bringFetch", "(I)V"⟩, 92) := ⟨⟨by decide +kernel, by decide +kernel⟩, List.mem_of_getElem? (i := 1902) (by decide +kernel), List.mem_of_getElem? (i := 2525) (by decide +kernel), List.mem_of_getElem? (i := 2526) (by decide +kernel)⟩
theorem lw_p90 : lw_okq (⟨"EdgeHouseModel", "bringFill", "(I)V"⟩, 92) := ⟨⟨by decide +kernel, by decide +kernel⟩, List.mem_of_getElem? (i := 1902) (by decide +kernel), List.mem_of_getElem? (i := 2529) (by decide +kernel), List.mem_of_getElem? (i := 2530) (by decide +kernel)⟩
theorem lw_p91 : lw_okq (⟨"EdgeHouseModel", "forgive", "(II)V"⟩, 92) := ⟨⟨by decide +kernel, by decide +kernel⟩, List.mem_of_getElem? (i := 1902) (by decide +kernel), List.mem_of_getElem? (i := 2533) (by decide +kernel), List.mem_of_getElem? (i := 2534) (by decide +kernel)⟩
theorem lw_p92 : lw_okq (⟨"EdgeHouseModel", "take", "(II)I"⟩, 92) := ⟨⟨by decide +kernel, by decide +kernel⟩, List.mem_of_getElem? (i := 1902) (by decide +kernel), List.mem_of_getElem? (i := 2537) (by decide +kernel), List.mem_of_getElem? (i := 2538) (by decide +kernel)⟩
theorem lw_p93 : lw_okq (⟨"EdgeHouseModel", "again", "(I)I"⟩, 92) := ⟨⟨by decide +kernel, by decide +kernel⟩, List.mem_of_getElem? (i := 1902) (by decide +kernel), List.mem_of_getElem? (i := 2541) (by decide +kernel), List.mem_of_getElem? (i := 2542) (by decide +kernel)⟩
theorem lw_p94 : lw_okq (⟨"EdgeHouseModel", "failAll", "(II)V"⟩, 92) := ⟨⟨by decide +kernel, by decide +kernel⟩, List.mem_of_getElem? (i := 1902) (by decide +kernel), List.mem_of_getElem? (i := 2545) (by decide +kernel), List.mem_of_getElem? (i := 2546) (by decide +kernel)⟩
theorem lw_p95 : lw_okq (⟨"EdgeHouseModel", "isPurged", "(I)Z"⟩, 92) := ⟨⟨by decide +kernel, by decide +kernel⟩, List.mem_of_getElem? (i := 1902) (by decide +kernel), List.mem_of_getElem? (i := 2549) (by decide +kernel), List.mem_of_getElem? (i := 2550) (by decide +kernel)⟩
def lw_privs_6 : List (MethodName × Nat) := [(⟨"EdgeHouseModel", "isStaleEnough", "(II)Z"⟩, 92), (⟨"EdgeHouseModel", "fetch", "(II)Z"⟩, 92), (⟨"EdgeHouseModel", "send", "(I)Z"⟩, 92), (⟨"EdgeHouseModel", "goal", "(II)I"⟩, 92), (⟨"EdgeHouseModel", "stay", "(I)V"⟩, 92), (⟨"EdgeHouseModel", "giveUp", "(I)V"⟩, 92), (⟨"EdgeHouseModel", "refuse", "(II)V"⟩, 92), (⟨"EdgeHouseModel", "bring", "(I)V"⟩, 92), (⟨"EdgeHouseModel", "remove", "(I)V"⟩, 92), (⟨"EdgeHouseModel", "bringFetch", "(I)V"⟩, 92), (⟨"EdgeHouseModel", "bringFill", "(I)V"⟩, 92), (⟨"EdgeHouseModel", "forgive", "(II)V"⟩, 92), (⟨"EdgeHouseModel", "take", "(II)I"⟩, 92), (⟨"EdgeHouseModel", "again", "(I)I"⟩, 92), (⟨"EdgeHouseModel", "failAll", "(II)V"⟩, 92), (⟨"EdgeHouseModel", "isPurged", "(I)Z"⟩, 92)]
theorem lw_r6 : ∀ q ∈ lw_privs_6, lw_okq q := List.forall_mem_cons.mpr ⟨lw_p80, List.forall_mem_cons.mpr ⟨lw_p81, List.forall_mem_cons.mpr ⟨lw_p82, List.forall_mem_cons.mpr ⟨lw_p83, List.forall_mem_cons.mpr ⟨lw_p84, List.forall_mem_cons.mpr ⟨lw_p85, List.forall_mem_cons.mpr ⟨lw_p86, List.forall_mem_cons.mpr ⟨lw_p87, List.forall_mem_cons.mpr ⟨lw_p88, List.forall_mem_cons.mpr ⟨lw_p89, List.forall_mem_cons.mpr ⟨lw_p90, List.forall_mem_cons.mpr ⟨lw_p91, List.forall_mem_cons.mpr ⟨lw_p92, List.forall_mem_cons.mpr ⟨lw_p93, List.forall_mem_cons.mpr ⟨lw_p94, List.forall_mem_cons.mpr ⟨lw_p95, fun _ h => absurd h List.not_mem_nil⟩⟩⟩⟩⟩⟩⟩⟩⟩⟩⟩⟩⟩⟩⟩⟩
theorem lw_p96 : lw_okq (⟨"EdgeHouseModel", "takeIn", "(III)V"⟩, 92) := ⟨⟨by decide +kernel, by decide +kernel⟩, List.mem_of_getElem? (i := 1902) (by decide +kernel), List.mem_of_getElem? (i := 2553) (by decide +kernel), List.mem_of_getElem? (i := 2554) (by decide +kernel)⟩
theorem lw_p97 : lw_okq (⟨"EdgeHouseModel", "bringPurge", "(I)V"⟩, 92) := ⟨⟨by decide +kernel, by decide +kernel⟩, List.mem_of_getElem? (i := 1902) (by decide +kernel), List.mem_of_getElem? (i := 2557) (by decide +kernel), List.mem_of_getElem? (i := 2558) (by decide +kernel)⟩
theorem lw_p98 : lw_okq (⟨"EdgeHouseModel", "lapse", "(I)V"⟩, 92) := ⟨⟨by decide +kernel, by decide +kernel⟩, List.mem_of_getElem? (i := 1902) (by decide +kernel), List.mem_of_getElem? (i := 2577) (by decide +kernel), List.mem_of_getElem? (i := 2578) (by decide +kernel)⟩
theorem lw_p99 : lw_okq (⟨"EdgeHouseModel", "strike", "(II)V"⟩, 92) := ⟨⟨by decide +kernel, by decide +kernel⟩, List.mem_of_getElem? (i := 1902) (by decide +kernel), List.mem_of_getElem? (i := 2581) (by decide +kernel), List.mem_of_getElem? (i := 2582) (by decide +kernel)⟩
theorem lw_p100 : lw_okq (⟨"EdgeHouseModel", "bytesOf", "(I)I"⟩, 92) := ⟨⟨by decide +kernel, by decide +kernel⟩, List.mem_of_getElem? (i := 1902) (by decide +kernel), List.mem_of_getElem? (i := 2604) (by decide +kernel), List.mem_of_getElem? (i := 2605) (by decide +kernel)⟩
theorem lw_p101 : lw_okq (⟨"EdgeHouseModel", "tagSaid", "(I)I"⟩, 92) := ⟨⟨by decide +kernel, by decide +kernel⟩, List.mem_of_getElem? (i := 1902) (by decide +kernel), List.mem_of_getElem? (i := 2608) (by decide +kernel), List.mem_of_getElem? (i := 2609) (by decide +kernel)⟩
theorem lw_p102 : lw_okq (⟨"EdgeHouseModel", "write", "(I)V"⟩, 92) := ⟨⟨by decide +kernel, by decide +kernel⟩, List.mem_of_getElem? (i := 1902) (by decide +kernel), List.mem_of_getElem? (i := 2612) (by decide +kernel), List.mem_of_getElem? (i := 2613) (by decide +kernel)⟩
theorem lw_p103 : lw_okq (⟨"EdgeHouseModel", "saySort", "(I)V"⟩, 92) := ⟨⟨by decide +kernel, by decide +kernel⟩, List.mem_of_getElem? (i := 1902) (by decide +kernel), List.mem_of_getElem? (i := 2616) (by decide +kernel), List.mem_of_getElem? (i := 2617) (by decide +kernel)⟩
theorem lw_p104 : lw_okq (⟨"EdgeHouseModel", "sayNumber", "(I)V"⟩, 92) := ⟨⟨by decide +kernel, by decide +kernel⟩, List.mem_of_getElem? (i := 1902) (by decide +kernel), List.mem_of_getElem? (i := 2620) (by decide +kernel), List.mem_of_getElem? (i := 2621) (by decide +kernel)⟩
theorem lw_p105 : lw_okq (⟨"EdgeHouseModel", "say", "(Ljava/lang/String;)V"⟩, 92) := ⟨⟨by decide +kernel, by decide +kernel⟩, List.mem_of_getElem? (i := 1902) (by decide +kernel), List.mem_of_getElem? (i := 2625) (by decide +kernel), List.mem_of_getElem? (i := 2626) (by decide +kernel)⟩
theorem lw_p106 : lw_okq (⟨"EdgeHouseModel", "sayLine", "(Ljava/lang/String;I)V"⟩, 92) := ⟨⟨by decide +kernel, by decide +kernel⟩, List.mem_of_getElem? (i := 1902) (by decide +kernel), List.mem_of_getElem? (i := 2640) (by decide +kernel), List.mem_of_getElem? (i := 2641) (by decide +kernel)⟩
def lw_privs_7 : List (MethodName × Nat) := [(⟨"EdgeHouseModel", "takeIn", "(III)V"⟩, 92), (⟨"EdgeHouseModel", "bringPurge", "(I)V"⟩, 92), (⟨"EdgeHouseModel", "lapse", "(I)V"⟩, 92), (⟨"EdgeHouseModel", "strike", "(II)V"⟩, 92), (⟨"EdgeHouseModel", "bytesOf", "(I)I"⟩, 92), (⟨"EdgeHouseModel", "tagSaid", "(I)I"⟩, 92), (⟨"EdgeHouseModel", "write", "(I)V"⟩, 92), (⟨"EdgeHouseModel", "saySort", "(I)V"⟩, 92), (⟨"EdgeHouseModel", "sayNumber", "(I)V"⟩, 92), (⟨"EdgeHouseModel", "say", "(Ljava/lang/String;)V"⟩, 92), (⟨"EdgeHouseModel", "sayLine", "(Ljava/lang/String;I)V"⟩, 92)]
theorem lw_r7 : ∀ q ∈ lw_privs_7, lw_okq q := List.forall_mem_cons.mpr ⟨lw_p96, List.forall_mem_cons.mpr ⟨lw_p97, List.forall_mem_cons.mpr ⟨lw_p98, List.forall_mem_cons.mpr ⟨lw_p99, List.forall_mem_cons.mpr ⟨lw_p100, List.forall_mem_cons.mpr ⟨lw_p101, List.forall_mem_cons.mpr ⟨lw_p102, List.forall_mem_cons.mpr ⟨lw_p103, List.forall_mem_cons.mpr ⟨lw_p104, List.forall_mem_cons.mpr ⟨lw_p105, List.forall_mem_cons.mpr ⟨lw_p106, fun _ h => absurd h List.not_mem_nil⟩⟩⟩⟩⟩⟩⟩⟩⟩⟩⟩
def lw_privs : List (MethodName × Nat) := lw_privs_1 ++ (lw_privs_2 ++ (lw_privs_3 ++ (lw_privs_4 ++ (lw_privs_5 ++ (lw_privs_6 ++ (lw_privs_7))))))
def lw_tbl : List Cond := k2_sels lw_privs ++ tables_1
theorem lw_privs_ok : ∀ q ∈ lw_privs, lw_okq q := by
  show ∀ q ∈ lw_privs_1 ++ (lw_privs_2 ++ (lw_privs_3 ++ (lw_privs_4 ++ (lw_privs_5 ++ (lw_privs_6 ++ (lw_privs_7)))))), lw_okq q
  exact List.forall_mem_append.mpr ⟨lw_r1, List.forall_mem_append.mpr ⟨lw_r2, List.forall_mem_append.mpr ⟨lw_r3, List.forall_mem_append.mpr ⟨lw_r4, List.forall_mem_append.mpr ⟨lw_r5, List.forall_mem_append.mpr ⟨lw_r6, lw_r7⟩⟩⟩⟩⟩⟩
end
section
/-! A small machine of my own over lists (values, worlds), and how its worlds are read as the kit's worlds. A mini reference k: below 512 an outside cell X k, else place k - 512 of the world. -/
/-- a cell: an array (its type, its length, the places that were written), or an object (its class, its fields) -/
abbrev mM : Type := (Nat × Nat × List (Nat × Value)) ⊕ (Nat × List Value)
def m_zero (t : Nat) : Value := if t = 1 then .long 0 else if t < 6 then .int 0 else .null
def m_el (t : Nat) (els : List (Nat × Value)) (j : Nat) : Value := match els.find? (fun q => q.1 == j) with
  | some q => q.2
  | none => m_zero t
def m_sel (els : List (Nat × Value)) (j : Nat) (v : Value) : List (Nat × Value) := (j, v) :: els.filter (fun q => !(q.1 == j))
def m_ad (X : Nat → Nat) (L : List Nat) (k : Nat) : Nat := if k < 512 then X k else L.getD (k - 512) 0
/-- an outside value of which only 'a reference or null' is known: the small machine has .retAddr for it -/
def m_op (X : Nat → Nat) : Value := if X 1000 = 0 then .null else .ref (X 1001)
def m_tr (X : Nat → Nat) (L : List Nat) (v : Value) : Value := match v with
  | .ref k => .ref (m_ad X L k)
  | .retAddr _ => m_op X
  | v => v
def m_okv (n : Nat) (v : Value) : Bool := match v with
  | .ref k => decide (k < 512 + n)
  | _ => true
def m_toI (v : Value) : Int32 := match v with
  | .int x => x
  | _ => 0
def m_toL (v : Value) : Int64 := match v with
  | .long x => x
  | _ => 0
def m_toR (X : Nat → Nat) (L : List Nat) (v : Value) : Option Nat := match v with
  | .ref k => some (m_ad X L k)
  | _ => none
def m_arr (X : Nat → Nat) (L : List Nat) (t n : Nat) (els : List (Nat × Value)) : vp_A :=
  (n, if t = 1 then .inr (.inl fun j => m_toL (m_el t els j)) else if t < 6 then .inl (fun j => m_toI (m_el t els j)) else .inr (.inr (.inr (.inr fun j => m_toR X L (m_el t els j)))))
def m_cell (X : Nat → Nat) (L : List Nat) (dA : Nat → ClassId) (q : mM) : va_E := match q with
  | .inl a => .inl (dA a.1, m_arr X L a.1 a.2.1 a.2.2)
  | .inr o => .inr (o.1, o.2.map (m_tr X L))
def m_wd (X : Nat → Nat) (L : List Nat) (dA : Nat → ClassId) (w : List mM) : va_W := List.zipWith (fun a q => (a, m_cell X L dA q)) L w
def m_okc (n : Nat) (q : mM) : Bool := match q with
  | .inl a => decide (a.1 < 6) || a.2.2.all (fun q => m_okv n q.2)
  | .inr o => o.2.all (m_okv n)
def m_okw (n : Nat) (w : List mM) : Prop := ∀ q ∈ w, m_okc n q = true
def m_oks (n : Nat) (st : List Value) : Prop := ∀ v ∈ st, m_okv n v = true
def m_okl (n : Nat) (lv : List (Nat × Value)) : Prop := ∀ q ∈ lv, m_okv n q.2 = true

theorem m_tr_int (X : Nat → Nat) (L : List Nat) (x : Int32) : m_tr X L (.int x) = .int x := rfl
theorem m_tr_long (X : Nat → Nat) (L : List Nat) (x : Int64) : m_tr X L (.long x) = .long x := rfl
theorem m_tr_null (X : Nat → Nat) (L : List Nat) : m_tr X L .null = .null := rfl
theorem m_tr_ref (X : Nat → Nat) (L : List Nat) (k : Nat) : m_tr X L (.ref k) = .ref (m_ad X L k) := rfl
theorem m_op_or (X : Nat → Nat) : m_op X = .null ∨ ∃ a, m_op X = .ref a := by
  unfold m_op; split
  · exact Or.inl rfl
  · exact Or.inr ⟨_, rfl⟩
theorem m_tr_cat (X : Nat → Nat) (L : List Nat) (v : Value) : (m_tr X L v).category = v.category := by
  cases v with
  | retAddr n =>
    show (m_op X).category = _
    rcases m_op_or X with h | ⟨a, h⟩ <;> rw [h] <;> rfl
  | _ => rfl
theorem m_tr_fits (X : Nat → Nat) (L : List Nat) (ty : FieldType) (v : Value) (h : fits ty v = true) : fits ty (m_tr X L v) = true := by
  cases v with
  | retAddr n => cases ty <;> cases h
  | ref k => cases ty <;> first | rfl | cases h
  | _ => exact h
theorem m_tr_narrow (X : Nat → Nat) (L : List Nat) (ty : FieldType) (v : Value) (h : narrow ty v = v) : narrow ty (m_tr X L v) = m_tr X L v := by
  cases v with
  | ref k => cases ty <;> rfl
  | retAddr n =>
    show narrow ty (m_op X) = m_op X
    rcases m_op_or X with h | ⟨a, h⟩ <;> rw [h] <;> cases ty <;> rfl
  | _ => exact h
theorem m_ad_ext {X : Nat → Nat} {L L2 : List Nat} {k : Nat} (h : k < 512 + L.length) : m_ad X (L ++ L2) k = m_ad X L k := by
  unfold m_ad
  split
  · rfl
  · rename_i h1
    rw [List.getD_eq_getElem?_getD, List.getD_eq_getElem?_getD, List.getElem?_append_left (by omega)]
theorem m_tr_ext {X : Nat → Nat} {L L2 : List Nat} {v : Value} (h : m_okv L.length v = true) : m_tr X (L ++ L2) v = m_tr X L v := by
  cases v with
  | ref k => exact congrArg Value.ref (m_ad_ext (of_decide_eq_true h))
  | _ => rfl
theorem m_toR_ext {X : Nat → Nat} {L L2 : List Nat} {v : Value} (h : m_okv L.length v = true) : m_toR X (L ++ L2) v = m_toR X L v := by
  cases v with
  | ref k => exact congrArg some (m_ad_ext (of_decide_eq_true h))
  | _ => rfl
theorem m_trs_ext {X : Nat → Nat} {L L2 : List Nat} {st : List Value} (h : m_oks L.length st) : st.map (m_tr X (L ++ L2)) = st.map (m_tr X L) :=
  List.map_congr_left (fun v hv => m_tr_ext (h v hv))
theorem m_okv_mono {n k : Nat} {v : Value} (h : m_okv n v = true) (hk : n ≤ k) : m_okv k v = true := by
  cases v with
  | ref a => exact decide_eq_true (Nat.lt_of_lt_of_le (of_decide_eq_true h) (by omega))
  | _ => rfl
theorem m_oks_mono {n k : Nat} {st : List Value} (h : m_oks n st) (hk : n ≤ k) : m_oks k st := fun v hv => m_okv_mono (h v hv) hk
theorem m_okl_mono {n k : Nat} {lv : List (Nat × Value)} (h : m_okl n lv) (hk : n ≤ k) : m_okl k lv := fun v hv => m_okv_mono (h v hv) hk
theorem m_okc_mono {n k : Nat} {q : mM} (h : m_okc n q = true) (hk : n ≤ k) : m_okc k q = true := by
  cases q with
  | inl a =>
    simp only [m_okc, Bool.or_eq_true, List.all_eq_true] at h ⊢
    exact h.imp id (fun h v hv => m_okv_mono (h v hv) hk)
  | inr o =>
    simp only [m_okc, List.all_eq_true] at h ⊢
    exact fun v hv => m_okv_mono (h v hv) hk
theorem m_okw_mono {n k : Nat} {w : List mM} (h : m_okw n w) (hk : n ≤ k) : m_okw k w := fun q hq => m_okc_mono (h q hq) hk
theorem m_zero_ok (n t : Nat) : m_okv n (m_zero t) = true := by
  unfold m_zero; split
  · rfl
  · split <;> rfl
theorem m_el_ok {n t j : Nat} {els : List (Nat × Value)} (h : els.all (fun q => m_okv n q.2) = true) : m_okv n (m_el t els j) = true := by
  unfold m_el
  cases hj : els.find? (fun q => q.1 == j) with
  | none => exact m_zero_ok n t
  | some q => exact List.all_eq_true.mp h q (List.mem_of_find?_eq_some hj)
theorem m_cell_ext {X : Nat → Nat} {L L2 : List Nat} {dA : Nat → ClassId} {q : mM} (h : m_okc L.length q = true) : m_cell X (L ++ L2) dA q = m_cell X L dA q := by
  cases q with
  | inl a =>
    simp only [m_okc, Bool.or_eq_true, decide_eq_true_eq] at h
    show Sum.inl (dA a.1, m_arr X (L ++ L2) a.1 a.2.1 a.2.2) = Sum.inl (dA a.1, m_arr X L a.1 a.2.1 a.2.2)
    have e : m_arr X (L ++ L2) a.1 a.2.1 a.2.2 = m_arr X L a.1 a.2.1 a.2.2 := by
      unfold m_arr
      by_cases h1 : a.1 = 1
      · simp [h1]
      · by_cases h6 : a.1 < 6
        · simp [h1, h6]
        · have h2 := h.resolve_left h6
          simp only [h1, h6, if_false]
          have : (fun j => m_toR X (L ++ L2) (m_el a.1 a.2.2 j)) = (fun j => m_toR X L (m_el a.1 a.2.2 j)) := funext fun j => m_toR_ext (m_el_ok h2)
          rw [this]
    rw [e]
  | inr o =>
    simp only [m_okc] at h
    show Sum.inr (o.1, o.2.map (m_tr X (L ++ L2))) = Sum.inr (o.1, o.2.map (m_tr X L))
    rw [m_trs_ext (fun v hv => List.all_eq_true.mp h v hv)]
theorem m_wd_get {X : Nat → Nat} {L : List Nat} {dA : Nat → ClassId} {w : List mM} {k a : Nat} {q : mM} (h1 : L[k]? = some a) (h2 : w[k]? = some q) : (m_wd X L dA w)[k]? = some (a, m_cell X L dA q) := by
  unfold m_wd
  rw [List.getElem?_zipWith, h1, h2]
theorem m_wd_of {X : Nat → Nat} {L : List Nat} {dA : Nat → ClassId} {w : List mM} {k : Nat} {r : Nat × va_E} (h : (m_wd X L dA w)[k]? = some r) : ∃ a q, L[k]? = some a ∧ w[k]? = some q ∧ r = (a, m_cell X L dA q) := by
  unfold m_wd at h
  rw [List.getElem?_zipWith] at h
  cases h1 : L[k]? with
  | none => rw [h1] at h; cases h
  | some a =>
    cases h2 : w[k]? with
    | none => rw [h1, h2] at h; cases h
    | some q => rw [h1, h2] at h; exact ⟨a, q, rfl, rfl, (Option.some.inj h).symm⟩
theorem m_wd_set {X : Nat → Nat} {L : List Nat} {dA : Nat → ClassId} {w : List mM} {k a : Nat} {q : mM} (h1 : L[k]? = some a) : m_wd X L dA (w.set k q) = (m_wd X L dA w).set k (a, m_cell X L dA q) := by
  apply List.ext_getElem?
  intro j
  by_cases hj : k = j
  · subst hj
    unfold m_wd
    rw [List.getElem?_zipWith, List.getElem?_set, List.getElem?_set, h1]
    have hL : k < L.length := (List.getElem?_eq_some_iff.mp h1).1
    by_cases hw : k < w.length
    · simp [hw, hL]; omega
    · simp [hw]; omega
  · unfold m_wd
    rw [List.getElem?_zipWith, List.getElem?_set_ne hj, List.getElem?_set_ne hj, List.getElem?_zipWith]
theorem m_wd_ext {X : Nat → Nat} {L L2 : List Nat} {dA : Nat → ClassId} {w : List mM} (hL : L.length = w.length) (hw : m_okw L.length w) : m_wd X (L ++ L2) dA w = m_wd X L dA w := by
  apply List.ext_getElem?
  intro j
  unfold m_wd
  rw [List.getElem?_zipWith, List.getElem?_zipWith]
  cases h2 : w[j]? with
  | none =>
    cases (L ++ L2)[j]? <;> cases L[j]? <;> rfl
  | some q =>
    have hj : j < L.length := by rw [hL]; exact (List.getElem?_eq_some_iff.mp h2).1
    rw [List.getElem?_append_left hj]
    cases h1 : L[j]? with
    | none => rfl
    | some a =>
      show some (a, m_cell X (L ++ L2) dA q) = some (a, m_cell X L dA q)
      rw [m_cell_ext (hw q (List.mem_of_getElem? h2))]
theorem m_wd_push {X : Nat → Nat} {L : List Nat} {dA : Nat → ClassId} {w : List mM} {a : Nat} {q : mM} (hL : L.length = w.length) (hw : m_okw L.length w) : m_wd X (L ++ [a]) dA (w ++ [q]) = m_wd X L dA w ++ [(a, m_cell X (L ++ [a]) dA q)] := by
  rw [← m_wd_ext (L2 := [a]) hL hw]
  unfold m_wd
  rw [List.zipWith_append hL]
  congr 1
  have : List.zipWith (fun a' q' => (a', m_cell X (L ++ [a]) dA q')) (L ++ [a]) w = List.zipWith (fun a' q' => (a', m_cell X (L ++ [a]) dA q')) L w := by
    apply List.ext_getElem?
    intro j
    rw [List.getElem?_zipWith, List.getElem?_zipWith]
    cases h2 : w[j]? with
    | none => cases (L ++ [a])[j]? <;> cases L[j]? <;> rfl
    | some q =>
      have hj : j < L.length := by rw [hL]; exact (List.getElem?_eq_some_iff.mp h2).1
      rw [List.getElem?_append_left hj]
  exact this.symm
theorem m_el_set {t j i : Nat} {els : List (Nat × Value)} {v : Value} : m_el t (m_sel els j v) i = if i = j then v else m_el t els i := by
  unfold m_el m_sel
  by_cases h : j = i
  · subst h; simp
  · have h2 : ¬ i = j := fun e => h e.symm
    rw [if_neg h2, List.find?_cons_of_neg (by simpa using h), List.find?_filter]
    have e : (fun a : Nat × Value => decide ((!(a.1 == j)) = true ∧ (a.1 == i) = true)) = (fun a => a.1 == i) := by
      funext a
      by_cases ha : a.1 = i
      · simp [ha, h2]
      · simp [ha]
    rw [e]
theorem m_arr_i {X : Nat → Nat} {L : List Nat} {t n : Nat} {els : List (Nat × Value)} (h1 : ¬ t = 1) (h6 : t < 6) : m_arr X L t n els = (n, .inl (fun j => m_toI (m_el t els j))) := by
  unfold m_arr; simp [h1, h6]
theorem m_arr_l {X : Nat → Nat} {L : List Nat} {n : Nat} {els : List (Nat × Value)} : m_arr X L 1 n els = (n, .inr (.inl (fun j => m_toL (m_el 1 els j)))) := by
  unfold m_arr; simp
theorem m_arr_q {X : Nat → Nat} {L : List Nat} {t n : Nat} {els : List (Nat × Value)} (h6 : ¬ t < 6) : m_arr X L t n els = (n, .inr (.inr (.inr (.inr (fun j => m_toR X L (m_el t els j)))))) := by
  have h1 : ¬ t = 1 := by omega
  unfold m_arr; simp [h1, h6]
theorem m_arr_seti {X : Nat → Nat} {L : List Nat} {t n j : Nat} {els : List (Nat × Value)} {x : Int32} (h1 : ¬ t = 1) (h6 : t < 6) : m_arr X L t n (m_sel els j (.int x)) = (n, .inl (upd (fun j => m_toI (m_el t els j)) j x)) := by
  rw [m_arr_i h1 h6]
  congr 2
  funext i
  rw [m_el_set]
  unfold upd
  split <;> rfl
theorem m_arr_setl {X : Nat → Nat} {L : List Nat} {n j : Nat} {els : List (Nat × Value)} {x : Int64} : m_arr X L 1 n (m_sel els j (.long x)) = (n, .inr (.inl (vp_updL (fun j => m_toL (m_el 1 els j)) j x))) := by
  rw [m_arr_l]
  congr 3
  funext i
  rw [m_el_set]
  unfold vp_updL
  split <;> rfl
theorem m_arr_setq {X : Nat → Nat} {L : List Nat} {t n j : Nat} {els : List (Nat × Value)} {v : Value} (h6 : ¬ t < 6) : m_arr X L t n (m_sel els j v) = (n, .inr (.inr (.inr (.inr (va_up (fun j => m_toR X L (m_el t els j)) j (m_toR X L v)))))) := by
  rw [m_arr_q h6]
  congr 5
  funext i
  rw [m_el_set]
  unfold va_up
  split <;> rfl
theorem m_okc_set {n k : Nat} {ci : Nat} {fs : List Value} {v : Value} (h : m_okc n (.inr (ci, fs)) = true) (hv : m_okv n v = true) : m_okc n (.inr (ci, fs.set k v)) = true := by
  simp only [m_okc, List.all_eq_true] at h ⊢
  intro x hx
  rcases List.mem_or_eq_of_mem_set hx with h1 | h1
  · exact h x h1
  · rw [h1]; exact hv
theorem m_okc_seta {n k : Nat} {t N : Nat} {els : List (Nat × Value)} {v : Value} (h : m_okc n (.inl (t, N, els)) = true) (hv : m_okv n v = true) : m_okc n (.inl (t, N, m_sel els k v)) = true := by
  simp only [m_okc, Bool.or_eq_true, List.all_eq_true] at h ⊢
  refine h.imp id (fun h x hx => ?_)
  rcases List.mem_cons.mp hx with h1 | h1
  · rw [h1]; exact hv
  · exact h x (List.mem_filter.mp h1).1
theorem m_okw_set {n k : Nat} {w : List mM} {q : mM} (h : m_okw n w) (hq : m_okc n q = true) : m_okw n (w.set k q) := by
  intro x hx
  rcases List.mem_or_eq_of_mem_set hx with h1 | h1
  · exact h x h1
  · rw [h1]; exact hq
theorem m_okw_push {n : Nat} {w : List mM} {q : mM} (h : m_okw n w) (hq : m_okc (n + 1) q = true) : m_okw (n + 1) (w ++ [q]) := by
  intro x hx
  rcases List.mem_append.mp hx with h1 | h1
  · exact m_okc_mono (h x h1) (Nat.le_succ n)
  · rw [List.mem_singleton.mp h1]; exact hq
end
section
/-! Names of the claim: classes, methods, pool entries: written by wip/tool/gen.py out of the Statement. -/
def m_gt : List Cond := lw_tbl.filter goodWord
theorem m_gt_of {w : Cond} (h : w ∈ lw_tbl) (hg : goodWord w = true) : w ∈ m_gt := List.mem_filter.mpr ⟨h, hg⟩
theorem m_gt_in {w : Cond} (h : w ∈ m_gt) : w ∈ lw_tbl := (List.mem_filter.mp h).1
theorem m_gt_good {w : Cond} (h : w ∈ m_gt) : goodWord w = true := (List.mem_filter.mp h).2
theorem m_in1 {w : Cond} (h : w ∈ tables_1_1) : w ∈ lw_tbl := List.mem_append_right _ (List.mem_append_left _ h)
theorem m_gi1 (i : Nat) {w : Cond} (h : tables_1_1[i]? = some w) (hg : goodWord w = true) : w ∈ m_gt := m_gt_of (m_in1 (List.mem_of_getElem? h)) hg
theorem m_in2 {w : Cond} (h : w ∈ tables_1_2) : w ∈ lw_tbl := List.mem_append_right _ (List.mem_append_right _ (List.mem_append_left _ h))
theorem m_gi2 (i : Nat) {w : Cond} (h : tables_1_2[i]? = some w) (hg : goodWord w = true) : w ∈ m_gt := m_gt_of (m_in2 (List.mem_of_getElem? h)) hg
theorem m_in3 {w : Cond} (h : w ∈ tables_1_3) : w ∈ lw_tbl := List.mem_append_right _ (List.mem_append_right _ (List.mem_append_right _ (List.mem_append_left _ h)))
theorem m_gi3 (i : Nat) {w : Cond} (h : tables_1_3[i]? = some w) (hg : goodWord w = true) : w ∈ m_gt := m_gt_of (m_in3 (List.mem_of_getElem? h)) hg
theorem m_in4 {w : Cond} (h : w ∈ tables_1_4) : w ∈ lw_tbl := List.mem_append_right _ (List.mem_append_right _ (List.mem_append_right _ (List.mem_append_right _ (List.mem_append_left _ h))))
theorem m_gi4 (i : Nat) {w : Cond} (h : tables_1_4[i]? = some w) (hg : goodWord w = true) : w ∈ m_gt := m_gt_of (m_in4 (List.mem_of_getElem? h)) hg
theorem m_in5 {w : Cond} (h : w ∈ tables_1_5) : w ∈ lw_tbl := List.mem_append_right _ (List.mem_append_right _ (List.mem_append_right _ (List.mem_append_right _ (List.mem_append_right _ (List.mem_append_left _ h)))))
theorem m_gi5 (i : Nat) {w : Cond} (h : tables_1_5[i]? = some w) (hg : goodWord w = true) : w ∈ m_gt := m_gt_of (m_in5 (List.mem_of_getElem? h)) hg
theorem m_in6 {w : Cond} (h : w ∈ tables_1_6) : w ∈ lw_tbl := List.mem_append_right _ (List.mem_append_right _ (List.mem_append_right _ (List.mem_append_right _ (List.mem_append_right _ (List.mem_append_right _ (List.mem_append_left _ h))))))
theorem m_gi6 (i : Nat) {w : Cond} (h : tables_1_6[i]? = some w) (hg : goodWord w = true) : w ∈ m_gt := m_gt_of (m_in6 (List.mem_of_getElem? h)) hg
theorem m_in7 {w : Cond} (h : w ∈ tables_1_7) : w ∈ lw_tbl := List.mem_append_right _ (List.mem_append_right _ (List.mem_append_right _ (List.mem_append_right _ (List.mem_append_right _ (List.mem_append_right _ (List.mem_append_right _ (List.mem_append_left _ h)))))))
theorem m_gi7 (i : Nat) {w : Cond} (h : tables_1_7[i]? = some w) (hg : goodWord w = true) : w ∈ m_gt := m_gt_of (m_in7 (List.mem_of_getElem? h)) hg
theorem m_in8 {w : Cond} (h : w ∈ tables_1_8) : w ∈ lw_tbl := List.mem_append_right _ (List.mem_append_right _ (List.mem_append_right _ (List.mem_append_right _ (List.mem_append_right _ (List.mem_append_right _ (List.mem_append_right _ (List.mem_append_right _ (List.mem_append_left _ h))))))))
theorem m_gi8 (i : Nat) {w : Cond} (h : tables_1_8[i]? = some w) (hg : goodWord w = true) : w ∈ m_gt := m_gt_of (m_in8 (List.mem_of_getElem? h)) hg
theorem m_in9 {w : Cond} (h : w ∈ tables_1_9) : w ∈ lw_tbl := List.mem_append_right _ (List.mem_append_right _ (List.mem_append_right _ (List.mem_append_right _ (List.mem_append_right _ (List.mem_append_right _ (List.mem_append_right _ (List.mem_append_right _ (List.mem_append_right _ (List.mem_append_left _ h)))))))))
theorem m_gi9 (i : Nat) {w : Cond} (h : tables_1_9[i]? = some w) (hg : goodWord w = true) : w ∈ m_gt := m_gt_of (m_in9 (List.mem_of_getElem? h)) hg
theorem m_in10 {w : Cond} (h : w ∈ tables_1_10) : w ∈ lw_tbl := List.mem_append_right _ (List.mem_append_right _ (List.mem_append_right _ (List.mem_append_right _ (List.mem_append_right _ (List.mem_append_right _ (List.mem_append_right _ (List.mem_append_right _ (List.mem_append_right _ (List.mem_append_right _ (List.mem_append_left _ h))))))))))
theorem m_gi10 (i : Nat) {w : Cond} (h : tables_1_10[i]? = some w) (hg : goodWord w = true) : w ∈ m_gt := m_gt_of (m_in10 (List.mem_of_getElem? h)) hg
theorem m_in11 {w : Cond} (h : w ∈ tables_1_11) : w ∈ lw_tbl := List.mem_append_right _ (List.mem_append_right _ (List.mem_append_right _ (List.mem_append_right _ (List.mem_append_right _ (List.mem_append_right _ (List.mem_append_right _ (List.mem_append_right _ (List.mem_append_right _ (List.mem_append_right _ (List.mem_append_right _ (List.mem_append_left _ h)))))))))))
theorem m_gi11 (i : Nat) {w : Cond} (h : tables_1_11[i]? = some w) (hg : goodWord w = true) : w ∈ m_gt := m_gt_of (m_in11 (List.mem_of_getElem? h)) hg
theorem m_in12 {w : Cond} (h : w ∈ tables_1_12) : w ∈ lw_tbl := List.mem_append_right _ (List.mem_append_right _ (List.mem_append_right _ (List.mem_append_right _ (List.mem_append_right _ (List.mem_append_right _ (List.mem_append_right _ (List.mem_append_right _ (List.mem_append_right _ (List.mem_append_right _ (List.mem_append_right _ (List.mem_append_right _ (h))))))))))))
theorem m_gi12 (i : Nat) {w : Cond} (h : tables_1_12[i]? = some w) (hg : goodWord w = true) : w ∈ m_gt := m_gt_of (m_in12 (List.mem_of_getElem? h)) hg
theorem m_gp (i : Nat) {w : Cond} (h : (k2_sels lw_privs)[i]? = some w) (hg : goodWord w = true) : w ∈ m_gt := m_gt_of (List.mem_append_left _ (List.mem_of_getElem? h)) hg
def R_0 : String := "EdgeHouse"
def F_0 : u_T := fun k => match k with
  | 0 => ("EdgeHouse", "reader", "LEdgeHouse$Reader;", true)
  | 1 => ("EdgeHouse", "things", "[LEdgeHouse$Told;", true)
  | 2 => ("EdgeHouse", "versions", "[I", true)
  | 3 => ("EdgeHouse", "nodes", "[LEdgeHouse$Node;", true)
  | 4 => ("EdgeHouse", "points", "[I", true)
  | 5 => ("EdgeHouse", "purgedBy", "[I", true)
  | 6 => ("EdgeHouse", "purgedWhich", "[I", true)
  | 7 => ("EdgeHouse", "post", "Ljava/util/ArrayList;", true)
  | 8 => ("EdgeHouse", "replies", "Ljava/util/ArrayList;", true)
  | 9 => ("EdgeHouse", "page", "Ljava/lang/StringBuilder;", true)
  | 10 => ("EdgeHouse", "answered", "I", false)
  | 11 => ("EdgeHouse", "lost", "I", false)
  | 12 => ("EdgeHouse", "acks", "I", false)
  | 13 => ("EdgeHouse", "order", "I", false)
  | _ => ("EdgeHouse", "clock", "I", false)
def Fl_0 : List FieldType := [(.object "EdgeHouse$Reader"), (.array (.object "EdgeHouse$Told")), (.array .int), (.array (.object "EdgeHouse$Node")), (.array .int), (.array .int), (.array .int), (.object "java/util/ArrayList"), (.object "java/util/ArrayList"), (.object "java/lang/StringBuilder"), .int, .int, .int, .int, .int]
def Fd_0 : List Value := [.null, .null, .null, .null, .null, .null, .null, .null, .null, .null, .int 0, .int 0, .int 0, .int 0, .int 0]
def R_1 : String := "EdgeHouse$Reader"
def F_1 : u_T := fun k => match k with
  | 0 => ("EdgeHouse$Reader", "tape", "[C", true)
  | 1 => ("EdgeHouse$Reader", "length", "I", false)
  | 2 => ("EdgeHouse$Reader", "at", "I", false)
  | 3 => ("EdgeHouse$Reader", "fault", "I", false)
  | 4 => ("EdgeHouse$Reader", "names", "[I", true)
  | 5 => ("EdgeHouse$Reader", "nameCount", "I", false)
  | 6 => ("EdgeHouse$Reader", "wordStart", "I", false)
  | 7 => ("EdgeHouse$Reader", "wordEnd", "I", false)
  | 8 => ("EdgeHouse$Reader", "bare", "Z", false)
  | 9 => ("EdgeHouse$Reader", "number", "I", false)
  | 10 => ("EdgeHouse$Reader", "path", "I", false)
  | 11 => ("EdgeHouse$Reader", "variant", "I", false)
  | 12 => ("EdgeHouse$Reader", "weights", "[I", true)
  | 13 => ("EdgeHouse$Reader", "request", "LEdgeHouse$Request;", false)
  | 14 => ("EdgeHouse$Reader", "conditions", "LEdgeHouse$Conditions;", false)
  | _ => ("EdgeHouse$Reader", "told", "LEdgeHouse$Told;", false)
def Fl_1 : List FieldType := [(.array .char), .int, .int, .int, (.array .int), .int, .int, .int, .boolean, .int, .int, .int, (.array .int), (.object "EdgeHouse$Request"), (.object "EdgeHouse$Conditions"), (.object "EdgeHouse$Told")]
def Fd_1 : List Value := [.null, .int 0, .int 0, .int 0, .null, .int 0, .int 0, .int 0, .int 0, .int 0, .int 0, .int 0, .null, .null, .null, .null]
def R_2 : String := "java/util/ArrayList"
def F_2 : u_T := fun k => match k with
  | 0 => ("java/util/ArrayList", "elementData", "[Ljava/lang/Object;", false)
  | 1 => ("java/util/ArrayList", "size", "I", false)
  | _ => ("java/util/AbstractList", "modCount", "I", false)
def Fl_2 : List FieldType := [(.array (.object "java/lang/Object")), .int, .int]
def Fd_2 : List Value := [.null, .int 0, .int 0]
def R_3 : String := "java/lang/StringBuilder"
def F_3 : u_T := fun k => match k with
  | 0 => ("java/lang/AbstractStringBuilder", "value", "[B", false)
  | 1 => ("java/lang/AbstractStringBuilder", "coder", "B", false)
  | 2 => ("java/lang/AbstractStringBuilder", "maybeLatin1", "Z", false)
  | _ => ("java/lang/AbstractStringBuilder", "count", "I", false)
def Fl_3 : List FieldType := [(.array .byte), .byte, .boolean, .int]
def Fd_3 : List Value := [.null, .int 0, .int 0, .int 0]
def R_4 : String := "EdgeHouse$Node"
def F_4 : u_T := fun k => match k with
  | 0 => ("EdgeHouse$Node", "id", "I", true)
  | 1 => ("EdgeHouse$Node", "store", "LEdgeHouse$Store;", true)
  | 2 => ("EdgeHouse$Node", "fetches", "Ljava/util/ArrayList;", true)
  | 3 => ("EdgeHouse$Node", "known", "[Z", true)
  | 4 => ("EdgeHouse$Node", "strikes", "[I", true)
  | 5 => ("EdgeHouse$Node", "shunUntil", "[I", true)
  | 6 => ("EdgeHouse$Node", "up", "Z", false)
  | 7 => ("EdgeHouse$Node", "seen", "I", false)
  | 8 => ("EdgeHouse$Node", "hits", "I", false)
  | 9 => ("EdgeHouse$Node", "misses", "I", false)
  | _ => ("EdgeHouse$Node", "lastNumber", "I", false)
def Fl_4 : List FieldType := [.int, (.object "EdgeHouse$Store"), (.object "java/util/ArrayList"), (.array .boolean), (.array .int), (.array .int), .boolean, .int, .int, .int, .int]
def Fd_4 : List Value := [.int 0, .null, .null, .null, .null, .null, .int 0, .int 0, .int 0, .int 0, .int 0]
def R_5 : String := "EdgeHouse$Store"
def F_5 : u_T := fun k => match k with
  | 0 => ("EdgeHouse$Store", "fresh", "Ljava/util/ArrayList;", true)
  | 1 => ("EdgeHouse$Store", "held", "Ljava/util/ArrayList;", true)
  | _ => ("EdgeHouse$Store", "budget", "I", false)
def Fl_5 : List FieldType := [(.object "java/util/ArrayList"), (.object "java/util/ArrayList"), .int]
def Fd_5 : List Value := [.null, .null, .int 0]
def R_6 : String := "EdgeHouse$Request"
def F_6 : u_T := fun k => match k with
  | 0 => ("EdgeHouse$Request", "path", "I", false)
  | 1 => ("EdgeHouse$Request", "variant", "I", false)
  | 2 => ("EdgeHouse$Request", "language", "I", false)
  | 3 => ("EdgeHouse$Request", "form", "I", false)
  | 4 => ("EdgeHouse$Request", "first", "I", false)
  | 5 => ("EdgeHouse$Request", "last", "I", false)
  | 6 => ("EdgeHouse$Request", "forced", "Z", false)
  | 7 => ("EdgeHouse$Request", "onlyIfCached", "Z", false)
  | 8 => ("EdgeHouse$Request", "maxAge", "I", false)
  | 9 => ("EdgeHouse$Request", "minFresh", "I", false)
  | 10 => ("EdgeHouse$Request", "maxStale", "I", false)
  | 11 => ("EdgeHouse$Request", "least", "I", false)
  | 12 => ("EdgeHouse$Request", "again", "Z", false)
  | 13 => ("EdgeHouse$Request", "conditions", "LEdgeHouse$Conditions;", false)
  | 14 => ("EdgeHouse$Request", "reply", "LEdgeHouse$Reply;", false)
  | 15 => ("EdgeHouse$Request", "edge", "I", false)
  | 16 => ("EdgeHouse$Request", "number", "I", false)
  | 17 => ("EdgeHouse$Request", "has", "I", false)
  | _ => ("EdgeHouse$Request", "behind", "LEdgeHouse$Request;", false)
def Fl_6 : List FieldType := [.int, .int, .int, .int, .int, .int, .boolean, .boolean, .int, .int, .int, .int, .boolean, (.object "EdgeHouse$Conditions"), (.object "EdgeHouse$Reply"), .int, .int, .int, (.object "EdgeHouse$Request")]
def Fd_6 : List Value := [.int 0, .int 0, .int 0, .int 0, .int 0, .int 0, .int 0, .int 0, .int 0, .int 0, .int 0, .int 0, .int 0, .null, .null, .int 0, .int 0, .int 0, .null]
def R_7 : String := "EdgeHouse$Conditions"
def F_7 : u_T := fun k => match k with
  | 0 => ("EdgeHouse$Conditions", "head", "Z", false)
  | 1 => ("EdgeHouse$Conditions", "range", "I", false)
  | 2 => ("EdgeHouse$Conditions", "first", "I", false)
  | 3 => ("EdgeHouse$Conditions", "last", "I", false)
  | 4 => ("EdgeHouse$Conditions", "anyTag", "Z", false)
  | 5 => ("EdgeHouse$Conditions", "tags", "[I", true)
  | 6 => ("EdgeHouse$Conditions", "tagCount", "I", false)
  | _ => ("EdgeHouse$Conditions", "ifRange", "I", false)
def Fl_7 : List FieldType := [.boolean, .int, .int, .int, .boolean, (.array .int), .int, .int]
def Fd_7 : List Value := [.int 0, .int 0, .int 0, .int 0, .int 0, .null, .int 0, .int 0]
def R_8 : String := "EdgeHouse$Reply"
def F_8 : u_T := fun k => match k with
  | 0 => ("EdgeHouse$Reply", "edge", "I", false)
  | 1 => ("EdgeHouse$Reply", "status", "I", false)
  | 2 => ("EdgeHouse$Reply", "head", "Z", false)
  | 3 => ("EdgeHouse$Reply", "version", "I", false)
  | 4 => ("EdgeHouse$Reply", "which", "I", false)
  | 5 => ("EdgeHouse$Reply", "vary", "I", false)
  | 6 => ("EdgeHouse$Reply", "age", "I", false)
  | 7 => ("EdgeHouse$Reply", "how", "I", false)
  | 8 => ("EdgeHouse$Reply", "length", "I", false)
  | 9 => ("EdgeHouse$Reply", "from", "I", false)
  | 10 => ("EdgeHouse$Reply", "count", "I", false)
  | 11 => ("EdgeHouse$Reply", "seed", "I", false)
  | 12 => ("EdgeHouse$Reply", "tick", "I", false)
  | _ => ("EdgeHouse$Reply", "text", "Ljava/lang/String;", false)
def Fl_8 : List FieldType := [.int, .int, .boolean, .int, .int, .int, .int, .int, .int, .int, .int, .int, .int, (.object "java/lang/String")]
def Fd_8 : List Value := [.int 0, .int 0, .int 0, .int 0, .int 0, .int 0, .int 0, .int 0, .int 0, .int 0, .int 0, .int 0, .int 0, .null]
def R_9 : String := "EdgeHouse$Message"
def F_9 : u_T := fun k => match k with
  | 0 => ("EdgeHouse$Message", "kind", "I", true)
  | 1 => ("EdgeHouse$Message", "from", "I", true)
  | 2 => ("EdgeHouse$Message", "to", "I", true)
  | 3 => ("EdgeHouse$Message", "number", "I", true)
  | 4 => ("EdgeHouse$Message", "path", "I", false)
  | 5 => ("EdgeHouse$Message", "variant", "I", false)
  | 6 => ("EdgeHouse$Message", "language", "I", false)
  | 7 => ("EdgeHouse$Message", "form", "I", false)
  | 8 => ("EdgeHouse$Message", "first", "I", false)
  | 9 => ("EdgeHouse$Message", "last", "I", false)
  | 10 => ("EdgeHouse$Message", "forced", "Z", false)
  | 11 => ("EdgeHouse$Message", "has", "I", false)
  | 12 => ("EdgeHouse$Message", "status", "I", false)
  | 13 => ("EdgeHouse$Message", "mark", "I", false)
  | 14 => ("EdgeHouse$Message", "which", "I", false)
  | 15 => ("EdgeHouse$Message", "told", "LEdgeHouse$Told;", false)
  | 16 => ("EdgeHouse$Message", "age", "I", false)
  | 17 => ("EdgeHouse$Message", "blocks", "I", false)
  | _ => ("EdgeHouse$Message", "sent", "I", false)
def Fl_9 : List FieldType := [.int, .int, .int, .int, .int, .int, .int, .int, .int, .int, .boolean, .int, .int, .int, .int, (.object "EdgeHouse$Told"), .int, .int, .int]
def Fd_9 : List Value := [.int 0, .int 0, .int 0, .int 0, .int 0, .int 0, .int 0, .int 0, .int 0, .int 0, .int 0, .int 0, .int 0, .int 0, .int 0, .null, .int 0, .int 0, .int 0]
def R_10 : String := "EdgeHouse$Fetch"
def F_10 : u_T := fun k => match k with
  | 0 => ("EdgeHouse$Fetch", "path", "I", true)
  | 1 => ("EdgeHouse$Fetch", "variant", "I", true)
  | 2 => ("EdgeHouse$Fetch", "language", "I", true)
  | 3 => ("EdgeHouse$Fetch", "form", "I", true)
  | 4 => ("EdgeHouse$Fetch", "forced", "Z", true)
  | 5 => ("EdgeHouse$Fetch", "first", "I", false)
  | 6 => ("EdgeHouse$Fetch", "last", "I", false)
  | 7 => ("EdgeHouse$Fetch", "number", "I", false)
  | 8 => ("EdgeHouse$Fetch", "to", "I", false)
  | 9 => ("EdgeHouse$Fetch", "least", "I", false)
  | 10 => ("EdgeHouse$Fetch", "since", "I", false)
  | 11 => ("EdgeHouse$Fetch", "waiting", "I", false)
  | 12 => ("EdgeHouse$Fetch", "head", "LEdgeHouse$Request;", false)
  | _ => ("EdgeHouse$Fetch", "tail", "LEdgeHouse$Request;", false)
def Fl_10 : List FieldType := [.int, .int, .int, .int, .boolean, .int, .int, .int, .int, .int, .int, .int, (.object "EdgeHouse$Request"), (.object "EdgeHouse$Request")]
def Fd_10 : List Value := [.int 0, .int 0, .int 0, .int 0, .int 0, .int 0, .int 0, .int 0, .int 0, .int 0, .int 0, .int 0, .null, .null]
def R_11 : String := "EdgeHouse$Entry"
def F_11 : u_T := fun k => match k with
  | 0 => ("EdgeHouse$Entry", "path", "I", true)
  | 1 => ("EdgeHouse$Entry", "variant", "I", true)
  | 2 => ("EdgeHouse$Entry", "told", "LEdgeHouse$Told;", true)
  | 3 => ("EdgeHouse$Entry", "which", "I", true)
  | 4 => ("EdgeHouse$Entry", "mark", "I", false)
  | 5 => ("EdgeHouse$Entry", "age", "I", false)
  | 6 => ("EdgeHouse$Entry", "came", "I", false)
  | 7 => ("EdgeHouse$Entry", "blocks", "I", false)
  | _ => ("EdgeHouse$Entry", "kept", "Z", false)
def Fl_11 : List FieldType := [.int, .int, (.object "EdgeHouse$Told"), .int, .int, .int, .int, .int, .boolean]
def Fd_11 : List Value := [.int 0, .int 0, .null, .int 0, .int 0, .int 0, .int 0, .int 0, .int 0]
def R_12 : String := "java/lang/String"
def F_12 : u_T := fun k => match k with
  | 0 => ("java/lang/String", "value", "[B", true)
  | 1 => ("java/lang/String", "coder", "B", true)
  | 2 => ("java/lang/String", "hash", "I", false)
  | _ => ("java/lang/String", "hashIsZero", "Z", false)
def Fl_12 : List FieldType := [(.array .byte), .byte, .int, .boolean]
def Fd_12 : List Value := [.null, .int 0, .int 0, .int 0]
def R_13 : String := "EdgeHouse$Told"
def F_13 : u_T := fun k => match k with
  | 0 => ("EdgeHouse$Told", "path", "I", false)
  | 1 => ("EdgeHouse$Told", "version", "I", false)
  | 2 => ("EdgeHouse$Told", "length", "I", false)
  | 3 => ("EdgeHouse$Told", "maxAge", "I", false)
  | 4 => ("EdgeHouse$Told", "staleIfError", "I", false)
  | 5 => ("EdgeHouse$Told", "staleWhile", "I", false)
  | 6 => ("EdgeHouse$Told", "noStore", "Z", false)
  | 7 => ("EdgeHouse$Told", "noCache", "Z", false)
  | 8 => ("EdgeHouse$Told", "keys", "I", false)
  | _ => ("EdgeHouse$Told", "vary", "I", false)
def Fl_13 : List FieldType := [.int, .int, .int, .int, .int, .int, .boolean, .boolean, .int, .int]
def Fd_13 : List Value := [.int 0, .int 0, .int 0, .int 0, .int 0, .int 0, .int 0, .int 0, .int 0, .int 0]
def R_14 : String := "EdgeHouseModel"
def F_14 : u_T := fun k => match k with
  | 0 => ("EdgeHouseModel", "thrown", "I", false)
  | 1 => ("EdgeHouseModel", "tape", "[I", true)
  | 2 => ("EdgeHouseModel", "taped", "I", false)
  | 3 => ("EdgeHouseModel", "fault", "I", false)
  | 4 => ("EdgeHouseModel", "at", "I", false)
  | 5 => ("EdgeHouseModel", "bad", "Z", false)
  | 6 => ("EdgeHouseModel", "badPlace", "I", false)
  | 7 => ("EdgeHouseModel", "path", "I", false)
  | 8 => ("EdgeHouseModel", "variant", "I", false)
  | 9 => ("EdgeHouseModel", "rangeKind", "I", false)
  | 10 => ("EdgeHouseModel", "rangeA", "I", false)
  | 11 => ("EdgeHouseModel", "rangeB", "I", false)
  | 12 => ("EdgeHouseModel", "matches", "I", false)
  | 13 => ("EdgeHouseModel", "maxAge", "I", false)
  | 14 => ("EdgeHouseModel", "maxStale", "I", false)
  | 15 => ("EdgeHouseModel", "minFresh", "I", false)
  | 16 => ("EdgeHouseModel", "isHead", "Z", false)
  | 17 => ("EdgeHouseModel", "star", "Z", false)
  | 18 => ("EdgeHouseModel", "noCache", "Z", false)
  | 19 => ("EdgeHouseModel", "onlyIfCached", "Z", false)
  | 20 => ("EdgeHouseModel", "ifRange", "I", false)
  | 21 => ("EdgeHouseModel", "weight", "[I", true)
  | 22 => ("EdgeHouseModel", "match", "[I", true)
  | 23 => ("EdgeHouseModel", "length", "I", false)
  | 24 => ("EdgeHouseModel", "keyMask", "I", false)
  | 25 => ("EdgeHouseModel", "live", "I", false)
  | 26 => ("EdgeHouseModel", "ifError", "I", false)
  | 27 => ("EdgeHouseModel", "ifLate", "I", false)
  | 28 => ("EdgeHouseModel", "vary", "I", false)
  | 29 => ("EdgeHouseModel", "noStore", "Z", false)
  | 30 => ("EdgeHouseModel", "thingNoCache", "Z", false)
  | 31 => ("EdgeHouseModel", "names", "I", false)
  | 32 => ("EdgeHouseModel", "nameFrom", "[I", true)
  | 33 => ("EdgeHouseModel", "nameTo", "[I", true)
  | 34 => ("EdgeHouseModel", "told", "[I", true)
  | 35 => ("EdgeHouseModel", "latest", "[I", true)
  | 36 => ("EdgeHouseModel", "clock", "I", false)
  | 37 => ("EdgeHouseModel", "order", "I", false)
  | 38 => ("EdgeHouseModel", "acks", "I", false)
  | 39 => ("EdgeHouseModel", "lost", "I", false)
  | 40 => ("EdgeHouseModel", "up", "[Z", true)
  | 41 => ("EdgeHouseModel", "budget", "[I", true)
  | 42 => ("EdgeHouseModel", "seen", "[I", true)
  | 43 => ("EdgeHouseModel", "hits", "[I", true)
  | 44 => ("EdgeHouseModel", "misses", "[I", true)
  | 45 => ("EdgeHouseModel", "fetches", "[I", true)
  | 46 => ("EdgeHouseModel", "purgesKnown", "[I", true)
  | 47 => ("EdgeHouseModel", "purgeNumber", "[I", true)
  | 48 => ("EdgeHouseModel", "purgeBy", "[I", true)
  | 49 => ("EdgeHouseModel", "purgeWhich", "[I", true)
  | 50 => ("EdgeHouseModel", "there", "[Z", true)
  | 51 => ("EdgeHouseModel", "kept", "[Z", true)
  | 52 => ("EdgeHouseModel", "entryTold", "[I", true)
  | 53 => ("EdgeHouseModel", "mark", "[I", true)
  | 54 => ("EdgeHouseModel", "age", "[I", true)
  | 55 => ("EdgeHouseModel", "since", "[I", true)
  | 56 => ("EdgeHouseModel", "blocks", "[I", true)
  | 57 => ("EdgeHouseModel", "turn", "[I", true)
  | 58 => ("EdgeHouseModel", "turns", "I", false)
  | 59 => ("EdgeHouseModel", "out", "[Z", true)
  | 60 => ("EdgeHouseModel", "outForced", "[Z", true)
  | 61 => ("EdgeHouseModel", "outNumber", "[I", true)
  | 62 => ("EdgeHouseModel", "outSince", "[I", true)
  | 63 => ("EdgeHouseModel", "outFirst", "[I", true)
  | 64 => ("EdgeHouseModel", "outLast", "[I", true)
  | 65 => ("EdgeHouseModel", "outLeast", "[I", true)
  | 66 => ("EdgeHouseModel", "outWants", "[I", true)
  | 67 => ("EdgeHouseModel", "outTo", "[I", true)
  | 68 => ("EdgeHouseModel", "strikes", "[I", true)
  | 69 => ("EdgeHouseModel", "shunned", "[I", true)
  | 70 => ("EdgeHouseModel", "asked", "I", false)
  | 71 => ("EdgeHouseModel", "answered", "I", false)
  | 72 => ("EdgeHouseModel", "requests", "[I", true)
  | 73 => ("EdgeHouseModel", "waitsYet", "[Z", true)
  | 74 => ("EdgeHouseModel", "waiting", "I", false)
  | 75 => ("EdgeHouseModel", "wait", "[I", true)
  | 76 => ("EdgeHouseModel", "taken", "[I", true)
  | 77 => ("EdgeHouseModel", "messages", "I", false)
  | 78 => ("EdgeHouseModel", "message", "[I", true)
  | 79 => ("EdgeHouseModel", "hand", "[I", true)
  | 80 => ("EdgeHouseModel", "wordFrom", "I", false)
  | 81 => ("EdgeHouseModel", "wordTo", "I", false)
  | 82 => ("EdgeHouseModel", "wordNumber", "I", false)
  | 83 => ("EdgeHouseModel", "now", "[I", true)
  | 84 => ("EdgeHouseModel", "nowMark", "I", false)
  | 85 => ("EdgeHouseModel", "nowAge", "I", false)
  | 86 => ("EdgeHouseModel", "nowBlocks", "I", false)
  | 87 => ("EdgeHouseModel", "nowWhich", "I", false)
  | 88 => ("EdgeHouseModel", "answers", "[I", true)
  | 89 => ("EdgeHouseModel", "came", "[I", true)
  | 90 => ("EdgeHouseModel", "text", "[I", true)
  | _ => ("EdgeHouseModel", "textLong", "I", false)
def Fl_14 : List FieldType := [.int, (.array .int), .int, .int, .int, .boolean, .int, .int, .int, .int, .int, .int, .int, .int, .int, .int, .boolean, .boolean, .boolean, .boolean, .int, (.array .int), (.array .int), .int, .int, .int, .int, .int, .int, .boolean, .boolean, .int, (.array .int), (.array .int), (.array .int), (.array .int), .int, .int, .int, .int, (.array .boolean), (.array .int), (.array .int), (.array .int), (.array .int), (.array .int), (.array .int), (.array .int), (.array .int), (.array .int), (.array .boolean), (.array .boolean), (.array .int), (.array .int), (.array .int), (.array .int), (.array .int), (.array .int), .int, (.array .boolean), (.array .boolean), (.array .int), (.array .int), (.array .int), (.array .int), (.array .int), (.array .int), (.array .int), (.array .int), (.array .int), .int, .int, (.array .int), (.array .boolean), .int, (.array .int), (.array .int), .int, (.array .int), (.array .int), .int, .int, .int, (.array .int), .int, .int, .int, .int, (.array .int), (.array .int), (.array .int), .int]
def Fd_14 : List Value := [.int 0, .null, .int 0, .int 0, .int 0, .int 0, .int 0, .int 0, .int 0, .int 0, .int 0, .int 0, .int 0, .int 0, .int 0, .int 0, .int 0, .int 0, .int 0, .int 0, .int 0, .null, .null, .int 0, .int 0, .int 0, .int 0, .int 0, .int 0, .int 0, .int 0, .int 0, .null, .null, .null, .null, .int 0, .int 0, .int 0, .int 0, .null, .null, .null, .null, .null, .null, .null, .null, .null, .null, .null, .null, .null, .null, .null, .null, .null, .null, .int 0, .null, .null, .null, .null, .null, .null, .null, .null, .null, .null, .null, .int 0, .int 0, .null, .null, .int 0, .null, .null, .int 0, .null, .null, .int 0, .int 0, .int 0, .null, .int 0, .int 0, .int 0, .int 0, .null, .null, .null, .int 0]
def m_cl : List vw_C := [(R_0, F_0, 15), (R_1, F_1, 16), (R_2, F_2, 3), (R_3, F_3, 4), (R_4, F_4, 11), (R_5, F_5, 3), (R_6, F_6, 19), (R_7, F_7, 8), (R_8, F_8, 14), (R_9, F_9, 19), (R_10, F_10, 14), (R_11, F_11, 9), (R_12, F_12, 4), (R_13, F_13, 10), (R_14, F_14, 92)]
def m_fl : List (List FieldType) := [Fl_0, Fl_1, Fl_2, Fl_3, Fl_4, Fl_5, Fl_6, Fl_7, Fl_8, Fl_9, Fl_10, Fl_11, Fl_12, Fl_13, Fl_14]
def m_fd : List (List Value) := [Fd_0, Fd_1, Fd_2, Fd_3, Fd_4, Fd_5, Fd_6, Fd_7, Fd_8, Fd_9, Fd_10, Fd_11, Fd_12, Fd_13, Fd_14]
def m_tyl : List FieldType := [.int, .long, .char, .byte, .boolean, .int, .object "EdgeHouse$Told", .object "EdgeHouse$Node", .object "java/lang/Object"]
def m_obl : List String := ["EdgeHouse$Told", "EdgeHouse$Node", "java/lang/Object"]
abbrev mI : Type := MethodName × ByteArray × Nat × Nat × Option FieldType × List (Nat × Nat × Nat × Nat) × List (Nat × Nat × Nat × Nat) × List (Nat × Nat × Nat × Value) × List (Nat × Instr × Nat)
def Kk_0 : List (Nat × Instr × Nat) := [(0, .aload_n 0, 1), (1, .invokespecial 1, 3), (4, .aload_n 0, 1), (5, .new 7, 3), (8, .dup, 1), (9, .invokespecial 9, 3), (12, .putfield 10, 3), (15, .aload_n 0, 1), (16, .bipush 32, 2), (18, .anewarray 16, 3), (21, .putfield 18, 3), (24, .aload_n 0, 1), (25, .bipush 32, 2), (27, .newarray .int, 2), (29, .putfield 22, 3), (32, .aload_n 0, 1), (33, .bipush 7, 2), (35, .anewarray 26, 3), (38, .putfield 28, 3), (41, .aload_n 0, 1), (42, .bipush 28, 2), (44, .newarray .int, 2), (46, .putfield 32, 3), (49, .aload_n 0, 1), (50, .bipush 61, 2), (52, .newarray .int, 2), (54, .putfield 35, 3), (57, .aload_n 0, 1), (58, .bipush 61, 2), (60, .newarray .int, 2), (62, .putfield 38, 3), (65, .aload_n 0, 1), (66, .new 41, 3), (69, .dup, 1), (70, .invokespecial 43, 3), (73, .putfield 44, 3), (76, .aload_n 0, 1), (77, .new 41, 3), (80, .dup, 1), (81, .invokespecial 43, 3), (84, .putfield 48, 3), (87, .aload_n 0, 1), (88, .new 51, 3), (91, .dup, 1), (92, .invokespecial 53, 3), (95, .putfield 54, 3), (98, .iconst 0, 1), (99, .istore_n 1, 1), (100, .iload_n 1, 1), (101, .bipush 6, 2), (103, .if_icmp .gt 51, 3), (106, .aload_n 0, 1), (107, .getfield 28, 3), (110, .iload_n 1, 1), (111, .new 26, 3), (114, .dup, 1), (115, .iload_n 1, 1), (116, .invokespecial 58, 3), (119, .aastore, 1), (120, .iconst 0, 1), (121, .istore_n 2, 1), (122, .iload_n 2, 1), (123, .iconst 4, 1), (124, .if_icmp .ge 24, 3), (127, .aload_n 0, 1), (128, .getfield 32, 3), (131, .iload_n 1, 1), (132, .iconst 4, 1), (133, .imul, 1), (134, .iload_n 2, 1), (135, .iadd, 1), (136, .iload_n 1, 1), (137, .iload_n 2, 1), (138, .invokestatic 61, 3), (141, .iastore, 1), (142, .iinc 2 1, 3), (145, .goto (-23), 3), (148, .iinc 1 1, 3), (151, .goto (-51), 3), (154, .return_, 1)]
def M_0 : mI := (⟨"EdgeHouse", "<init>", "()V"⟩, prog_1_method_1_code, 3, 0, none, [(10, 0, 0, 2), (18, 0, 1, 2), (22, 0, 2, 2), (28, 0, 3, 2), (32, 0, 4, 2), (35, 0, 5, 2), (38, 0, 6, 2), (44, 0, 7, 2), (48, 0, 8, 2), (54, 0, 9, 2)], [(1, 4, 0, 0), (9, 3, 1, 0), (43, 0, 2, 0), (53, 0, 5, 0), (58, 0, 9, 0), (61, 2, 11, 0)], [(7, 0, 1, .null), (16, 1, 6, .null), (26, 0, 4, .null), (26, 1, 7, .null), (41, 0, 2, .null), (51, 0, 3, .null)], Kk_0)
def Kk_1 : List (Nat × Instr × Nat) := [(0, .aload_n 0, 1), (1, .invokespecial 3, 3), (4, .aload_n 0, 1), (5, .sipush 300, 3), (8, .newarray .char, 2), (10, .putfield 11, 3), (13, .aload_n 0, 1), (14, .iconst (-1), 1), (15, .putfield 15, 3), (18, .aload_n 0, 1), (19, .sipush 300, 3), (22, .newarray .int, 2), (24, .putfield 19, 3), (27, .aload_n 0, 1), (28, .iconst 4, 1), (29, .newarray .int, 2), (31, .putfield 23, 3), (34, .return_, 1)]
def M_1 : mI := (⟨"EdgeHouse$Reader", "<init>", "()V"⟩, prog_7_method_1_code, 1, 0, none, [(11, 1, 0, 2), (15, 1, 3, 1), (19, 1, 4, 2), (23, 1, 12, 2)], [(3, 4, 0, 0)], [], Kk_1)
def Kk_2 : List (Nat × Instr × Nat) := [(0, .aload_n 0, 1), (1, .invokespecial 1, 3), (4, .aload_n 0, 1), (5, .getstatic 39, 3), (8, .putfield 9, 3), (11, .return_, 1)]
def M_2 : mI := (⟨"java/util/ArrayList", "<init>", "()V"⟩, prog_34_method_2_code, 1, 0, none, [(9, 2, 0, 1)], [(1, 0, 3, 0)], [(39, 4, 0, .ref 0)], Kk_2)
def Kk_3 : List (Nat × Instr × Nat) := [(0, .aload_n 0, 1), (1, .invokespecial 1, 3), (4, .aload_n 0, 1), (5, .iconst 0, 1), (6, .putfield 7, 3), (9, .return_, 1)]
def M_3 : mI := (⟨"java/util/AbstractList", "<init>", "()V"⟩, prog_33_method_1_code, 1, 0, none, [(7, 2, 2, 1)], [(1, 0, 4, 0)], [], Kk_3)
def Kk_4 : List (Nat × Instr × Nat) := [(0, .aload_n 0, 1), (1, .invokespecial 1, 3), (4, .return_, 1)]
def M_4 : mI := (⟨"java/util/AbstractCollection", "<init>", "()V"⟩, prog_32_method_1_code, 1, 0, none, [], [(1, 4, 0, 0)], [], Kk_4)
def Kk_5 : List (Nat × Instr × Nat) := [(0, .aload_n 0, 1), (1, .bipush 16, 2), (3, .invokespecial 1, 3), (6, .return_, 1)]
def M_5 : mI := (⟨"java/lang/StringBuilder", "<init>", "()V"⟩, prog_26_method_1_code, 1, 0, none, [], [(1, 0, 6, 0)], [], Kk_5)
def Kk_6 : List (Nat × Instr × Nat) := [(0, .aload_n 0, 1), (1, .invokespecial 3, 3), (4, .getstatic 18, 3), (7, .ifCond .eq 18, 3), (10, .aload_n 0, 1), (11, .iload_n 1, 1), (12, .newarray .byte, 2), (14, .putfield 15, 3), (17, .aload_n 0, 1), (18, .iconst 0, 1), (19, .putfield 22, 3), (22, .goto 16, 3), (25, .aload_n 0, 1), (26, .iload_n 1, 1), (27, .invokestatic 26, 3), (30, .putfield 15, 3), (33, .aload_n 0, 1), (34, .iconst 1, 1), (35, .putfield 22, 3), (38, .return_, 1)]
def M_6 : mI := (⟨"java/lang/AbstractStringBuilder", "<init>", "(I)V"⟩, prog_15_method_2_code, 2, 1, none, [(15, 3, 0, 1), (22, 3, 1, 1)], [(3, 4, 0, 0), (26, 2, 7, 0)], [(18, 4, 0, .int 1)], Kk_6)
def Kk_7 : List (Nat × Instr × Nat) := [(0, .iload_n 0, 1), (1, .invokestatic 11, 3), (4, .newarray .byte, 2), (6, .areturn, 1)]
def M_7 : mI := (⟨"java/lang/StringUTF16", "newBytesFor", "(I)[B"⟩, prog_29_method_2_code, 1, 1, (some (FieldType.array FieldType.byte)), [], [(11, 2, 8, 0)], [], Kk_7)
def Kk_8 : List (Nat × Instr × Nat) := [(0, .iload_n 0, 1), (1, .ifCond .ge 11, 3), (4, .new 17, 3), (7, .dup, 1), (8, .invokespecial 19, 3), (11, .athrow, 1), (12, .iload_n 0, 1), (13, .ldc 20, 2), (15, .if_icmp .lt 40, 3), (18, .new 21, 3), (21, .dup, 1), (22, .new 23, 3), (25, .dup, 1), (26, .invokespecial 25, 3), (29, .ldc 26, 2), (31, .invokevirtual 28, 3), (34, .iload_n 0, 1), (35, .invokevirtual 32, 3), (38, .ldc 35, 2), (40, .invokevirtual 28, 3), (43, .ldc 20, 2), (45, .invokevirtual 32, 3), (48, .invokevirtual 37, 3), (51, .invokespecial 41, 3), (54, .athrow, 1), (55, .iload_n 0, 1), (56, .iconst 1, 1), (57, .ishl, 1), (58, .ireturn, 1)]
def M_8 : mI := (⟨"java/lang/StringUTF16", "newBytesLength", "(I)I"⟩, prog_29_method_3_code, 1, 1, (some FieldType.int), [], [], [(20, 2, 0, .int (1073741823))], Kk_8)
def Kk_9 : List (Nat × Instr × Nat) := [(0, .aload_n 0, 1), (1, .invokespecial 3, 3), (4, .aload_n 0, 1), (5, .new 9, 3), (8, .dup, 1), (9, .invokespecial 11, 3), (12, .putfield 12, 3), (15, .aload_n 0, 1), (16, .new 18, 3), (19, .dup, 1), (20, .invokespecial 20, 3), (23, .putfield 21, 3), (26, .aload_n 0, 1), (27, .bipush 61, 2), (29, .newarray .boolean, 2), (31, .putfield 25, 3), (34, .aload_n 0, 1), (35, .iconst 3, 1), (36, .newarray .int, 2), (38, .putfield 29, 3), (41, .aload_n 0, 1), (42, .iconst 3, 1), (43, .newarray .int, 2), (45, .putfield 33, 3), (48, .aload_n 0, 1), (49, .iconst 1, 1), (50, .putfield 36, 3), (53, .aload_n 0, 1), (54, .iload_n 1, 1), (55, .putfield 40, 3), (58, .return_, 1)]
def M_9 : mI := (⟨"EdgeHouse$Node", "<init>", "(I)V"⟩, prog_6_method_1_code, 2, 1, none, [(12, 4, 1, 2), (21, 4, 2, 2), (25, 4, 3, 2), (29, 4, 4, 2), (33, 4, 5, 2), (36, 4, 6, 1), (40, 4, 0, 2)], [(3, 4, 0, 0), (11, 3, 10, 0), (20, 0, 2, 0)], [(9, 0, 5, .null), (18, 0, 2, .null)], Kk_9)
def Kk_10 : List (Nat × Instr × Nat) := [(0, .aload_n 0, 1), (1, .invokespecial 3, 3), (4, .aload_n 0, 1), (5, .new 9, 3), (8, .dup, 1), (9, .invokespecial 11, 3), (12, .putfield 12, 3), (15, .aload_n 0, 1), (16, .new 9, 3), (19, .dup, 1), (20, .invokespecial 11, 3), (23, .putfield 18, 3), (26, .aload_n 0, 1), (27, .sipush 1000, 3), (30, .putfield 21, 3), (33, .return_, 1)]
def M_10 : mI := (⟨"EdgeHouse$Store", "<init>", "()V"⟩, prog_10_method_1_code, 1, 0, none, [(12, 5, 0, 2), (18, 5, 1, 2), (21, 5, 2, 1)], [(3, 4, 0, 0), (11, 0, 2, 0)], [(9, 0, 2, .null)], Kk_10)
def Kk_11 : List (Nat × Instr × Nat) := [(0, .iload_n 0, 1), (1, .ldc_w 264, 3), (4, .imul, 1), (5, .iload_n 1, 1), (6, .ldc_w 265, 3), (9, .imul, 1), (10, .iadd, 1), (11, .istore_n 2, 1), (12, .iload_n 2, 1), (13, .iload_n 2, 1), (14, .bipush 15, 2), (16, .iushr, 1), (17, .ixor, 1), (18, .istore_n 2, 1), (19, .iload_n 2, 1), (20, .ldc_w 266, 3), (23, .imul, 1), (24, .istore_n 2, 1), (25, .iload_n 2, 1), (26, .iload_n 2, 1), (27, .bipush 12, 2), (29, .iushr, 1), (30, .ixor, 1), (31, .istore_n 2, 1), (32, .iload_n 2, 1), (33, .bipush 16, 2), (35, .iushr, 1), (36, .ireturn, 1)]
def M_11 : mI := (⟨"EdgeHouse", "hash", "(II)I"⟩, prog_1_method_24_code, 3, 2, (some FieldType.int), [], [], [(264, 2, 0, .int (-1640531535)), (265, 2, 0, .int (-2048144789)), (266, 2, 0, .int (739982445))], Kk_11)
def Kk_12 : List (Nat × Instr × Nat) := [(0, .aload_n 0, 1), (1, .getfield 10, 3), (4, .lload_n 1, 1), (5, .iload_n 3, 1), (6, .invokevirtual 65, 3), (9, .ireturn, 1)]
def M_12 : mI := (⟨"EdgeHouse", "type", "(JI)Z"⟩, prog_1_method_2_code, 4, 2, (some FieldType.boolean), [(10, 0, 0, 0)], [(65, 1, 13, 1)], [], Kk_12)
def Kk_13 : List (Nat × Instr × Nat) := [(0, .iload_n 3, 1), (1, .iconst 1, 1), (2, .if_icmp .lt 21, 3), (5, .iload_n 3, 1), (6, .bipush 8, 2), (8, .if_icmp .gt 15, 3), (11, .aload_n 0, 1), (12, .getfield 26, 3), (15, .iload_n 3, 1), (16, .iadd, 1), (17, .sipush 300, 3), (20, .if_icmp .le 5, 3), (23, .iconst 0, 1), (24, .ireturn, 1), (25, .iconst 0, 1), (26, .istore 4, 2), (28, .iload 4, 2), (30, .iload_n 3, 1), (31, .if_icmp .ge 46, 3), (34, .lload_n 1, 1), (35, .bipush 8, 2), (37, .iload 4, 2), (39, .imul, 1), (40, .lushr, 1), (41, .ldc2_w 29, 3), (44, .land, 1), (45, .l2i, 1), (46, .istore 5, 2), (48, .iload 5, 2), (50, .bipush 10, 2), (52, .if_icmp .eq 19, 3), (55, .iload 5, 2), (57, .bipush 32, 2), (59, .if_icmp .lt 10, 3), (62, .iload 5, 2), (64, .bipush 126, 2), (66, .if_icmp .le 5, 3), (69, .iconst 0, 1), (70, .ireturn, 1), (71, .iinc 4 1, 3), (74, .goto (-46), 3), (77, .iload_n 3, 1), (78, .iconst 1, 1), (79, .isub, 1), (80, .istore 4, 2), (82, .iload 4, 2), (84, .ifCond .lt 41, 3), (87, .aload_n 0, 1), (88, .getfield 11, 3), (91, .aload_n 0, 1), (92, .getfield 26, 3), (95, .lload_n 1, 1), (96, .bipush 8, 2), (98, .iload 4, 2), (100, .imul, 1), (101, .lushr, 1), (102, .ldc2_w 29, 3), (105, .land, 1), (106, .l2i, 1), (107, .i2c, 1), (108, .castore, 1), (109, .aload_n 0, 1), (110, .dup, 1), (111, .getfield 26, 3), (114, .iconst 1, 1), (115, .iadd, 1), (116, .putfield 26, 3), (119, .iinc 4 (-1), 3), (122, .goto (-40), 3), (125, .iconst 1, 1), (126, .ireturn, 1)]
def M_13 : mI := (⟨"EdgeHouse$Reader", "write", "(JI)Z"⟩, prog_7_method_2_code, 6, 2, (some FieldType.boolean), [(11, 1, 0, 0), (26, 1, 1, 1)], [], [(29, 3, 0, .long (255))], Kk_13)
def Kk_14 : List (Nat × Instr × Nat) := [(0, .iload_n 1, 1), (1, .invokestatic 80, 3), (4, .ifCond .eq 12, 3), (7, .aload_n 0, 1), (8, .getfield 18, 3), (11, .iload_n 1, 1), (12, .aaload, 1), (13, .ifnonnull 5, 3), (16, .iconst 0, 1), (17, .ireturn, 1), (18, .aload_n 0, 1), (19, .getfield 18, 3), (22, .iload_n 1, 1), (23, .aconst_null, 1), (24, .aastore, 1), (25, .iconst 1, 1), (26, .ireturn, 1)]
def M_14 : mI := (⟨"EdgeHouse", "drop", "(I)Z"⟩, prog_1_method_4_code, 2, 1, (some FieldType.boolean), [(18, 0, 1, 0)], [(80, 2, 15, 0)], [], Kk_14)
def Kk_15 : List (Nat × Instr × Nat) := [(0, .iload_n 0, 1), (1, .ifCond .lt 13, 3), (4, .iload_n 0, 1), (5, .bipush 32, 2), (7, .if_icmp .ge 7, 3), (10, .iconst 1, 1), (11, .goto 4, 3), (14, .iconst 0, 1), (15, .ireturn, 1)]
def M_15 : mI := (⟨"EdgeHouse", "isPath", "(I)Z"⟩, prog_1_method_21_code, 1, 1, (some FieldType.boolean), [], [], [], Kk_15)
def Kk_16 : List (Nat × Instr × Nat) := [(0, .aload_n 0, 1), (1, .getfield 48, 3), (4, .invokevirtual 94, 3), (7, .istore_n 1, 1), (8, .iload_n 1, 1), (9, .sipush 300, 3), (12, .if_icmp .lt 5, 3), (15, .iconst (-1), 1), (16, .ireturn, 1), (17, .aload_n 0, 1), (18, .getfield 10, 3), (21, .invokevirtual 98, 3), (24, .astore_n 2, 1), (25, .aload_n 0, 1), (26, .getfield 10, 3), (29, .invokevirtual 73, 3), (32, .new 102, 3), (35, .dup, 1), (36, .invokespecial 104, 3), (39, .astore_n 3, 1), (40, .aload_n 0, 1), (41, .getfield 48, 3), (44, .aload_n 3, 1), (45, .invokevirtual 105, 3), (48, .pop, 1), (49, .aload_n 2, 1), (50, .ifnonnull 13, 3), (53, .aload_n 0, 1), (54, .aload_n 3, 1), (55, .sipush 400, 3), (58, .invokevirtual 109, 3), (61, .iload_n 1, 1), (62, .ireturn, 1), (63, .aload_n 2, 1), (64, .aload_n 3, 1), (65, .putfield 113, 3), (68, .aload_n 0, 1), (69, .iconst 3, 1), (70, .bipush 6, 2), (72, .aload_n 2, 1), (73, .getfield 119, 3), (76, .aload_n 2, 1), (77, .getfield 120, 3), (80, .aconst_null, 1), (81, .invokevirtual 123, 3), (84, .istore 4, 2), (86, .iload 4, 2), (88, .iconst (-1), 1), (89, .if_icmp .ne 13, 3), (92, .aload_n 0, 1), (93, .aload_n 3, 1), (94, .sipush 503, 3), (97, .invokevirtual 109, 3), (100, .iload_n 1, 1), (101, .ireturn, 1), (102, .aload_n 3, 1), (103, .iload 4, 2), (105, .putfield 127, 3), (108, .aload_n 0, 1), (109, .aload_n 0, 1), (110, .getfield 28, 3), (113, .iload 4, 2), (115, .aaload, 1), (116, .aload_n 2, 1), (117, .invokevirtual 130, 3), (120, .iload_n 1, 1), (121, .ireturn, 1)]
def M_16 : mI := (⟨"EdgeHouse", "ask", "()I"⟩, prog_1_method_5_code, 5, 0, (some FieldType.int), [(10, 0, 0, 0), (28, 0, 3, 0), (48, 0, 8, 0), (113, 6, 14, 1), (119, 6, 0, 1), (120, 6, 1, 1), (127, 8, 0, 1)], [(73, 1, 60, 1), (94, 1, 17, 2), (98, 1, 18, 1), (104, 3, 61, 0), (105, 1, 62, 2), (109, 1, 70, 0), (123, 1, 71, 0), (130, 1, 73, 0)], [(102, 0, 8, .null)], Kk_16)
def Kk_17 : List (Nat × Instr × Nat) := [(0, .aload_n 0, 1), (1, .getfield 48, 3), (4, .ireturn, 1)]
def M_17 : mI := (⟨"java/util/ArrayList", "size", "()I"⟩, prog_34_method_8_code, 1, 0, (some FieldType.int), [(48, 2, 1, 1)], [], [], Kk_17)
def Kk_18 : List (Nat × Instr × Nat) := [(0, .aload_n 0, 1), (1, .invokevirtual 31, 3), (4, .aload_n 0, 1), (5, .new 73, 3), (8, .dup, 1), (9, .invokespecial 75, 3), (12, .putfield 76, 3), (15, .aload_n 0, 1), (16, .new 80, 3), (19, .dup, 1), (20, .invokespecial 82, 3), (23, .putfield 83, 3), (26, .aload_n 0, 1), (27, .getfield 83, 3), (30, .aload_n 0, 1), (31, .invokevirtual 51, 3), (34, .bipush 72, 2), (36, .if_icmp .ne 7, 3), (39, .iconst 1, 1), (40, .goto 4, 3), (43, .iconst 0, 1), (44, .putfield 87, 3), (47, .aload_n 0, 1), (48, .aload_n 0, 1), (49, .getfield 83, 3), (52, .getfield 87, 3), (55, .ifCond .eq 8, 3), (58, .ldc 91, 2), (60, .goto 5, 3), (63, .ldc 93, 2), (65, .invokevirtual 43, 3), (68, .ifCond .eq 15, 3), (71, .aload_n 0, 1), (72, .iconst 1, 1), (73, .invokevirtual 47, 3), (76, .ifCond .eq 7, 3), (79, .iconst 1, 1), (80, .goto 4, 3), (83, .iconst 0, 1), (84, .istore_n 1, 1), (85, .iconst 0, 1), (86, .istore_n 2, 1), (87, .iload_n 2, 1), (88, .sipush 300, 3), (91, .if_icmp .ge 51, 3), (94, .iload_n 1, 1), (95, .ifCond .eq 47, 3), (98, .aload_n 0, 1), (99, .invokevirtual 51, 3), (102, .bipush 10, 2), (104, .if_icmp .eq 38, 3), (107, .aload_n 0, 1), (108, .invokevirtual 55, 3), (111, .ifCond .eq 23, 3), (114, .aload_n 0, 1), (115, .invokevirtual 95, 3), (118, .ifCond .eq 16, 3), (121, .aload_n 0, 1), (122, .bipush 10, 2), (124, .invokevirtual 62, 3), (127, .ifCond .eq 7, 3), (130, .iconst 1, 1), (131, .goto 4, 3), (134, .iconst 0, 1), (135, .istore_n 1, 1), (136, .iinc 2 1, 3), (139, .goto (-52), 3), (142, .iload_n 1, 1), (143, .ifCond .eq 10, 3), (146, .aload_n 0, 1), (147, .invokevirtual 66, 3), (150, .ifCond .ne 5, 3), (153, .aconst_null, 1), (154, .areturn, 1), (155, .aload_n 0, 1), (156, .getfield 76, 3), (159, .aload_n 0, 1), (160, .getfield 69, 3), (163, .putfield 98, 3), (166, .aload_n 0, 1), (167, .getfield 76, 3), (170, .aload_n 0, 1), (171, .getfield 99, 3), (174, .putfield 102, 3), (177, .aload_n 0, 1), (178, .getfield 76, 3), (181, .aload_n 0, 1), (182, .invokevirtual 103, 3), (185, .putfield 107, 3), (188, .aload_n 0, 1), (189, .getfield 76, 3), (192, .aload_n 0, 1), (193, .getfield 83, 3), (196, .putfield 110, 3), (199, .aload_n 0, 1), (200, .getfield 76, 3), (203, .invokevirtual 111, 3), (206, .aload_n 0, 1), (207, .getfield 76, 3), (210, .areturn, 1)]
def M_18 : mI := (⟨"EdgeHouse$Reader", "readRequest", "()LEdgeHouse$Request;"⟩, prog_7_method_5_code, 3, 0, (some (FieldType.object "EdgeHouse$Request")), [(69, 1, 10, 1), (76, 1, 13, 1), (83, 1, 14, 1), (87, 7, 0, 1), (98, 6, 0, 1), (99, 1, 11, 1), (102, 6, 1, 1), (107, 6, 2, 1), (110, 6, 13, 1)], [(31, 1, 19, 1), (43, 1, 23, 1), (47, 1, 37, 1), (51, 1, 22, 1), (55, 1, 40, 1), (62, 1, 35, 1), (66, 1, 57, 1), (75, 0, 20, 0), (82, 3, 21, 0), (95, 1, 44, 1), (103, 1, 58, 1), (111, 1, 59, 6)], [(73, 0, 6, .null), (80, 0, 7, .null), (91, 5, 6, .null), (93, 5, 7, .null)], Kk_18)
def Kk_19 : List (Nat × Instr × Nat) := [(0, .aload_n 0, 1), (1, .iconst 0, 1), (2, .putfield 114, 3), (5, .aload_n 0, 1), (6, .iconst (-1), 1), (7, .putfield 15, 3), (10, .aload_n 0, 1), (11, .iconst 0, 1), (12, .putfield 117, 3), (15, .iconst 0, 1), (16, .istore_n 1, 1), (17, .iload_n 1, 1), (18, .aload_n 0, 1), (19, .getfield 23, 3), (22, .arraylength, 1), (23, .if_icmp .ge 16, 3), (26, .aload_n 0, 1), (27, .getfield 23, 3), (30, .iload_n 1, 1), (31, .iconst 0, 1), (32, .iastore, 1), (33, .iinc 1 1, 3), (36, .goto (-19), 3), (39, .return_, 1)]
def M_19 : mI := (⟨"EdgeHouse$Reader", "begin", "()V"⟩, prog_7_method_6_code, 2, 0, none, [(15, 1, 3, 1), (23, 1, 12, 0), (114, 1, 2, 1), (117, 1, 5, 1)], [], [], Kk_19)
def Kk_20 : List (Nat × Instr × Nat) := [(0, .aload_n 0, 1), (1, .invokespecial 3, 3), (4, .aload_n 0, 1), (5, .bipush 15, 2), (7, .putfield 9, 3), (10, .aload_n 0, 1), (11, .iconst (-1), 1), (12, .putfield 15, 3), (15, .aload_n 0, 1), (16, .iconst (-1), 1), (17, .putfield 18, 3), (20, .aload_n 0, 1), (21, .iconst (-1), 1), (22, .putfield 21, 3), (25, .return_, 1)]
def M_20 : mI := (⟨"EdgeHouse$Request", "<init>", "()V"⟩, prog_9_method_1_code, 1, 0, none, [(9, 6, 5, 1), (15, 6, 8, 1), (18, 6, 9, 1), (21, 6, 10, 1)], [(3, 4, 0, 0)], [], Kk_20)
def Kk_21 : List (Nat × Instr × Nat) := [(0, .aload_n 0, 1), (1, .invokespecial 3, 3), (4, .aload_n 0, 1), (5, .iconst 0, 1), (6, .putfield 11, 3), (9, .aload_n 0, 1), (10, .bipush 8, 2), (12, .newarray .int, 2), (14, .putfield 15, 3), (17, .aload_n 0, 1), (18, .iconst (-1), 1), (19, .putfield 19, 3), (22, .return_, 1)]
def M_21 : mI := (⟨"EdgeHouse$Conditions", "<init>", "()V"⟩, prog_2_method_1_code, 1, 0, none, [(11, 7, 1, 1), (15, 7, 5, 2), (19, 7, 7, 1)], [(3, 4, 0, 0)], [], Kk_21)
def Kk_22 : List (Nat × Instr × Nat) := [(0, .aload_n 0, 1), (1, .getfield 114, 3), (4, .ifCond .lt 38, 3), (7, .aload_n 0, 1), (8, .getfield 114, 3), (11, .aload_n 0, 1), (12, .getfield 26, 3), (15, .if_icmp .ge 27, 3), (18, .aload_n 0, 1), (19, .getfield 114, 3), (22, .aload_n 0, 1), (23, .getfield 11, 3), (26, .arraylength, 1), (27, .if_icmp .ge 15, 3), (30, .aload_n 0, 1), (31, .getfield 11, 3), (34, .aload_n 0, 1), (35, .getfield 114, 3), (38, .caload, 1), (39, .goto 4, 3), (42, .iconst 0, 1), (43, .ireturn, 1)]
def M_22 : mI := (⟨"EdgeHouse$Reader", "here", "()C"⟩, prog_7_method_8_code, 1, 0, (some FieldType.char), [(11, 1, 0, 0), (26, 1, 1, 1), (114, 1, 2, 1)], [], [], Kk_22)
def Kk_23 : List (Nat × Instr × Nat) := [(0, .iconst 0, 1), (1, .istore_n 2, 1), (2, .iload_n 2, 1), (3, .aload_n 1, 1), (4, .invokevirtual 124, 3), (7, .if_icmp .ge 23, 3), (10, .aload_n 0, 1), (11, .aload_n 1, 1), (12, .iload_n 2, 1), (13, .invokevirtual 128, 3), (16, .invokevirtual 62, 3), (19, .ifCond .ne 5, 3), (22, .iconst 0, 1), (23, .ireturn, 1), (24, .iinc 2 1, 3), (27, .goto (-25), 3), (30, .iconst 1, 1), (31, .ireturn, 1)]
def M_23 : mI := (⟨"EdgeHouse$Reader", "expectText", "(Ljava/lang/String;)Z"⟩, prog_7_method_11_code, 3, 1, (some FieldType.boolean), [], [(62, 1, 35, 1), (124, 1, 24, 12), (128, 1, 26, 12)], [], Kk_23)
def Kk_24 : List (Nat × Instr × Nat) := [(0, .aload_n 0, 1), (1, .getfield 9, 3), (4, .arraylength, 1), (5, .aload_n 0, 1), (6, .invokevirtual 335, 3), (9, .ishr, 1), (10, .ireturn, 1)]
def M_24 : mI := (⟨"java/lang/String", "length", "()I"⟩, prog_25_method_54_code, 1, 0, (some FieldType.int), [(9, 12, 0, 0)], [(335, 1, 25, 12)], [], Kk_24)
def Kk_25 : List (Nat × Instr × Nat) := [(0, .getstatic 38, 3), (3, .ifCond .eq 10, 3), (6, .aload_n 0, 1), (7, .getfield 15, 3), (10, .goto 4, 3), (13, .iconst 1, 1), (14, .ireturn, 1)]
def M_25 : mI := (⟨"java/lang/String", "coder", "()B"⟩, prog_25_method_152_code, 1, 0, (some FieldType.byte), [(15, 12, 1, 0)], [], [(38, 4, 0, .int 1)], Kk_25)
def Kk_26 : List (Nat × Instr × Nat) := [(0, .aload_n 0, 1), (1, .invokevirtual 492, 3), (4, .ifCond .eq 12, 3), (7, .aload_n 0, 1), (8, .getfield 9, 3), (11, .iload_n 1, 1), (12, .invokestatic 495, 3), (15, .ireturn, 1), (16, .aload_n 0, 1), (17, .getfield 9, 3), (20, .iload_n 1, 1), (21, .invokestatic 498, 3), (24, .ireturn, 1)]
def M_26 : mI := (⟨"java/lang/String", "charAt", "(I)C"⟩, prog_25_method_56_code, 2, 1, (some FieldType.char), [(9, 12, 0, 0)], [(492, 1, 27, 12), (495, 2, 28, 0), (498, 2, 31, 0)], [], Kk_26)
def Kk_27 : List (Nat × Instr × Nat) := [(0, .getstatic 38, 3), (3, .ifCond .eq 14, 3), (6, .aload_n 0, 1), (7, .getfield 15, 3), (10, .ifCond .ne 7, 3), (13, .iconst 1, 1), (14, .goto 4, 3), (17, .iconst 0, 1), (18, .ireturn, 1)]
def M_27 : mI := (⟨"java/lang/String", "isLatin1", "()Z"⟩, prog_25_method_154_code, 1, 0, (some FieldType.boolean), [(15, 12, 1, 0)], [], [(38, 4, 0, .int 1)], Kk_27)
def Kk_28 : List (Nat × Instr × Nat) := [(0, .iload_n 1, 1), (1, .aload_n 0, 1), (2, .arraylength, 1), (3, .invokestatic 9, 3), (6, .aload_n 0, 1), (7, .iload_n 1, 1), (8, .baload, 1), (9, .sipush 255, 3), (12, .iand, 1), (13, .i2c, 1), (14, .ireturn, 1)]
def M_28 : mI := (⟨"java/lang/StringLatin1", "charAt", "([BI)C"⟩, prog_28_method_2_code, 2, 2, (some FieldType.char), [], [(9, 2, 29, 0)], [], Kk_28)
def Kk_29 : List (Nat × Instr × Nat) := [(0, .iload_n 0, 1), (1, .iload_n 1, 1), (2, .getstatic 1053, 3), (5, .invokestatic 1059, 3), (8, .pop, 1), (9, .return_, 1)]
def M_29 : mI := (⟨"java/lang/String", "checkIndex", "(II)V"⟩, prog_25_method_155_code, 2, 2, none, [], [(1059, 2, 30, 0)], [(1053, 4, 0, .retAddr 0)], Kk_29)
def Kk_30 : List (Nat × Instr × Nat) := [(0, .iload_n 0, 1), (1, .ifCond .lt 8, 3), (4, .iload_n 0, 1), (5, .iload_n 1, 1), (6, .if_icmp .lt 10, 3), (9, .aload_n 2, 1), (10, .iload_n 0, 1), (11, .iload_n 1, 1), (12, .invokestatic 95, 3), (15, .athrow, 1), (16, .iload_n 0, 1), (17, .ireturn, 1)]
def M_30 : mI := (⟨"jdk/internal/util/Preconditions", "checkIndex", "(IILjava/util/function/BiFunction;)I"⟩, prog_43_method_11_code, 3, 3, (some FieldType.int), [], [], [], Kk_30)
def Kk_31 : List (Nat × Instr × Nat) := [(0, .iload_n 1, 1), (1, .aload_n 0, 1), (2, .invokestatic 67, 3), (5, .aload_n 0, 1), (6, .iload_n 1, 1), (7, .invokestatic 71, 3), (10, .ireturn, 1)]
def M_31 : mI := (⟨"java/lang/StringUTF16", "charAt", "([BI)C"⟩, prog_29_method_83_code, 2, 2, (some FieldType.char), [], [(67, 2, 32, 0), (71, 2, 34, 0)], [], Kk_31)
def Kk_32 : List (Nat × Instr × Nat) := [(0, .iload_n 0, 1), (1, .aload_n 1, 1), (2, .invokestatic 48, 3), (5, .invokestatic 414, 3), (8, .return_, 1)]
def M_32 : mI := (⟨"java/lang/StringUTF16", "checkIndex", "(I[B)V"⟩, prog_29_method_91_code, 2, 2, none, [], [(48, 2, 33, 0), (414, 2, 29, 0)], [], Kk_32)
def Kk_33 : List (Nat × Instr × Nat) := [(0, .aload_n 0, 1), (1, .arraylength, 1), (2, .iconst 1, 1), (3, .ishr, 1), (4, .ireturn, 1)]
def M_33 : mI := (⟨"java/lang/StringUTF16", "length", "([B)I"⟩, prog_29_method_6_code, 1, 1, (some FieldType.int), [], [], [], Kk_33)
def Kk_34 : List (Nat × Instr × Nat) := [(0, .getstatic 44, 3), (3, .ifCond .ne 25, 3), (6, .iload_n 1, 1), (7, .ifCond .lt 11, 3), (10, .iload_n 1, 1), (11, .aload_n 0, 1), (12, .invokestatic 48, 3), (15, .if_icmp .lt 13, 3), (18, .new 52, 3), (21, .dup, 1), (22, .ldc 54, 2), (24, .invokespecial 56, 3), (27, .athrow, 1), (28, .iload_n 1, 1), (29, .iconst 1, 1), (30, .ishl, 1), (31, .istore_n 1, 1), (32, .aload_n 0, 1), (33, .iload_n 1, 1), (34, .iinc 1 1, 3), (37, .baload, 1), (38, .sipush 255, 3), (41, .iand, 1), (42, .getstatic 59, 3), (45, .ishl, 1), (46, .aload_n 0, 1), (47, .iload_n 1, 1), (48, .baload, 1), (49, .sipush 255, 3), (52, .iand, 1), (53, .getstatic 63, 3), (56, .ishl, 1), (57, .ior, 1), (58, .i2c, 1), (59, .ireturn, 1)]
def M_34 : mI := (⟨"java/lang/StringUTF16", "getChar", "([BI)C"⟩, prog_29_method_5_code, 2, 2, (some FieldType.char), [], [(48, 2, 33, 0)], [(44, 4, 0, .int 1), (59, 4, 0, .int 0), (63, 4, 0, .int 8)], Kk_34)
def Kk_35 : List (Nat × Instr × Nat) := [(0, .aload_n 0, 1), (1, .invokevirtual 51, 3), (4, .iload_n 1, 1), (5, .if_icmp .eq 12, 3), (8, .aload_n 0, 1), (9, .aload_n 0, 1), (10, .getfield 114, 3), (13, .invokevirtual 120, 3), (16, .ireturn, 1), (17, .aload_n 0, 1), (18, .dup, 1), (19, .getfield 114, 3), (22, .iconst 1, 1), (23, .iadd, 1), (24, .putfield 114, 3), (27, .iconst 1, 1), (28, .ireturn, 1)]
def M_35 : mI := (⟨"EdgeHouse$Reader", "expect", "(C)Z"⟩, prog_7_method_10_code, 2, 1, (some FieldType.boolean), [(114, 1, 2, 1)], [(51, 1, 22, 1), (120, 1, 36, 1)], [], Kk_35)
def Kk_36 : List (Nat × Instr × Nat) := [(0, .aload_n 0, 1), (1, .iload_n 1, 1), (2, .putfield 15, 3), (5, .iconst 0, 1), (6, .ireturn, 1)]
def M_36 : mI := (⟨"EdgeHouse$Reader", "no", "(I)Z"⟩, prog_7_method_9_code, 2, 1, (some FieldType.boolean), [(15, 1, 3, 1)], [], [], Kk_36)
def Kk_37 : List (Nat × Instr × Nat) := [(0, .aload_n 0, 1), (1, .bipush 47, 2), (3, .invokevirtual 62, 3), (6, .ifCond .eq 12, 3), (9, .aload_n 0, 1), (10, .bipush 31, 2), (12, .invokevirtual 138, 3), (15, .ifCond .ne 5, 3), (18, .iconst 0, 1), (19, .ireturn, 1), (20, .aload_n 0, 1), (21, .aload_n 0, 1), (22, .getfield 132, 3), (25, .putfield 69, 3), (28, .aload_n 0, 1), (29, .iconst 0, 1), (30, .putfield 99, 3), (33, .iload_n 1, 1), (34, .ifCond .eq 40, 3), (37, .aload_n 0, 1), (38, .invokevirtual 51, 3), (41, .bipush 47, 2), (43, .if_icmp .ne 31, 3), (46, .aload_n 0, 1), (47, .dup, 1), (48, .getfield 114, 3), (51, .iconst 1, 1), (52, .iadd, 1), (53, .putfield 114, 3), (56, .aload_n 0, 1), (57, .iconst 3, 1), (58, .invokevirtual 138, 3), (61, .ifCond .ne 5, 3), (64, .iconst 0, 1), (65, .ireturn, 1), (66, .aload_n 0, 1), (67, .aload_n 0, 1), (68, .getfield 132, 3), (71, .putfield 99, 3), (74, .aload_n 0, 1), (75, .bipush 10, 2), (77, .invokevirtual 62, 3), (80, .ireturn, 1)]
def M_37 : mI := (⟨"EdgeHouse$Reader", "readTarget", "(Z)Z"⟩, prog_7_method_14_code, 2, 1, (some FieldType.boolean), [(69, 1, 10, 1), (99, 1, 11, 1), (114, 1, 2, 1), (132, 1, 9, 1)], [(51, 1, 22, 1), (62, 1, 35, 1), (138, 1, 38, 1)], [], Kk_37)
def Kk_38 : List (Nat × Instr × Nat) := [(0, .aload_n 0, 1), (1, .getfield 114, 3), (4, .istore_n 2, 1), (5, .aload_n 0, 1), (6, .iconst 0, 1), (7, .putfield 132, 3), (10, .iconst 0, 1), (11, .istore_n 3, 1), (12, .iload_n 3, 1), (13, .iconst 5, 1), (14, .if_icmp .ge 48, 3), (17, .aload_n 0, 1), (18, .invokevirtual 51, 3), (21, .invokestatic 135, 3), (24, .ifCond .eq 38, 3), (27, .aload_n 0, 1), (28, .bipush 10, 2), (30, .aload_n 0, 1), (31, .getfield 132, 3), (34, .imul, 1), (35, .aload_n 0, 1), (36, .invokevirtual 51, 3), (39, .bipush 48, 2), (41, .isub, 1), (42, .iadd, 1), (43, .putfield 132, 3), (46, .aload_n 0, 1), (47, .dup, 1), (48, .getfield 114, 3), (51, .iconst 1, 1), (52, .iadd, 1), (53, .putfield 114, 3), (56, .iinc 3 1, 3), (59, .goto (-47), 3), (62, .aload_n 0, 1), (63, .getfield 114, 3), (66, .iload_n 2, 1), (67, .if_icmp .ne 12, 3), (70, .aload_n 0, 1), (71, .aload_n 0, 1), (72, .getfield 114, 3), (75, .invokevirtual 120, 3), (78, .ireturn, 1), (79, .aload_n 0, 1), (80, .getfield 132, 3), (83, .iload_n 1, 1), (84, .if_icmp .le 9, 3), (87, .aload_n 0, 1), (88, .iload_n 2, 1), (89, .invokevirtual 120, 3), (92, .ireturn, 1), (93, .aload_n 0, 1), (94, .invokevirtual 51, 3), (97, .invokestatic 135, 3), (100, .ifCond .eq 14, 3), (103, .aload_n 0, 1), (104, .aload_n 0, 1), (105, .getfield 114, 3), (108, .invokevirtual 120, 3), (111, .ifCond .eq 7, 3), (114, .iconst 1, 1), (115, .goto 4, 3), (118, .iconst 0, 1), (119, .ireturn, 1)]
def M_38 : mI := (⟨"EdgeHouse$Reader", "readNumber", "(I)Z"⟩, prog_7_method_13_code, 4, 1, (some FieldType.boolean), [(114, 1, 2, 1), (132, 1, 9, 1)], [(51, 1, 22, 1), (120, 1, 36, 1), (135, 2, 39, 0)], [], Kk_38)
def Kk_39 : List (Nat × Instr × Nat) := [(0, .iload_n 0, 1), (1, .bipush 48, 2), (3, .if_icmp .lt 13, 3), (6, .iload_n 0, 1), (7, .bipush 57, 2), (9, .if_icmp .gt 7, 3), (12, .iconst 1, 1), (13, .goto 4, 3), (16, .iconst 0, 1), (17, .ireturn, 1)]
def M_39 : mI := (⟨"EdgeHouse$Reader", "isDigit", "(C)Z"⟩, prog_7_method_12_code, 1, 1, (some FieldType.boolean), [], [], [], Kk_39)
def Kk_40 : List (Nat × Instr × Nat) := [(0, .aload_n 0, 1), (1, .aload_n 0, 1), (2, .getfield 114, 3), (5, .putfield 141, 3), (8, .aload_n 0, 1), (9, .invokevirtual 144, 3), (12, .aload_n 0, 1), (13, .aload_n 0, 1), (14, .getfield 114, 3), (17, .putfield 147, 3), (20, .aload_n 0, 1), (21, .getfield 114, 3), (24, .aload_n 0, 1), (25, .getfield 141, 3), (28, .if_icmp .ne 12, 3), (31, .aload_n 0, 1), (32, .aload_n 0, 1), (33, .getfield 114, 3), (36, .invokevirtual 120, 3), (39, .ireturn, 1), (40, .aload_n 0, 1), (41, .getfield 114, 3), (44, .aload_n 0, 1), (45, .getfield 141, 3), (48, .isub, 1), (49, .bipush 20, 2), (51, .if_icmp .le 12, 3), (54, .aload_n 0, 1), (55, .aload_n 0, 1), (56, .getfield 141, 3), (59, .invokevirtual 120, 3), (62, .ireturn, 1), (63, .aload_n 0, 1), (64, .invokevirtual 51, 3), (67, .bipush 58, 2), (69, .if_icmp .eq 12, 3), (72, .aload_n 0, 1), (73, .aload_n 0, 1), (74, .getfield 114, 3), (77, .invokevirtual 120, 3), (80, .ireturn, 1), (81, .aload_n 0, 1), (82, .invokevirtual 150, 3), (85, .ifCond .ne 15, 3), (88, .aload_n 0, 1), (89, .getfield 117, 3), (92, .aload_n 0, 1), (93, .getfield 19, 3), (96, .arraylength, 1), (97, .if_icmp .lt 12, 3), (100, .aload_n 0, 1), (101, .aload_n 0, 1), (102, .getfield 141, 3), (105, .invokevirtual 120, 3), (108, .ireturn, 1), (109, .aload_n 0, 1), (110, .getfield 19, 3), (113, .aload_n 0, 1), (114, .getfield 117, 3), (117, .aload_n 0, 1), (118, .getfield 141, 3), (121, .iastore, 1), (122, .aload_n 0, 1), (123, .dup, 1), (124, .getfield 117, 3), (127, .iconst 1, 1), (128, .iadd, 1), (129, .putfield 117, 3), (132, .aload_n 0, 1), (133, .dup, 1), (134, .getfield 114, 3), (137, .iconst 1, 1), (138, .iadd, 1), (139, .putfield 114, 3), (142, .aload_n 0, 1), (143, .invokevirtual 51, 3), (146, .bipush 32, 2), (148, .if_icmp .ne 13, 3), (151, .aload_n 0, 1), (152, .dup, 1), (153, .getfield 114, 3), (156, .iconst 1, 1), (157, .iadd, 1), (158, .putfield 114, 3), (161, .iconst 1, 1), (162, .ireturn, 1)]
def M_40 : mI := (⟨"EdgeHouse$Reader", "readName", "()Z"⟩, prog_7_method_17_code, 1, 0, (some FieldType.boolean), [(19, 1, 4, 0), (114, 1, 2, 1), (117, 1, 5, 1), (141, 1, 6, 1), (147, 1, 7, 1)], [(51, 1, 22, 1), (120, 1, 36, 1), (144, 1, 41, 1), (150, 1, 42, 1)], [], Kk_40)
def Kk_41 : List (Nat × Instr × Nat) := [(0, .aload_n 0, 1), (1, .getfield 114, 3), (4, .aload_n 0, 1), (5, .getfield 26, 3), (8, .if_icmp .ge 43, 3), (11, .aload_n 0, 1), (12, .invokevirtual 51, 3), (15, .bipush 45, 2), (17, .if_icmp .eq 21, 3), (20, .aload_n 0, 1), (21, .invokevirtual 51, 3), (24, .bipush 97, 2), (26, .if_icmp .lt 25, 3), (29, .aload_n 0, 1), (30, .invokevirtual 51, 3), (33, .bipush 122, 2), (35, .if_icmp .gt 16, 3), (38, .aload_n 0, 1), (39, .dup, 1), (40, .getfield 114, 3), (43, .iconst 1, 1), (44, .iadd, 1), (45, .putfield 114, 3), (48, .goto (-48), 3), (51, .return_, 1)]
def M_41 : mI := (⟨"EdgeHouse$Reader", "skipLetters", "()V"⟩, prog_7_method_16_code, 1, 0, none, [(26, 1, 1, 1), (114, 1, 2, 1)], [(51, 1, 22, 1)], [], Kk_41)
def Kk_42 : List (Nat × Instr × Nat) := [(0, .iconst 0, 1), (1, .istore_n 1, 1), (2, .iload_n 1, 1), (3, .aload_n 0, 1), (4, .getfield 117, 3), (7, .if_icmp .ge 37, 3), (10, .aload_n 0, 1), (11, .aload_n 0, 1), (12, .getfield 19, 3), (15, .iload_n 1, 1), (16, .iaload, 1), (17, .aload_n 0, 1), (18, .getfield 141, 3), (21, .aload_n 0, 1), (22, .getfield 147, 3), (25, .aload_n 0, 1), (26, .getfield 141, 3), (29, .isub, 1), (30, .invokevirtual 153, 3), (33, .ifCond .eq 5, 3), (36, .iconst 1, 1), (37, .ireturn, 1), (38, .iinc 1 1, 3), (41, .goto (-39), 3), (44, .iconst 0, 1), (45, .ireturn, 1)]
def M_42 : mI := (⟨"EdgeHouse$Reader", "wasThere", "()Z"⟩, prog_7_method_18_code, 2, 0, (some FieldType.boolean), [(19, 1, 4, 0), (117, 1, 5, 1), (141, 1, 6, 1), (147, 1, 7, 1)], [(153, 1, 43, 1)], [], Kk_42)
def Kk_43 : List (Nat × Instr × Nat) := [(0, .iconst 0, 1), (1, .istore 4, 2), (3, .iload 4, 2), (5, .iload_n 3, 1), (6, .if_icmp .gt 54, 3), (9, .iload_n 1, 1), (10, .iload 4, 2), (12, .iadd, 1), (13, .aload_n 0, 1), (14, .getfield 26, 3), (17, .if_icmp .ge 35, 3), (20, .iload_n 2, 1), (21, .iload 4, 2), (23, .iadd, 1), (24, .aload_n 0, 1), (25, .getfield 26, 3), (28, .if_icmp .ge 24, 3), (31, .aload_n 0, 1), (32, .getfield 11, 3), (35, .iload_n 1, 1), (36, .iload 4, 2), (38, .iadd, 1), (39, .caload, 1), (40, .aload_n 0, 1), (41, .getfield 11, 3), (44, .iload_n 2, 1), (45, .iload 4, 2), (47, .iadd, 1), (48, .caload, 1), (49, .if_icmp .eq 5, 3), (52, .iconst 0, 1), (53, .ireturn, 1), (54, .iinc 4 1, 3), (57, .goto (-54), 3), (60, .iconst 1, 1), (61, .ireturn, 1)]
def M_43 : mI := (⟨"EdgeHouse$Reader", "isSame", "(III)Z"⟩, prog_7_method_19_code, 5, 3, (some FieldType.boolean), [(11, 1, 0, 0), (26, 1, 1, 1)], [], [], Kk_43)
def Kk_44 : List (Nat × Instr × Nat) := [(0, .aload_n 0, 1), (1, .ldc 177, 2), (3, .invokevirtual 158, 3), (6, .ifCond .eq 8, 3), (9, .aload_n 0, 1), (10, .invokevirtual 179, 3), (13, .ireturn, 1), (14, .aload_n 0, 1), (15, .ldc 182, 2), (17, .invokevirtual 158, 3), (20, .ifCond .eq 8, 3), (23, .aload_n 0, 1), (24, .invokevirtual 184, 3), (27, .ireturn, 1), (28, .aload_n 0, 1), (29, .ldc 187, 2), (31, .invokevirtual 158, 3), (34, .ifCond .eq 49, 3), (37, .aload_n 0, 1), (38, .bipush 34, 2), (40, .invokevirtual 62, 3), (43, .ifCond .eq 25, 3), (46, .aload_n 0, 1), (47, .ldc 189, 2), (49, .invokevirtual 138, 3), (52, .ifCond .eq 16, 3), (55, .aload_n 0, 1), (56, .bipush 34, 2), (58, .invokevirtual 62, 3), (61, .ifCond .eq 7, 3), (64, .iconst 1, 1), (65, .goto 4, 3), (68, .iconst 0, 1), (69, .istore_n 1, 1), (70, .aload_n 0, 1), (71, .getfield 83, 3), (74, .aload_n 0, 1), (75, .getfield 132, 3), (78, .putfield 190, 3), (81, .iload_n 1, 1), (82, .ireturn, 1), (83, .aload_n 0, 1), (84, .ldc 193, 2), (86, .invokevirtual 158, 3), (89, .ifCond .eq 9, 3), (92, .aload_n 0, 1), (93, .iconst 0, 1), (94, .invokevirtual 164, 3), (97, .ireturn, 1), (98, .aload_n 0, 1), (99, .ldc 195, 2), (101, .invokevirtual 158, 3), (104, .ifCond .eq 9, 3), (107, .aload_n 0, 1), (108, .iconst 1, 1), (109, .invokevirtual 164, 3), (112, .ireturn, 1), (113, .aload_n 0, 1), (114, .ldc 162, 2), (116, .invokevirtual 158, 3), (119, .ifCond .eq 9, 3), (122, .aload_n 0, 1), (123, .iconst 2, 1), (124, .invokevirtual 164, 3), (127, .ireturn, 1), (128, .aload_n 0, 1), (129, .invokevirtual 174, 3), (132, .ireturn, 1)]
def M_44 : mI := (⟨"EdgeHouse$Reader", "readAskedValue", "()Z"⟩, prog_7_method_22_code, 2, 0, (some FieldType.boolean), [(83, 1, 14, 1), (132, 1, 9, 1), (190, 7, 7, 1)], [(62, 1, 35, 1), (138, 1, 38, 1), (158, 1, 45, 1), (164, 1, 49, 1), (174, 1, 56, 1), (179, 1, 46, 1), (184, 1, 47, 1)], [(162, 5, 9, .null), (177, 5, 12, .null), (182, 5, 13, .null), (187, 5, 14, .null), (189, 2, 0, .int (99999)), (193, 5, 15, .null), (195, 5, 16, .null)], Kk_44)
def Kk_45 : List (Nat × Instr × Nat) := [(0, .aload_n 0, 1), (1, .getfield 147, 3), (4, .aload_n 0, 1), (5, .getfield 141, 3), (8, .isub, 1), (9, .aload_n 1, 1), (10, .invokevirtual 124, 3), (13, .if_icmp .ne 22, 3), (16, .aload_n 0, 1), (17, .getfield 141, 3), (20, .ifCond .lt 15, 3), (23, .aload_n 0, 1), (24, .getfield 147, 3), (27, .aload_n 0, 1), (28, .getfield 11, 3), (31, .arraylength, 1), (32, .if_icmp .le 5, 3), (35, .iconst 0, 1), (36, .ireturn, 1), (37, .iconst 0, 1), (38, .istore_n 2, 1), (39, .iload_n 2, 1), (40, .aload_n 1, 1), (41, .invokevirtual 124, 3), (44, .if_icmp .ge 30, 3), (47, .aload_n 0, 1), (48, .getfield 11, 3), (51, .aload_n 0, 1), (52, .getfield 141, 3), (55, .iload_n 2, 1), (56, .iadd, 1), (57, .caload, 1), (58, .aload_n 1, 1), (59, .iload_n 2, 1), (60, .invokevirtual 128, 3), (63, .if_icmp .eq 5, 3), (66, .iconst 0, 1), (67, .ireturn, 1), (68, .iinc 2 1, 3), (71, .goto (-32), 3), (74, .iconst 1, 1), (75, .ireturn, 1)]
def M_45 : mI := (⟨"EdgeHouse$Reader", "isWord", "(Ljava/lang/String;)Z"⟩, prog_7_method_20_code, 3, 1, (some FieldType.boolean), [(11, 1, 0, 0), (141, 1, 6, 1), (147, 1, 7, 1)], [(124, 1, 24, 12), (128, 1, 26, 12)], [], Kk_45)
def Kk_46 : List (Nat × Instr × Nat) := [(0, .aload_n 0, 1), (1, .ldc 199, 2), (3, .invokevirtual 43, 3), (6, .ifCond .ne 5, 3), (9, .iconst 0, 1), (10, .ireturn, 1), (11, .aload_n 0, 1), (12, .invokevirtual 51, 3), (15, .bipush 45, 2), (17, .if_icmp .ne 41, 3), (20, .aload_n 0, 1), (21, .dup, 1), (22, .getfield 114, 3), (25, .iconst 1, 1), (26, .iadd, 1), (27, .putfield 114, 3), (30, .aload_n 0, 1), (31, .getfield 83, 3), (34, .iconst 2, 1), (35, .putfield 201, 3), (38, .aload_n 0, 1), (39, .ldc 189, 2), (41, .invokevirtual 138, 3), (44, .istore_n 1, 1), (45, .aload_n 0, 1), (46, .getfield 83, 3), (49, .aload_n 0, 1), (50, .getfield 132, 3), (53, .putfield 203, 3), (56, .iload_n 1, 1), (57, .ireturn, 1), (58, .aload_n 0, 1), (59, .ldc 189, 2), (61, .invokevirtual 138, 3), (64, .ifCond .ne 5, 3), (67, .iconst 0, 1), (68, .ireturn, 1), (69, .aload_n 0, 1), (70, .getfield 132, 3), (73, .istore_n 1, 1), (74, .ldc 189, 2), (76, .istore_n 2, 1), (77, .aload_n 0, 1), (78, .bipush 45, 2), (80, .invokevirtual 62, 3), (83, .ifCond .ne 5, 3), (86, .iconst 0, 1), (87, .ireturn, 1), (88, .aload_n 0, 1), (89, .invokevirtual 51, 3), (92, .invokestatic 135, 3), (95, .ifCond .eq 19, 3), (98, .aload_n 0, 1), (99, .ldc 189, 2), (101, .invokevirtual 138, 3), (104, .ifCond .ne 5, 3), (107, .iconst 0, 1), (108, .ireturn, 1), (109, .aload_n 0, 1), (110, .getfield 132, 3), (113, .istore_n 2, 1), (114, .iload_n 1, 1), (115, .iload_n 2, 1), (116, .if_icmp .gt 27, 3), (119, .aload_n 0, 1), (120, .getfield 83, 3), (123, .iconst 1, 1), (124, .putfield 201, 3), (127, .aload_n 0, 1), (128, .getfield 83, 3), (131, .iload_n 1, 1), (132, .putfield 203, 3), (135, .aload_n 0, 1), (136, .getfield 83, 3), (139, .iload_n 2, 1), (140, .putfield 206, 3), (143, .iconst 1, 1), (144, .ireturn, 1)]
def M_46 : mI := (⟨"EdgeHouse$Reader", "readRange", "()Z"⟩, prog_7_method_25_code, 3, 0, (some FieldType.boolean), [(83, 1, 14, 1), (114, 1, 2, 1), (132, 1, 9, 1), (201, 7, 1, 1), (203, 7, 2, 1), (206, 7, 3, 1)], [(43, 1, 23, 1), (51, 1, 22, 1), (62, 1, 35, 1), (135, 2, 39, 0), (138, 1, 38, 1)], [(189, 2, 0, .int (99999)), (199, 5, 17, .null)], Kk_46)
def Kk_47 : List (Nat × Instr × Nat) := [(0, .aload_n 0, 1), (1, .invokevirtual 51, 3), (4, .bipush 42, 2), (6, .if_icmp .ne 23, 3), (9, .aload_n 0, 1), (10, .dup, 1), (11, .getfield 114, 3), (14, .iconst 1, 1), (15, .iadd, 1), (16, .putfield 114, 3), (19, .aload_n 0, 1), (20, .getfield 83, 3), (23, .iconst 1, 1), (24, .putfield 209, 3), (27, .iconst 1, 1), (28, .ireturn, 1), (29, .iconst 0, 1), (30, .istore_n 1, 1), (31, .iload_n 1, 1), (32, .aload_n 0, 1), (33, .getfield 83, 3), (36, .getfield 212, 3), (39, .arraylength, 1), (40, .if_icmp .ge 96, 3), (43, .aload_n 0, 1), (44, .bipush 34, 2), (46, .invokevirtual 62, 3), (49, .ifCond .eq 21, 3), (52, .aload_n 0, 1), (53, .ldc 189, 2), (55, .invokevirtual 138, 3), (58, .ifCond .eq 12, 3), (61, .aload_n 0, 1), (62, .bipush 34, 2), (64, .invokevirtual 62, 3), (67, .ifCond .ne 5, 3), (70, .iconst 0, 1), (71, .ireturn, 1), (72, .aload_n 0, 1), (73, .getfield 83, 3), (76, .aload_n 0, 1), (77, .getfield 132, 3), (80, .invokevirtual 215, 3), (83, .iload_n 1, 1), (84, .aload_n 0, 1), (85, .getfield 83, 3), (88, .getfield 212, 3), (91, .arraylength, 1), (92, .iconst 1, 1), (93, .isub, 1), (94, .if_icmp .eq 42, 3), (97, .aload_n 0, 1), (98, .invokevirtual 51, 3), (101, .bipush 44, 2), (103, .if_icmp .eq 6, 3), (106, .goto 30, 3), (109, .aload_n 0, 1), (110, .dup, 1), (111, .getfield 114, 3), (114, .iconst 1, 1), (115, .iadd, 1), (116, .putfield 114, 3), (119, .aload_n 0, 1), (120, .bipush 32, 2), (122, .invokevirtual 62, 3), (125, .ifCond .ne 5, 3), (128, .iconst 0, 1), (129, .ireturn, 1), (130, .iinc 1 1, 3), (133, .goto (-102), 3), (136, .iconst 1, 1), (137, .ireturn, 1)]
def M_47 : mI := (⟨"EdgeHouse$Reader", "readMatch", "()Z"⟩, prog_7_method_26_code, 2, 0, (some FieldType.boolean), [(83, 1, 14, 1), (114, 1, 2, 1), (132, 1, 9, 1), (209, 7, 4, 1), (212, 7, 5, 0)], [(51, 1, 22, 1), (62, 1, 35, 1), (138, 1, 38, 1), (215, 1, 48, 7)], [(189, 2, 0, .int (99999))], Kk_47)
def Kk_48 : List (Nat × Instr × Nat) := [(0, .aload_n 0, 1), (1, .getfield 37, 3), (4, .aload_n 0, 1), (5, .getfield 15, 3), (8, .arraylength, 1), (9, .if_icmp .ge 23, 3), (12, .aload_n 0, 1), (13, .getfield 15, 3), (16, .aload_n 0, 1), (17, .getfield 37, 3), (20, .iload_n 1, 1), (21, .iastore, 1), (22, .aload_n 0, 1), (23, .dup, 1), (24, .getfield 37, 3), (27, .iconst 1, 1), (28, .iadd, 1), (29, .putfield 37, 3), (32, .return_, 1)]
def M_48 : mI := (⟨"EdgeHouse$Conditions", "addTag", "(I)V"⟩, prog_2_method_5_code, 2, 1, none, [(15, 7, 5, 0), (37, 7, 6, 1)], [], [], Kk_48)
def Kk_49 : List (Nat × Instr × Nat) := [(0, .iconst 0, 1), (1, .istore_n 2, 1), (2, .iload_n 2, 1), (3, .sipush 300, 3), (6, .if_icmp .ge 101, 3), (9, .aload_n 0, 1), (10, .invokevirtual 219, 3), (13, .ifCond .ne 5, 3), (16, .iconst 0, 1), (17, .ireturn, 1), (18, .iload_n 1, 1), (19, .ifCond .ne 10, 3), (22, .aload_n 0, 1), (23, .invokevirtual 222, 3), (26, .goto 43, 3), (29, .iload_n 1, 1), (30, .iconst 1, 1), (31, .if_icmp .ne 10, 3), (34, .aload_n 0, 1), (35, .invokevirtual 225, 3), (38, .goto 31, 3), (41, .iload_n 1, 1), (42, .iconst 2, 1), (43, .if_icmp .ne 10, 3), (46, .aload_n 0, 1), (47, .invokevirtual 228, 3), (50, .goto 19, 3), (53, .iload_n 1, 1), (54, .iconst 3, 1), (55, .if_icmp .ne 10, 3), (58, .aload_n 0, 1), (59, .invokevirtual 231, 3), (62, .goto 7, 3), (65, .aload_n 0, 1), (66, .invokevirtual 234, 3), (69, .aload_n 0, 1), (70, .invokevirtual 51, 3), (73, .bipush 44, 2), (75, .if_icmp .eq 5, 3), (78, .iconst 1, 1), (79, .ireturn, 1), (80, .aload_n 0, 1), (81, .dup, 1), (82, .getfield 114, 3), (85, .iconst 1, 1), (86, .iadd, 1), (87, .putfield 114, 3), (90, .aload_n 0, 1), (91, .bipush 32, 2), (93, .invokevirtual 62, 3), (96, .ifCond .ne 5, 3), (99, .iconst 0, 1), (100, .ireturn, 1), (101, .iinc 2 1, 3), (104, .goto (-102), 3), (107, .aload_n 0, 1), (108, .aload_n 0, 1), (109, .getfield 114, 3), (112, .invokevirtual 120, 3), (115, .ireturn, 1)]
def M_49 : mI := (⟨"EdgeHouse$Reader", "readList", "(I)Z"⟩, prog_7_method_27_code, 3, 1, (some FieldType.boolean), [(114, 1, 2, 1)], [(51, 1, 22, 1), (62, 1, 35, 1), (120, 1, 36, 1), (219, 1, 50, 1), (222, 1, 51, 1), (225, 1, 52, 1), (228, 1, 53, 1), (231, 1, 54, 1), (234, 1, 55, 1)], [], Kk_49)
def Kk_50 : List (Nat × Instr × Nat) := [(0, .aload_n 0, 1), (1, .aload_n 0, 1), (2, .getfield 114, 3), (5, .putfield 141, 3), (8, .aload_n 0, 1), (9, .invokevirtual 144, 3), (12, .aload_n 0, 1), (13, .aload_n 0, 1), (14, .getfield 114, 3), (17, .putfield 147, 3), (20, .aload_n 0, 1), (21, .getfield 114, 3), (24, .aload_n 0, 1), (25, .getfield 141, 3), (28, .if_icmp .ne 12, 3), (31, .aload_n 0, 1), (32, .aload_n 0, 1), (33, .getfield 114, 3), (36, .invokevirtual 120, 3), (39, .ireturn, 1), (40, .aload_n 0, 1), (41, .getfield 114, 3), (44, .aload_n 0, 1), (45, .getfield 141, 3), (48, .isub, 1), (49, .bipush 30, 2), (51, .if_icmp .le 12, 3), (54, .aload_n 0, 1), (55, .aload_n 0, 1), (56, .getfield 141, 3), (59, .invokevirtual 120, 3), (62, .ireturn, 1), (63, .aload_n 0, 1), (64, .aload_n 0, 1), (65, .invokevirtual 51, 3), (68, .bipush 61, 2), (70, .if_icmp .eq 7, 3), (73, .iconst 1, 1), (74, .goto 4, 3), (77, .iconst 0, 1), (78, .putfield 237, 3), (81, .aload_n 0, 1), (82, .getfield 237, 3), (85, .ifCond .eq 5, 3), (88, .iconst 1, 1), (89, .ireturn, 1), (90, .aload_n 0, 1), (91, .dup, 1), (92, .getfield 114, 3), (95, .iconst 1, 1), (96, .iadd, 1), (97, .putfield 114, 3), (100, .aload_n 0, 1), (101, .ldc 189, 2), (103, .invokevirtual 138, 3), (106, .ireturn, 1)]
def M_50 : mI := (⟨"EdgeHouse$Reader", "readWord", "()Z"⟩, prog_7_method_28_code, 1, 0, (some FieldType.boolean), [(114, 1, 2, 1), (141, 1, 6, 1), (147, 1, 7, 1), (237, 1, 8, 1)], [(51, 1, 22, 1), (120, 1, 36, 1), (138, 1, 38, 1), (144, 1, 41, 1)], [(189, 2, 0, .int (99999))], Kk_50)
def Kk_51 : List (Nat × Instr × Nat) := [(0, .aload_n 0, 1), (1, .getfield 237, 3), (4, .ifCond .eq 8, 3), (7, .bipush 9, 2), (9, .goto 7, 3), (12, .aload_n 0, 1), (13, .getfield 132, 3), (16, .istore_n 1, 1), (17, .aload_n 0, 1), (18, .ldc 240, 2), (20, .invokevirtual 158, 3), (23, .ifCond .eq 13, 3), (26, .aload_n 0, 1), (27, .getfield 23, 3), (30, .iconst 0, 1), (31, .iload_n 1, 1), (32, .iastore, 1), (33, .goto 57, 3), (36, .aload_n 0, 1), (37, .ldc 242, 2), (39, .invokevirtual 158, 3), (42, .ifCond .eq 13, 3), (45, .aload_n 0, 1), (46, .getfield 23, 3), (49, .iconst 1, 1), (50, .iload_n 1, 1), (51, .iastore, 1), (52, .goto 38, 3), (55, .aload_n 0, 1), (56, .ldc 244, 2), (58, .invokevirtual 158, 3), (61, .ifCond .eq 13, 3), (64, .aload_n 0, 1), (65, .getfield 23, 3), (68, .iconst 2, 1), (69, .iload_n 1, 1), (70, .iastore, 1), (71, .goto 19, 3), (74, .aload_n 0, 1), (75, .ldc 246, 2), (77, .invokevirtual 158, 3), (80, .ifCond .eq 10, 3), (83, .aload_n 0, 1), (84, .getfield 23, 3), (87, .iconst 3, 1), (88, .iload_n 1, 1), (89, .iastore, 1), (90, .return_, 1)]
def M_51 : mI := (⟨"EdgeHouse$Reader", "weighLanguage", "()V"⟩, prog_7_method_29_code, 2, 0, none, [(23, 1, 12, 0), (132, 1, 9, 1), (237, 1, 8, 1)], [(158, 1, 45, 1)], [(240, 5, 18, .null), (242, 5, 19, .null), (244, 5, 20, .null), (246, 5, 21, .null)], Kk_51)
def Kk_52 : List (Nat × Instr × Nat) := [(0, .aload_n 0, 1), (1, .ldc 248, 2), (3, .invokevirtual 158, 3), (6, .ifCond .eq 29, 3), (9, .aload_n 0, 1), (10, .getfield 76, 3), (13, .aload_n 0, 1), (14, .getfield 237, 3), (17, .ifCond .ne 10, 3), (20, .aload_n 0, 1), (21, .getfield 132, 3), (24, .ifCond .le 7, 3), (27, .iconst 1, 1), (28, .goto 4, 3), (31, .iconst 0, 1), (32, .putfield 250, 3), (35, .return_, 1)]
def M_52 : mI := (⟨"EdgeHouse$Reader", "weighForm", "()V"⟩, prog_7_method_30_code, 1, 0, none, [(76, 1, 13, 1), (132, 1, 9, 1), (237, 1, 8, 1), (250, 6, 3, 1)], [(158, 1, 45, 1)], [(248, 5, 22, .null)], Kk_52)
def Kk_53 : List (Nat × Instr × Nat) := [(0, .aload_n 0, 1), (1, .ldc 253, 2), (3, .invokevirtual 158, 3), (6, .ifCond .eq 29, 3), (9, .aload_n 0, 1), (10, .getfield 76, 3), (13, .aload_n 0, 1), (14, .getfield 237, 3), (17, .ifCond .eq 8, 3), (20, .ldc 255, 2), (22, .goto 7, 3), (25, .aload_n 0, 1), (26, .getfield 132, 3), (29, .putfield 256, 3), (32, .goto 118, 3), (35, .aload_n 0, 1), (36, .getfield 237, 3), (39, .ifCond .eq 24, 3), (42, .aload_n 0, 1), (43, .ldc_w 259, 3), (46, .invokevirtual 158, 3), (49, .ifCond .eq 14, 3), (52, .aload_n 0, 1), (53, .getfield 76, 3), (56, .iconst 1, 1), (57, .putfield 261, 3), (60, .goto 90, 3), (63, .aload_n 0, 1), (64, .getfield 237, 3), (67, .ifCond .eq 24, 3), (70, .aload_n 0, 1), (71, .ldc_w 264, 3), (74, .invokevirtual 158, 3), (77, .ifCond .eq 14, 3), (80, .aload_n 0, 1), (81, .getfield 76, 3), (84, .iconst 1, 1), (85, .putfield 266, 3), (88, .goto 62, 3), (91, .aload_n 0, 1), (92, .getfield 237, 3), (95, .ifCond .ne 27, 3), (98, .aload_n 0, 1), (99, .ldc_w 269, 3), (102, .invokevirtual 158, 3), (105, .ifCond .eq 17, 3), (108, .aload_n 0, 1), (109, .getfield 76, 3), (112, .aload_n 0, 1), (113, .getfield 132, 3), (116, .putfield 271, 3), (119, .goto 31, 3), (122, .aload_n 0, 1), (123, .getfield 237, 3), (126, .ifCond .ne 24, 3), (129, .aload_n 0, 1), (130, .ldc_w 274, 3), (133, .invokevirtual 158, 3), (136, .ifCond .eq 14, 3), (139, .aload_n 0, 1), (140, .getfield 76, 3), (143, .aload_n 0, 1), (144, .getfield 132, 3), (147, .putfield 276, 3), (150, .return_, 1)]
def M_53 : mI := (⟨"EdgeHouse$Reader", "countAsked", "()V"⟩, prog_7_method_31_code, 1, 0, none, [(76, 1, 13, 1), (132, 1, 9, 1), (237, 1, 8, 1), (256, 6, 10, 1), (261, 6, 6, 1), (266, 6, 7, 1), (271, 6, 8, 1), (276, 6, 9, 1)], [(158, 1, 45, 1)], [(253, 5, 23, .null), (255, 2, 0, .int (1000000)), (259, 5, 24, .null), (264, 5, 25, .null), (269, 5, 26, .null), (274, 5, 27, .null)], Kk_53)
def Kk_54 : List (Nat × Instr × Nat) := [(0, .aload_n 0, 1), (1, .getfield 237, 3), (4, .ifCond .eq 24, 3), (7, .aload_n 0, 1), (8, .ldc_w 279, 3), (11, .invokevirtual 158, 3), (14, .ifCond .eq 14, 3), (17, .aload_n 0, 1), (18, .getfield 37, 3), (21, .iconst 1, 1), (22, .putfield 281, 3), (25, .goto 121, 3), (28, .aload_n 0, 1), (29, .getfield 237, 3), (32, .ifCond .eq 24, 3), (35, .aload_n 0, 1), (36, .ldc_w 259, 3), (39, .invokevirtual 158, 3), (42, .ifCond .eq 14, 3), (45, .aload_n 0, 1), (46, .getfield 37, 3), (49, .iconst 1, 1), (50, .putfield 284, 3), (53, .goto 93, 3), (56, .aload_n 0, 1), (57, .getfield 237, 3), (60, .ifCond .ne 27, 3), (63, .aload_n 0, 1), (64, .ldc_w 269, 3), (67, .invokevirtual 158, 3), (70, .ifCond .eq 17, 3), (73, .aload_n 0, 1), (74, .getfield 37, 3), (77, .aload_n 0, 1), (78, .getfield 132, 3), (81, .putfield 287, 3), (84, .goto 62, 3), (87, .aload_n 0, 1), (88, .getfield 237, 3), (91, .ifCond .ne 27, 3), (94, .aload_n 0, 1), (95, .ldc_w 288, 3), (98, .invokevirtual 158, 3), (101, .ifCond .eq 17, 3), (104, .aload_n 0, 1), (105, .getfield 37, 3), (108, .aload_n 0, 1), (109, .getfield 132, 3), (112, .putfield 290, 3), (115, .goto 31, 3), (118, .aload_n 0, 1), (119, .getfield 237, 3), (122, .ifCond .ne 24, 3), (125, .aload_n 0, 1), (126, .ldc_w 293, 3), (129, .invokevirtual 158, 3), (132, .ifCond .eq 14, 3), (135, .aload_n 0, 1), (136, .getfield 37, 3), (139, .aload_n 0, 1), (140, .getfield 132, 3), (143, .putfield 295, 3), (146, .return_, 1)]
def M_54 : mI := (⟨"EdgeHouse$Reader", "countKeeping", "()V"⟩, prog_7_method_32_code, 1, 0, none, [(37, 1, 15, 1), (132, 1, 9, 1), (237, 1, 8, 1), (281, 13, 6, 1), (284, 13, 7, 1), (287, 13, 3, 1), (290, 13, 4, 1), (295, 13, 5, 1)], [(158, 1, 45, 1)], [(259, 5, 24, .null), (269, 5, 26, .null), (279, 5, 28, .null), (288, 5, 29, .null), (293, 5, 30, .null)], Kk_54)
def Kk_55 : List (Nat × Instr × Nat) := [(0, .aload_n 0, 1), (1, .getfield 237, 3), (4, .ifCond .eq 28, 3), (7, .aload_n 0, 1), (8, .ldc 193, 2), (10, .invokevirtual 158, 3), (13, .ifCond .eq 19, 3), (16, .aload_n 0, 1), (17, .getfield 37, 3), (20, .dup, 1), (21, .getfield 298, 3), (24, .iconst 1, 1), (25, .ior, 1), (26, .putfield 298, 3), (29, .goto 32, 3), (32, .aload_n 0, 1), (33, .getfield 237, 3), (36, .ifCond .eq 25, 3), (39, .aload_n 0, 1), (40, .ldc 195, 2), (42, .invokevirtual 158, 3), (45, .ifCond .eq 16, 3), (48, .aload_n 0, 1), (49, .getfield 37, 3), (52, .dup, 1), (53, .getfield 298, 3), (56, .iconst 2, 1), (57, .ior, 1), (58, .putfield 298, 3), (61, .return_, 1)]
def M_55 : mI := (⟨"EdgeHouse$Reader", "countVarying", "()V"⟩, prog_7_method_33_code, 1, 0, none, [(37, 1, 15, 1), (237, 1, 8, 1), (298, 13, 9, 1)], [(158, 1, 45, 1)], [(193, 5, 15, .null), (195, 5, 16, .null)], Kk_55)
def Kk_56 : List (Nat × Instr × Nat) := [(0, .aload_n 0, 1), (1, .getfield 114, 3), (4, .aload_n 0, 1), (5, .getfield 26, 3), (8, .if_icmp .ge 25, 3), (11, .aload_n 0, 1), (12, .invokevirtual 51, 3), (15, .bipush 10, 2), (17, .if_icmp .eq 16, 3), (20, .aload_n 0, 1), (21, .dup, 1), (22, .getfield 114, 3), (25, .iconst 1, 1), (26, .iadd, 1), (27, .putfield 114, 3), (30, .goto (-30), 3), (33, .iconst 1, 1), (34, .ireturn, 1)]
def M_56 : mI := (⟨"EdgeHouse$Reader", "skipValue", "()Z"⟩, prog_7_method_23_code, 1, 0, (some FieldType.boolean), [(26, 1, 1, 1), (114, 1, 2, 1)], [(51, 1, 22, 1)], [], Kk_56)
def Kk_57 : List (Nat × Instr × Nat) := [(0, .aload_n 0, 1), (1, .bipush 10, 2), (3, .invokevirtual 62, 3), (6, .ifCond .eq 29, 3), (9, .aload_n 0, 1), (10, .getfield 114, 3), (13, .aload_n 0, 1), (14, .getfield 26, 3), (17, .if_icmp .eq 14, 3), (20, .aload_n 0, 1), (21, .aload_n 0, 1), (22, .getfield 114, 3), (25, .invokevirtual 120, 3), (28, .ifCond .eq 7, 3), (31, .iconst 1, 1), (32, .goto 4, 3), (35, .iconst 0, 1), (36, .ireturn, 1)]
def M_57 : mI := (⟨"EdgeHouse$Reader", "readEnd", "()Z"⟩, prog_7_method_15_code, 1, 0, (some FieldType.boolean), [(26, 1, 1, 1), (114, 1, 2, 1)], [(62, 1, 35, 1), (120, 1, 36, 1)], [], Kk_57)
def Kk_58 : List (Nat × Instr × Nat) := [(0, .iconst 0, 1), (1, .istore_n 1, 1), (2, .iconst 1, 1), (3, .istore_n 2, 1), (4, .iload_n 2, 1), (5, .iconst 4, 1), (6, .if_icmp .ge 26, 3), (9, .aload_n 0, 1), (10, .getfield 23, 3), (13, .iload_n 2, 1), (14, .iaload, 1), (15, .aload_n 0, 1), (16, .getfield 23, 3), (19, .iload_n 1, 1), (20, .iaload, 1), (21, .if_icmp .le 5, 3), (24, .iload_n 2, 1), (25, .istore_n 1, 1), (26, .iinc 2 1, 3), (29, .goto (-25), 3), (32, .iload_n 1, 1), (33, .ireturn, 1)]
def M_58 : mI := (⟨"EdgeHouse$Reader", "heaviestLanguage", "()I"⟩, prog_7_method_7_code, 3, 0, (some FieldType.int), [(23, 1, 12, 0)], [], [], Kk_58)
def Kk_59 : List (Nat × Instr × Nat) := [(0, .aload_n 0, 1), (1, .getfield 78, 3), (4, .ifnull 63, 3), (7, .aload_n 0, 1), (8, .getfield 78, 3), (11, .getfield 109, 3), (14, .iconst 1, 1), (15, .if_icmp .ne 52, 3), (18, .aload_n 0, 1), (19, .getfield 78, 3), (22, .getfield 112, 3), (25, .iconst (-1), 1), (26, .if_icmp .ne 41, 3), (29, .aload_n 0, 1), (30, .aload_n 0, 1), (31, .getfield 78, 3), (34, .getfield 115, 3), (37, .sipush 255, 3), (40, .invokestatic 116, 3), (43, .iconst 4, 1), (44, .ishr, 1), (45, .putfield 45, 3), (48, .aload_n 0, 1), (49, .aload_n 0, 1), (50, .getfield 78, 3), (53, .getfield 121, 3), (56, .sipush 255, 3), (59, .invokestatic 116, 3), (62, .iconst 4, 1), (63, .ishr, 1), (64, .putfield 9, 3), (67, .return_, 1)]
def M_59 : mI := (⟨"EdgeHouse$Request", "chooseBlocks", "()V"⟩, prog_9_method_4_code, 1, 0, none, [(9, 6, 5, 1), (45, 6, 4, 1), (78, 6, 13, 1), (109, 7, 1, 1), (112, 7, 7, 1), (115, 7, 2, 1), (121, 7, 3, 1)], [(116, 6, 0, 0)], [], Kk_59)
def Kk_60 : List (Nat × Instr × Nat) := [(0, .aload_n 0, 1), (1, .iconst 0, 1), (2, .putfield 26, 3), (5, .return_, 1)]
def M_60 : mI := (⟨"EdgeHouse$Reader", "empty", "()V"⟩, prog_7_method_3_code, 1, 0, none, [(26, 1, 1, 1)], [], [], Kk_60)
def Kk_61 : List (Nat × Instr × Nat) := [(0, .aload_n 0, 1), (1, .invokespecial 3, 3), (4, .aload_n 0, 1), (5, .ldc 9, 2), (7, .putfield 11, 3), (10, .return_, 1)]
def M_61 : mI := (⟨"EdgeHouse$Reply", "<init>", "()V"⟩, prog_8_method_1_code, 1, 0, none, [(11, 8, 13, 1)], [(3, 4, 0, 0)], [(9, 5, 31, .null)], Kk_61)
def Kk_62 : List (Nat × Instr × Nat) := [(0, .aload_n 0, 1), (1, .dup, 1), (2, .getfield 63, 3), (5, .iconst 1, 1), (6, .iadd, 1), (7, .putfield 63, 3), (10, .aload_n 0, 1), (11, .aload_n 1, 1), (12, .aload_n 0, 1), (13, .getfield 9, 3), (16, .aload_n 0, 1), (17, .getfield 48, 3), (20, .invokevirtual 131, 3), (23, .iconst 1, 1), (24, .ireturn, 1)]
def M_62 : mI := (⟨"java/util/ArrayList", "add", "(Ljava/lang/Object;)Z"⟩, prog_34_method_25_code, 2, 1, (some FieldType.boolean), [(9, 2, 0, 1), (48, 2, 1, 1), (63, 2, 2, 1)], [(131, 1, 63, 2)], [], Kk_62)
def Kk_63 : List (Nat × Instr × Nat) := [(0, .iload_n 3, 1), (1, .aload_n 2, 1), (2, .arraylength, 1), (3, .if_icmp .ne 8, 3), (6, .aload_n 0, 1), (7, .invokevirtual 129, 3), (10, .astore_n 2, 1), (11, .aload_n 2, 1), (12, .iload_n 3, 1), (13, .aload_n 1, 1), (14, .aastore, 1), (15, .aload_n 0, 1), (16, .iload_n 3, 1), (17, .iconst 1, 1), (18, .iadd, 1), (19, .putfield 48, 3), (22, .return_, 1)]
def M_63 : mI := (⟨"java/util/ArrayList", "add", "(Ljava/lang/Object;[Ljava/lang/Object;I)V"⟩, prog_34_method_24_code, 4, 3, none, [(48, 2, 1, 1)], [(129, 1, 64, 2)], [], Kk_63)
def Kk_64 : List (Nat × Instr × Nat) := [(0, .aload_n 0, 1), (1, .aload_n 0, 1), (2, .getfield 48, 3), (5, .iconst 1, 1), (6, .iadd, 1), (7, .invokevirtual 69, 3), (10, .areturn, 1)]
def M_64 : mI := (⟨"java/util/ArrayList", "grow", "()[Ljava/lang/Object;"⟩, prog_34_method_7_code, 1, 0, (some (FieldType.array (FieldType.object "java/lang/Object"))), [(48, 2, 1, 1)], [(69, 1, 65, 2)], [], Kk_64)
def Kk_65 : List (Nat × Instr × Nat) := [(0, .aload_n 0, 1), (1, .getfield 9, 3), (4, .arraylength, 1), (5, .istore_n 2, 1), (6, .iload_n 2, 1), (7, .ifCond .gt 13, 3), (10, .aload_n 0, 1), (11, .getfield 9, 3), (14, .getstatic 39, 3), (17, .if_acmp .eq 28, 3), (20, .iload_n 2, 1), (21, .iload_n 1, 1), (22, .iload_n 2, 1), (23, .isub, 1), (24, .iload_n 2, 1), (25, .iconst 1, 1), (26, .ishr, 1), (27, .invokestatic 73, 3), (30, .istore_n 3, 1), (31, .aload_n 0, 1), (32, .aload_n 0, 1), (33, .getfield 9, 3), (36, .iload_n 3, 1), (37, .invokestatic 66, 3), (40, .dup_x1, 1), (41, .putfield 9, 3), (44, .areturn, 1), (45, .aload_n 0, 1), (46, .bipush 10, 2), (48, .iload_n 1, 1), (49, .invokestatic 79, 3), (52, .anewarray 7, 3), (55, .dup_x1, 1), (56, .putfield 9, 3), (59, .areturn, 1)]
def M_65 : mI := (⟨"java/util/ArrayList", "grow", "(I)[Ljava/lang/Object;"⟩, prog_34_method_6_code, 4, 1, (some (FieldType.array (FieldType.object "java/lang/Object"))), [(9, 2, 0, 1)], [(66, 2, 68, 0), (73, 2, 66, 0), (79, 5, 0, 0)], [(7, 1, 8, .null), (39, 4, 0, .ref 0)], Kk_65)
def Kk_66 : List (Nat × Instr × Nat) := [(0, .iload_n 0, 1), (1, .iload_n 1, 1), (2, .iload_n 2, 1), (3, .invokestatic 194, 3), (6, .iadd, 1), (7, .istore_n 3, 1), (8, .iconst 0, 1), (9, .iload_n 3, 1), (10, .if_icmp .ge 11, 3), (13, .iload_n 3, 1), (14, .ldc 200, 2), (16, .if_icmp .gt 5, 3), (19, .iload_n 3, 1), (20, .ireturn, 1), (21, .iload_n 0, 1), (22, .iload_n 1, 1), (23, .invokestatic 201, 3), (26, .ireturn, 1)]
def M_66 : mI := (⟨"jdk/internal/util/ArraysSupport", "newLength", "(III)I"⟩, prog_42_method_27_code, 4, 3, (some FieldType.int), [], [(194, 5, 0, 0), (201, 2, 67, 0)], [(200, 2, 0, .int (2147483639))], Kk_66)
def Kk_67 : List (Nat × Instr × Nat) := [(0, .iload_n 0, 1), (1, .iload_n 1, 1), (2, .iadd, 1), (3, .istore_n 2, 1), (4, .iload_n 2, 1), (5, .ifCond .ge 44, 3), (8, .new 204, 3), (11, .dup, 1), (12, .new 89, 3), (15, .dup, 1), (16, .invokespecial 91, 3), (19, .ldc 206, 2), (21, .invokevirtual 94, 3), (24, .iload_n 0, 1), (25, .invokevirtual 98, 3), (28, .ldc 208, 2), (30, .invokevirtual 94, 3), (33, .iload_n 1, 1), (34, .invokevirtual 98, 3), (37, .ldc 210, 2), (39, .invokevirtual 94, 3), (42, .invokevirtual 101, 3), (45, .invokespecial 212, 3), (48, .athrow, 1), (49, .iload_n 2, 1), (50, .ldc 200, 2), (52, .if_icmp .gt 6, 3), (55, .ldc 200, 2), (57, .ireturn, 1), (58, .iload_n 2, 1), (59, .ireturn, 1)]
def M_67 : mI := (⟨"jdk/internal/util/ArraysSupport", "hugeLength", "(II)I"⟩, prog_42_method_28_code, 3, 2, (some FieldType.int), [], [], [(200, 2, 0, .int (2147483639))], Kk_67)
def Kk_68 : List (Nat × Instr × Nat) := [(0, .aload_n 0, 1), (1, .iload_n 1, 1), (2, .aload_n 0, 1), (3, .invokevirtual 86, 3), (6, .invokestatic 300, 3), (9, .areturn, 1)]
def M_68 : mI := (⟨"java/util/Arrays", "copyOf", "([Ljava/lang/Object;I)[Ljava/lang/Object;"⟩, prog_35_method_119_code, 2, 2, (some (FieldType.array (FieldType.object "java/lang/Object"))), [], [(300, 2, 69, 0)], [], Kk_68)
def Kk_69 : List (Nat × Instr × Nat) := [(0, .aload_n 2, 1), (1, .ldc 110, 2), (3, .if_acmp .ne 10, 3), (6, .iload_n 1, 1), (7, .anewarray 2, 3), (10, .goto 14, 3), (13, .aload_n 2, 1), (14, .invokevirtual 90, 3), (17, .iload_n 1, 1), (18, .invokestatic 95, 3), (21, .checkcast 110, 3), (24, .astore_n 3, 1), (25, .aload_n 0, 1), (26, .iconst 0, 1), (27, .aload_n 3, 1), (28, .iconst 0, 1), (29, .aload_n 0, 1), (30, .arraylength, 1), (31, .iload_n 1, 1), (32, .invokestatic 304, 3), (35, .invokestatic 150, 3), (38, .aload_n 3, 1), (39, .areturn, 1)]
def M_69 : mI := (⟨"java/util/Arrays", "copyOf", "([Ljava/lang/Object;ILjava/lang/Class;)[Ljava/lang/Object;"⟩, prog_35_method_120_code, 4, 3, (some (FieldType.array (FieldType.object "java/lang/Object"))), [], [(304, 6, 0, 0)], [(2, 1, 8, .null)], Kk_69)
def Kk_70 : List (Nat × Instr × Nat) := [(0, .aload_n 1, 1), (1, .iload_n 2, 1), (2, .putfield 531, 3), (5, .aload_n 1, 1), (6, .aload_n 0, 1), (7, .getfield 174, 3), (10, .putfield 532, 3), (13, .aload_n 0, 1), (14, .dup, 1), (15, .getfield 261, 3), (18, .iconst 1, 1), (19, .iadd, 1), (20, .putfield 261, 3), (23, .return_, 1)]
def M_70 : mI := (⟨"EdgeHouse", "close", "(LEdgeHouse$Reply;I)V"⟩, prog_1_method_41_code, 3, 2, none, [(174, 0, 14, 1), (261, 0, 10, 1), (531, 8, 1, 1), (532, 8, 12, 1)], [], [], Kk_70)
def Kk_71 : List (Nat × Instr × Nat) := [(0, .bipush 64, 2), (2, .iload_n 3, 1), (3, .iadd, 1), (4, .iload 4, 2), (6, .invokestatic 61, 3), (9, .istore 6, 2), (11, .iconst (-1), 1), (12, .istore 7, 2), (14, .iconst 0, 1), (15, .istore 8, 2), (17, .iload_n 1, 1), (18, .istore 9, 2), (20, .iload 9, 2), (22, .iload_n 2, 1), (23, .if_icmp .gt 113, 3), (26, .aload_n 0, 1), (27, .getfield 28, 3), (30, .iload 9, 2), (32, .aaload, 1), (33, .getfield 160, 3), (36, .ifCond .ne 6, 3), (39, .goto 91, 3), (42, .aload 5, 2), (44, .ifnull 23, 3), (47, .aload 5, 2), (49, .iload 9, 2), (51, .aload_n 0, 1), (52, .getfield 174, 3), (55, .invokevirtual 267, 3), (58, .ifCond .eq 9, 3), (61, .ldc_w 271, 3), (64, .goto 4, 3), (67, .iconst 0, 1), (68, .istore 10, 2), (70, .iconst 0, 1), (71, .istore 11, 2), (73, .iload 11, 2), (75, .iconst 4, 1), (76, .if_icmp .ge 54, 3), (79, .aload_n 0, 1), (80, .getfield 32, 3), (83, .iload 9, 2), (85, .iconst 4, 1), (86, .imul, 1), (87, .iload 11, 2), (89, .iadd, 1), (90, .iaload, 1), (91, .iload 6, 2), (93, .isub, 1), (94, .ldc_w 272, 3), (97, .iand, 1), (98, .iload 10, 2), (100, .iadd, 1), (101, .istore 12, 2), (103, .iload 7, 2), (105, .iconst (-1), 1), (106, .if_icmp .eq 10, 3), (109, .iload 12, 2), (111, .iload 8, 2), (113, .if_icmp .ge 11, 3), (116, .iload 9, 2), (118, .istore 7, 2), (120, .iload 12, 2), (122, .istore 8, 2), (124, .iinc 11 1, 3), (127, .goto (-54), 3), (130, .iinc 9 1, 3), (133, .goto (-113), 3), (136, .iload 7, 2), (138, .ireturn, 1)]
def M_71 : mI := (⟨"EdgeHouse", "ringNode", "(IIIILEdgeHouse$Node;)I"⟩, prog_1_method_25_code, 13, 5, (some FieldType.int), [(28, 0, 3, 0), (32, 0, 4, 0), (160, 4, 6, 1), (174, 0, 14, 1)], [(61, 2, 11, 0), (267, 1, 72, 4)], [(271, 2, 0, .int (65536)), (272, 2, 0, .int (65535))], Kk_71)
def Kk_72 : List (Nat × Instr × Nat) := [(0, .iload_n 1, 1), (1, .iconst 1, 1), (2, .if_icmp .lt 22, 3), (5, .iload_n 1, 1), (6, .iconst 2, 1), (7, .if_icmp .gt 17, 3), (10, .iload_n 2, 1), (11, .aload_n 0, 1), (12, .getfield 33, 3), (15, .iload_n 1, 1), (16, .iaload, 1), (17, .if_icmp .ge 7, 3), (20, .iconst 1, 1), (21, .goto 4, 3), (24, .iconst 0, 1), (25, .ireturn, 1)]
def M_72 : mI := (⟨"EdgeHouse$Node", "shuns", "(II)Z"⟩, prog_6_method_8_code, 3, 2, (some FieldType.boolean), [(33, 4, 5, 0)], [], [], Kk_72)
def Kk_73 : List (Nat × Instr × Nat) := [(0, .aload_n 1, 1), (1, .getfield 208, 3), (4, .aload_n 2, 1), (5, .invokevirtual 430, 3), (8, .astore_n 3, 1), (9, .aload_n 3, 1), (10, .ifnonnull 7, 3), (13, .iconst 0, 1), (14, .goto 11, 3), (17, .aload_n 3, 1), (18, .aload_n 0, 1), (19, .getfield 174, 3), (22, .invokevirtual 434, 3), (25, .istore 4, 2), (27, .aload_n 3, 1), (28, .ifnull 25, 3), (31, .aload_n 2, 1), (32, .getfield 437, 3), (35, .ifCond .ne 18, 3), (38, .aload_n 3, 1), (39, .getfield 317, 3), (42, .aload_n 2, 1), (43, .getfield 440, 3), (46, .if_icmp .lt 7, 3), (49, .iconst 1, 1), (50, .goto 4, 3), (53, .iconst 0, 1), (54, .istore 5, 2), (56, .iload 5, 2), (58, .ifCond .eq 11, 3), (61, .aload_n 2, 1), (62, .aload_n 3, 1), (63, .invokevirtual 441, 3), (66, .goto 4, 3), (69, .iconst 0, 1), (70, .istore 6, 2), (72, .iload 5, 2), (74, .ifCond .eq 20, 3), (77, .aload_n 2, 1), (78, .aload_n 3, 1), (79, .getfield 408, 3), (82, .iload 4, 2), (84, .invokevirtual 444, 3), (87, .ifCond .eq 7, 3), (90, .iconst 1, 1), (91, .goto 4, 3), (94, .iconst 0, 1), (95, .istore 7, 2), (97, .iload 7, 2), (99, .ifCond .eq 37, 3), (102, .iload 6, 2), (104, .ifCond .ne 32, 3), (107, .aload_n 1, 1), (108, .dup, 1), (109, .getfield 448, 3), (112, .iconst 1, 1), (113, .iadd, 1), (114, .putfield 448, 3), (117, .aload_n 1, 1), (118, .getfield 208, 3), (121, .aload_n 3, 1), (122, .invokevirtual 451, 3), (125, .aload_n 0, 1), (126, .aload_n 1, 1), (127, .aload_n 2, 1), (128, .aload_n 3, 1), (129, .iconst 1, 1), (130, .invokevirtual 391, 3), (133, .goto 132, 3), (136, .iload 5, 2), (138, .ifCond .eq 61, 3), (141, .iload 6, 2), (143, .ifCond .ne 56, 3), (146, .aload_n 2, 1), (147, .aload_n 3, 1), (148, .getfield 408, 3), (151, .iload 4, 2), (153, .invokevirtual 454, 3), (156, .ifCond .eq 43, 3), (159, .aload_n 0, 1), (160, .aload_n 1, 1), (161, .aload_n 2, 1), (162, .aload_n 3, 1), (163, .iconst 2, 1), (164, .invokevirtual 391, 3), (167, .aload_n 1, 1), (168, .aload_n 2, 1), (169, .getfield 119, 3), (172, .aload_n 2, 1), (173, .getfield 120, 3), (176, .invokevirtual 457, 3), (179, .ifnonnull 86, 3), (182, .aload_n 0, 1), (183, .aload_n 1, 1), (184, .new 190, 3), (187, .dup, 1), (188, .aload_n 2, 1), (189, .invokespecial 461, 3), (192, .invokevirtual 372, 3), (195, .pop, 1), (196, .goto 69, 3), (199, .aload_n 2, 1), (200, .getfield 464, 3), (203, .ifCond .eq 15, 3), (206, .aload_n 0, 1), (207, .aload_n 1, 1), (208, .aload_n 2, 1), (209, .sipush 504, 3), (212, .invokevirtual 364, 3), (215, .goto 50, 3), (218, .aload_n 0, 1), (219, .aload_n 1, 1), (220, .aload_n 2, 1), (221, .iload 7, 2), (223, .ifCond .eq 15, 3), (226, .aload_n 2, 1), (227, .getfield 295, 3), (230, .ifCond .ne 8, 3), (233, .iload 6, 2), (235, .goto 4, 3), (238, .iconst 0, 1), (239, .invokevirtual 467, 3), (242, .astore 8, 2), (244, .aload 8, 2), (246, .ifnull 19, 3), (249, .aload_n 0, 1), (250, .aload_n 1, 1), (251, .aload 8, 2), (253, .invokevirtual 372, 3), (256, .ifCond .ne 9, 3), (259, .aload_n 0, 1), (260, .aload_n 1, 1), (261, .aload_n 2, 1), (262, .invokevirtual 349, 3), (265, .return_, 1)]
def M_73 : mI := (⟨"EdgeHouse", "look", "(LEdgeHouse$Node;LEdgeHouse$Request;)V"⟩, prog_1_method_34_code, 9, 2, none, [(119, 6, 0, 1), (120, 6, 1, 1), (174, 0, 14, 1), (208, 4, 1, 0), (295, 6, 12, 1), (317, 11, 4, 1), (408, 11, 2, 0), (437, 6, 6, 1), (440, 6, 11, 1), (448, 4, 8, 1), (464, 6, 7, 1)], [(349, 1, 122, 0), (364, 1, 116, 0), (372, 1, 111, 0), (391, 1, 102, 0), (430, 1, 74, 5), (434, 1, 83, 11), (441, 1, 84, 6), (444, 1, 90, 6), (451, 1, 92, 5), (454, 1, 108, 6), (457, 1, 109, 4), (461, 0, 110, 0), (467, 1, 118, 0)], [(190, 0, 10, .null)], Kk_73)
def Kk_74 : List (Nat × Instr × Nat) := [(0, .iconst 0, 1), (1, .istore_n 2, 1), (2, .iload_n 2, 1), (3, .aload_n 0, 1), (4, .invokevirtual 29, 3), (7, .if_icmp .ge 29, 3), (10, .aload_n 0, 1), (11, .iload_n 2, 1), (12, .invokevirtual 41, 3), (15, .astore_n 3, 1), (16, .aload_n 3, 1), (17, .ifnull 13, 3), (20, .aload_n 3, 1), (21, .aload_n 1, 1), (22, .invokevirtual 52, 3), (25, .ifCond .eq 5, 3), (28, .aload_n 3, 1), (29, .areturn, 1), (30, .iinc 2 1, 3), (33, .goto (-31), 3), (36, .aconst_null, 1), (37, .areturn, 1)]
def M_74 : mI := (⟨"EdgeHouse$Store", "suiting", "(LEdgeHouse$Request;)LEdgeHouse$Entry;"⟩, prog_10_method_6_code, 4, 1, (some (FieldType.object "EdgeHouse$Entry")), [], [(29, 1, 75, 5), (41, 1, 76, 5), (52, 1, 80, 11)], [], Kk_74)
def Kk_75 : List (Nat × Instr × Nat) := [(0, .aload_n 0, 1), (1, .getfield 12, 3), (4, .invokevirtual 25, 3), (7, .aload_n 0, 1), (8, .getfield 18, 3), (11, .invokevirtual 25, 3), (14, .iadd, 1), (15, .ireturn, 1)]
def M_75 : mI := (⟨"EdgeHouse$Store", "count", "()I"⟩, prog_10_method_2_code, 1, 0, (some FieldType.int), [(12, 5, 0, 0), (18, 5, 1, 0)], [(25, 1, 17, 2)], [], Kk_75)
def Kk_76 : List (Nat × Instr × Nat) := [(0, .iload_n 1, 1), (1, .ifCond .lt 11, 3), (4, .iload_n 1, 1), (5, .aload_n 0, 1), (6, .invokevirtual 29, 3), (9, .if_icmp .lt 5, 3), (12, .aconst_null, 1), (13, .areturn, 1), (14, .iload_n 1, 1), (15, .aload_n 0, 1), (16, .getfield 12, 3), (19, .invokevirtual 25, 3), (22, .if_icmp .ge 17, 3), (25, .aload_n 0, 1), (26, .getfield 12, 3), (29, .iload_n 1, 1), (30, .invokevirtual 32, 3), (33, .checkcast 36, 3), (36, .goto 22, 3), (39, .aload_n 0, 1), (40, .getfield 18, 3), (43, .iload_n 1, 1), (44, .aload_n 0, 1), (45, .getfield 12, 3), (48, .invokevirtual 25, 3), (51, .isub, 1), (52, .invokevirtual 32, 3), (55, .checkcast 36, 3), (58, .areturn, 1)]
def M_76 : mI := (⟨"EdgeHouse$Store", "at", "(I)LEdgeHouse$Entry;"⟩, prog_10_method_3_code, 2, 1, (some (FieldType.object "EdgeHouse$Entry")), [(12, 5, 0, 0), (18, 5, 1, 0)], [(25, 1, 17, 2), (29, 1, 75, 5), (32, 1, 77, 2)], [(36, 6, 11, .null)], Kk_76)
def Kk_77 : List (Nat × Instr × Nat) := [(0, .iload_n 1, 1), (1, .aload_n 0, 1), (2, .getfield 48, 3), (5, .invokestatic 118, 3), (8, .pop, 1), (9, .aload_n 0, 1), (10, .iload_n 1, 1), (11, .invokevirtual 123, 3), (14, .areturn, 1)]
def M_77 : mI := (⟨"java/util/ArrayList", "get", "(I)Ljava/lang/Object;"⟩, prog_34_method_20_code, 2, 1, (some (FieldType.object "java/lang/Object")), [(48, 2, 1, 1)], [(118, 2, 78, 0), (123, 1, 79, 2)], [], Kk_77)
def Kk_78 : List (Nat × Instr × Nat) := [(0, .iload_n 0, 1), (1, .iload_n 1, 1), (2, .aconst_null, 1), (3, .invokestatic 105, 3), (6, .ireturn, 1)]
def M_78 : mI := (⟨"java/util/Objects", "checkIndex", "(II)I"⟩, prog_39_method_17_code, 2, 2, (some FieldType.int), [], [(105, 2, 30, 0)], [], Kk_78)
def Kk_79 : List (Nat × Instr × Nat) := [(0, .aload_n 0, 1), (1, .getfield 9, 3), (4, .iload_n 1, 1), (5, .aaload, 1), (6, .areturn, 1)]
def M_79 : mI := (⟨"java/util/ArrayList", "elementData", "(I)Ljava/lang/Object;"⟩, prog_34_method_18_code, 2, 1, (some (FieldType.object "java/lang/Object")), [(9, 2, 0, 1)], [], [], Kk_79)
def Kk_80 : List (Nat × Instr × Nat) := [(0, .aload_n 0, 1), (1, .aload_n 1, 1), (2, .getfield 25, 3), (5, .aload_n 1, 1), (6, .getfield 28, 3), (9, .invokevirtual 29, 3), (12, .ifCond .eq 29, 3), (15, .aload_n 0, 1), (16, .getfield 22, 3), (19, .aload_n 0, 1), (20, .getfield 18, 3), (23, .aload_n 1, 1), (24, .getfield 33, 3), (27, .aload_n 1, 1), (28, .getfield 36, 3), (31, .invokevirtual 39, 3), (34, .if_icmp .ne 7, 3), (37, .iconst 1, 1), (38, .goto 4, 3), (41, .iconst 0, 1), (42, .ireturn, 1)]
def M_80 : mI := (⟨"EdgeHouse$Entry", "suits", "(LEdgeHouse$Request;)Z"⟩, prog_3_method_3_code, 2, 1, (some FieldType.boolean), [(18, 11, 2, 0), (22, 11, 3, 0), (25, 6, 0, 1), (28, 6, 1, 1), (33, 6, 2, 1), (36, 6, 3, 1)], [(29, 1, 81, 11), (39, 1, 82, 13)], [], Kk_80)
def Kk_81 : List (Nat × Instr × Nat) := [(0, .aload_n 0, 1), (1, .getfield 9, 3), (4, .iload_n 1, 1), (5, .if_icmp .ne 15, 3), (8, .aload_n 0, 1), (9, .getfield 15, 3), (12, .iload_n 2, 1), (13, .if_icmp .ne 7, 3), (16, .iconst 1, 1), (17, .goto 4, 3), (20, .iconst 0, 1), (21, .ireturn, 1)]
def M_81 : mI := (⟨"EdgeHouse$Entry", "isOf", "(II)Z"⟩, prog_3_method_2_code, 3, 2, (some FieldType.boolean), [(9, 11, 0, 0), (15, 11, 1, 0)], [], [], Kk_81)
def Kk_82 : List (Nat × Instr × Nat) := [(0, .aload_n 0, 1), (1, .getfield 24, 3), (4, .iconst 1, 1), (5, .iand, 1), (6, .ifCond .eq 7, 3), (9, .iload_n 1, 1), (10, .goto 4, 3), (13, .iconst 0, 1), (14, .aload_n 0, 1), (15, .getfield 24, 3), (18, .iconst 2, 1), (19, .iand, 1), (20, .ifCond .eq 9, 3), (23, .iconst 4, 1), (24, .iload_n 2, 1), (25, .imul, 1), (26, .goto 4, 3), (29, .iconst 0, 1), (30, .iadd, 1), (31, .ireturn, 1)]
def M_82 : mI := (⟨"EdgeHouse$Told", "whichFor", "(II)I"⟩, prog_11_method_4_code, 3, 2, (some FieldType.int), [(24, 13, 9, 1)], [], [], Kk_82)
def Kk_83 : List (Nat × Instr × Nat) := [(0, .aload_n 0, 1), (1, .getfield 62, 3), (4, .iload_n 1, 1), (5, .iadd, 1), (6, .aload_n 0, 1), (7, .getfield 65, 3), (10, .isub, 1), (11, .ireturn, 1)]
def M_83 : mI := (⟨"EdgeHouse$Entry", "ageAt", "(I)I"⟩, prog_3_method_6_code, 2, 1, (some FieldType.int), [(62, 11, 5, 1), (65, 11, 6, 1)], [], [], Kk_83)
def Kk_84 : List (Nat × Instr × Nat) := [(0, .aload_n 1, 1), (1, .getfield 72, 3), (4, .astore_n 2, 1), (5, .aload_n 0, 1), (6, .getfield 78, 3), (9, .ifnonnull 23, 3), (12, .aload_n 2, 1), (13, .aload_n 0, 1), (14, .getfield 45, 3), (17, .aload_n 0, 1), (18, .getfield 9, 3), (21, .invokevirtual 82, 3), (24, .aload_n 1, 1), (25, .getfield 88, 3), (28, .iconst (-1), 1), (29, .ixor, 1), (30, .iand, 1), (31, .ireturn, 1), (32, .aload_n 0, 1), (33, .getfield 78, 3), (36, .aload_n 1, 1), (37, .invokevirtual 90, 3), (40, .invokevirtual 94, 3), (43, .istore_n 3, 1), (44, .aload_n 0, 1), (45, .getfield 78, 3), (48, .iload_n 3, 1), (49, .aload_n 2, 1), (50, .getfield 100, 3), (53, .invokevirtual 103, 3), (56, .istore 4, 2), (58, .aload_n 0, 1), (59, .getfield 78, 3), (62, .iload_n 3, 1), (63, .aload_n 2, 1), (64, .getfield 100, 3), (67, .invokevirtual 106, 3), (70, .istore 5, 2), (72, .iload 4, 2), (74, .iload 5, 2), (76, .if_icmp .le 7, 3), (79, .iconst 0, 1), (80, .goto 22, 3), (83, .aload_n 2, 1), (84, .iload 4, 2), (86, .iconst 4, 1), (87, .ishr, 1), (88, .iload 5, 2), (90, .iconst 4, 1), (91, .ishr, 1), (92, .invokevirtual 82, 3), (95, .aload_n 1, 1), (96, .getfield 88, 3), (99, .iconst (-1), 1), (100, .ixor, 1), (101, .iand, 1), (102, .ireturn, 1)]
def M_84 : mI := (⟨"EdgeHouse$Request", "missingIn", "(LEdgeHouse$Entry;)I"⟩, prog_9_method_3_code, 6, 1, (some FieldType.int), [(9, 6, 5, 1), (45, 6, 4, 1), (72, 11, 2, 0), (78, 6, 13, 1), (88, 11, 7, 1), (100, 13, 2, 1)], [(82, 1, 85, 13), (90, 1, 86, 11), (94, 1, 87, 7), (103, 1, 88, 7), (106, 1, 89, 7)], [], Kk_84)
def Kk_85 : List (Nat × Instr × Nat) := [(0, .aload_n 0, 1), (1, .getfield 27, 3), (4, .bipush 15, 2), (6, .iadd, 1), (7, .iconst 4, 1), (8, .ishr, 1), (9, .istore_n 3, 1), (10, .iload_n 2, 1), (11, .iconst 1, 1), (12, .iadd, 1), (13, .iload_n 3, 1), (14, .invokestatic 30, 3), (17, .istore 4, 2), (19, .iconst 1, 1), (20, .iload 4, 2), (22, .ishl, 1), (23, .iconst 1, 1), (24, .isub, 1), (25, .iconst (-1), 1), (26, .iload_n 1, 1), (27, .ishl, 1), (28, .iand, 1), (29, .ireturn, 1)]
def M_85 : mI := (⟨"EdgeHouse$Told", "blocks", "(II)I"⟩, prog_11_method_5_code, 5, 2, (some FieldType.int), [(27, 13, 2, 1)], [(30, 6, 0, 0)], [], Kk_85)
def Kk_86 : List (Nat × Instr × Nat) := [(0, .bipush 8, 2), (2, .aload_n 0, 1), (3, .getfield 18, 3), (6, .getfield 59, 3), (9, .imul, 1), (10, .aload_n 0, 1), (11, .getfield 22, 3), (14, .iadd, 1), (15, .ireturn, 1)]
def M_86 : mI := (⟨"EdgeHouse$Entry", "tag", "()I"⟩, prog_3_method_5_code, 1, 0, (some FieldType.int), [(18, 11, 2, 0), (22, 11, 3, 0), (59, 13, 1, 1)], [], [], Kk_86)
def Kk_87 : List (Nat × Instr × Nat) := [(0, .aload_n 0, 1), (1, .getfield 11, 3), (4, .ifCond .eq 23, 3), (7, .aload_n 0, 1), (8, .getfield 19, 3), (11, .iconst (-1), 1), (12, .if_icmp .eq 11, 3), (15, .aload_n 0, 1), (16, .getfield 19, 3), (19, .iload_n 1, 1), (20, .if_icmp .ne 7, 3), (23, .iconst 1, 1), (24, .goto 4, 3), (27, .iconst 0, 1), (28, .ireturn, 1)]
def M_87 : mI := (⟨"EdgeHouse$Conditions", "rangeCounts", "(I)Z"⟩, prog_2_method_2_code, 2, 1, (some FieldType.boolean), [(11, 7, 1, 1), (19, 7, 7, 1)], [], [], Kk_87)
def Kk_88 : List (Nat × Instr × Nat) := [(0, .iload_n 1, 1), (1, .ifCond .ne 5, 3), (4, .iconst 0, 1), (5, .ireturn, 1), (6, .aload_n 0, 1), (7, .getfield 11, 3), (10, .iconst 1, 1), (11, .if_icmp .ne 10, 3), (14, .aload_n 0, 1), (15, .getfield 22, 3), (18, .goto 13, 3), (21, .iconst 0, 1), (22, .iload_n 2, 1), (23, .aload_n 0, 1), (24, .getfield 22, 3), (27, .isub, 1), (28, .invokestatic 25, 3), (31, .ireturn, 1)]
def M_88 : mI := (⟨"EdgeHouse$Conditions", "from", "(ZI)I"⟩, prog_2_method_3_code, 3, 2, (some FieldType.int), [(11, 7, 1, 1), (22, 7, 2, 1)], [(25, 5, 0, 0)], [], Kk_88)
def Kk_89 : List (Nat × Instr × Nat) := [(0, .iload_n 1, 1), (1, .ifCond .eq 24, 3), (4, .aload_n 0, 1), (5, .getfield 11, 3), (8, .iconst 1, 1), (9, .if_icmp .ne 16, 3), (12, .aload_n 0, 1), (13, .getfield 31, 3), (16, .iload_n 2, 1), (17, .iconst 1, 1), (18, .isub, 1), (19, .invokestatic 34, 3), (22, .goto 6, 3), (25, .iload_n 2, 1), (26, .iconst 1, 1), (27, .isub, 1), (28, .ireturn, 1)]
def M_89 : mI := (⟨"EdgeHouse$Conditions", "to", "(ZI)I"⟩, prog_2_method_4_code, 3, 2, (some FieldType.int), [(11, 7, 1, 1), (31, 7, 3, 1)], [(34, 6, 0, 0)], [], Kk_89)
def Kk_90 : List (Nat × Instr × Nat) := [(0, .aload_n 0, 1), (1, .getfield 15, 3), (4, .iconst (-1), 1), (5, .if_icmp .eq 11, 3), (8, .iload_n 2, 1), (9, .aload_n 0, 1), (10, .getfield 15, 3), (13, .if_icmp .gt 7, 3), (16, .iconst 1, 1), (17, .goto 4, 3), (20, .iconst 0, 1), (21, .istore_n 3, 1), (22, .iload_n 3, 1), (23, .ifCond .eq 24, 3), (26, .iload_n 2, 1), (27, .aload_n 0, 1), (28, .getfield 18, 3), (31, .iconst 0, 1), (32, .invokestatic 122, 3), (35, .iadd, 1), (36, .aload_n 1, 1), (37, .invokevirtual 125, 3), (40, .if_icmp .ge 7, 3), (43, .iconst 1, 1), (44, .goto 4, 3), (47, .iconst 0, 1), (48, .ireturn, 1)]
def M_90 : mI := (⟨"EdgeHouse$Request", "takesFresh", "(LEdgeHouse$Told;I)Z"⟩, prog_9_method_5_code, 4, 2, (some FieldType.boolean), [(15, 6, 8, 1), (18, 6, 9, 1)], [(122, 5, 0, 0), (125, 1, 91, 13)], [], Kk_90)
def Kk_91 : List (Nat × Instr × Nat) := [(0, .aload_n 0, 1), (1, .getfield 7, 3), (4, .ifCond .eq 7, 3), (7, .iconst 0, 1), (8, .goto 7, 3), (11, .aload_n 0, 1), (12, .getfield 13, 3), (15, .ireturn, 1)]
def M_91 : mI := (⟨"EdgeHouse$Told", "life", "()I"⟩, prog_11_method_2_code, 1, 0, (some FieldType.int), [(7, 13, 7, 1), (13, 13, 3, 1)], [], [], Kk_91)
def Kk_92 : List (Nat × Instr × Nat) := [(0, .aload_n 0, 1), (1, .aload_n 1, 1), (2, .invokevirtual 102, 3), (5, .aload_n 1, 1), (6, .iconst 1, 1), (7, .putfield 71, 3), (10, .aload_n 0, 1), (11, .getfield 18, 3), (14, .aload_n 1, 1), (15, .invokevirtual 95, 3), (18, .pop, 1), (19, .aload_n 0, 1), (20, .invokevirtual 99, 3), (23, .return_, 1)]
def M_92 : mI := (⟨"EdgeHouse$Store", "use", "(LEdgeHouse$Entry;)V"⟩, prog_10_method_14_code, 2, 1, none, [(18, 5, 1, 0), (71, 11, 8, 1)], [(95, 1, 62, 2), (99, 1, 97, 5), (102, 1, 93, 5)], [], Kk_92)
def Kk_93 : List (Nat × Instr × Nat) := [(0, .aload_n 0, 1), (1, .aload_n 1, 1), (2, .invokevirtual 75, 3), (5, .istore_n 2, 1), (6, .iload_n 2, 1), (7, .iconst (-1), 1), (8, .if_icmp .ne 4, 3), (11, .return_, 1), (12, .aload_n 1, 1), (13, .getfield 71, 3), (16, .ifCond .eq 15, 3), (19, .aload_n 0, 1), (20, .getfield 18, 3), (23, .iload_n 2, 1), (24, .invokevirtual 38, 3), (27, .pop, 1), (28, .goto 12, 3), (31, .aload_n 0, 1), (32, .getfield 12, 3), (35, .iload_n 2, 1), (36, .invokevirtual 38, 3), (39, .pop, 1), (40, .return_, 1)]
def M_93 : mI := (⟨"EdgeHouse$Store", "remove", "(LEdgeHouse$Entry;)V"⟩, prog_10_method_9_code, 3, 1, none, [(12, 5, 0, 0), (18, 5, 1, 0), (71, 11, 8, 1)], [(38, 1, 95, 2), (75, 1, 94, 5)], [], Kk_93)
def Kk_94 : List (Nat × Instr × Nat) := [(0, .aload_n 1, 1), (1, .getfield 71, 3), (4, .ifCond .eq 10, 3), (7, .aload_n 0, 1), (8, .getfield 18, 3), (11, .goto 7, 3), (14, .aload_n 0, 1), (15, .getfield 12, 3), (18, .astore_n 2, 1), (19, .iconst 0, 1), (20, .istore_n 3, 1), (21, .iload_n 3, 1), (22, .aload_n 2, 1), (23, .invokevirtual 25, 3), (26, .if_icmp .ge 20, 3), (29, .aload_n 2, 1), (30, .iload_n 3, 1), (31, .invokevirtual 32, 3), (34, .aload_n 1, 1), (35, .if_acmp .ne 5, 3), (38, .iload_n 3, 1), (39, .ireturn, 1), (40, .iinc 3 1, 3), (43, .goto (-22), 3), (46, .iconst (-1), 1), (47, .ireturn, 1)]
def M_94 : mI := (⟨"EdgeHouse$Store", "placeOf", "(LEdgeHouse$Entry;)I"⟩, prog_10_method_8_code, 4, 1, (some FieldType.int), [(12, 5, 0, 0), (18, 5, 1, 0), (71, 11, 8, 1)], [(25, 1, 17, 2), (32, 1, 77, 2)], [], Kk_94)
def Kk_95 : List (Nat × Instr × Nat) := [(0, .iload_n 1, 1), (1, .aload_n 0, 1), (2, .getfield 48, 3), (5, .invokestatic 118, 3), (8, .pop, 1), (9, .aload_n 0, 1), (10, .getfield 9, 3), (13, .astore_n 2, 1), (14, .aload_n 2, 1), (15, .iload_n 1, 1), (16, .aaload, 1), (17, .astore_n 3, 1), (18, .aload_n 0, 1), (19, .aload_n 2, 1), (20, .iload_n 1, 1), (21, .invokevirtual 144, 3), (24, .aload_n 3, 1), (25, .areturn, 1)]
def M_95 : mI := (⟨"java/util/ArrayList", "remove", "(I)Ljava/lang/Object;"⟩, prog_34_method_29_code, 4, 1, (some (FieldType.object "java/lang/Object")), [(9, 2, 0, 1), (48, 2, 1, 1)], [(118, 2, 78, 0), (144, 1, 96, 2)], [], Kk_95)
def Kk_96 : List (Nat × Instr × Nat) := [(0, .aload_n 0, 1), (1, .dup, 1), (2, .getfield 63, 3), (5, .iconst 1, 1), (6, .iadd, 1), (7, .putfield 63, 3), (10, .aload_n 0, 1), (11, .getfield 48, 3), (14, .iconst 1, 1), (15, .isub, 1), (16, .dup, 1), (17, .istore_n 3, 1), (18, .iload_n 2, 1), (19, .if_icmp .le 15, 3), (22, .aload_n 1, 1), (23, .iload_n 2, 1), (24, .iconst 1, 1), (25, .iadd, 1), (26, .aload_n 1, 1), (27, .iload_n 2, 1), (28, .iload_n 3, 1), (29, .iload_n 2, 1), (30, .isub, 1), (31, .invokestatic 112, 3), (34, .aload_n 1, 1), (35, .aload_n 0, 1), (36, .iload_n 3, 1), (37, .dup_x1, 1), (38, .putfield 48, 3), (41, .aconst_null, 1), (42, .aastore, 1), (43, .return_, 1)]
def M_96 : mI := (⟨"java/util/ArrayList", "fastRemove", "([Ljava/lang/Object;I)V"⟩, prog_34_method_39_code, 4, 2, none, [(48, 2, 1, 1), (63, 2, 2, 1)], [], [], Kk_96)
def Kk_97 : List (Nat × Instr × Nat) := [(0, .aload_n 0, 1), (1, .aload_n 0, 1), (2, .getfield 18, 3), (5, .invokevirtual 106, 3), (8, .istore_n 1, 1), (9, .iload_n 1, 1), (10, .aload_n 0, 1), (11, .aload_n 0, 1), (12, .getfield 12, 3), (15, .invokevirtual 106, 3), (18, .iadd, 1), (19, .istore_n 2, 1), (20, .aload_n 0, 1), (21, .getfield 18, 3), (24, .invokevirtual 110, 3), (27, .ifCond .ne 49, 3), (30, .iload_n 1, 1), (31, .aload_n 0, 1), (32, .getfield 21, 3), (35, .iconst 1, 1), (36, .ishr, 1), (37, .if_icmp .le 39, 3), (40, .aload_n 0, 1), (41, .getfield 18, 3), (44, .iconst 0, 1), (45, .invokevirtual 38, 3), (48, .checkcast 36, 3), (51, .astore_n 3, 1), (52, .iload_n 1, 1), (53, .aload_n 3, 1), (54, .invokevirtual 105, 3), (57, .isub, 1), (58, .istore_n 1, 1), (59, .aload_n 3, 1), (60, .iconst 0, 1), (61, .putfield 71, 3), (64, .aload_n 0, 1), (65, .getfield 12, 3), (68, .aload_n 3, 1), (69, .invokevirtual 95, 3), (72, .pop, 1), (73, .goto (-53), 3), (76, .aload_n 0, 1), (77, .invokevirtual 29, 3), (80, .ifCond .le 57, 3), (83, .iload_n 2, 1), (84, .aload_n 0, 1), (85, .getfield 21, 3), (88, .if_icmp .le 49, 3), (91, .aload_n 0, 1), (92, .getfield 12, 3), (95, .invokevirtual 110, 3), (98, .ifCond .eq 17, 3), (101, .aload_n 0, 1), (102, .getfield 18, 3), (105, .iconst 0, 1), (106, .invokevirtual 38, 3), (109, .checkcast 36, 3), (112, .goto 14, 3), (115, .aload_n 0, 1), (116, .getfield 12, 3), (119, .iconst 0, 1), (120, .invokevirtual 38, 3), (123, .checkcast 36, 3), (126, .astore_n 3, 1), (127, .iload_n 2, 1), (128, .aload_n 3, 1), (129, .invokevirtual 105, 3), (132, .isub, 1), (133, .istore_n 2, 1), (134, .goto (-58), 3), (137, .return_, 1)]
def M_97 : mI := (⟨"EdgeHouse$Store", "balance", "()V"⟩, prog_10_method_16_code, 4, 0, none, [(12, 5, 0, 0), (18, 5, 1, 0), (21, 5, 2, 1), (71, 11, 8, 1)], [(29, 1, 75, 5), (38, 1, 95, 2), (95, 1, 62, 2), (105, 1, 99, 11), (106, 1, 98, 5), (110, 1, 101, 2)], [(36, 6, 11, .null)], Kk_97)
def Kk_98 : List (Nat × Instr × Nat) := [(0, .iconst 0, 1), (1, .istore_n 2, 1), (2, .iconst 0, 1), (3, .istore_n 3, 1), (4, .iload_n 3, 1), (5, .aload_n 1, 1), (6, .invokevirtual 25, 3), (9, .if_icmp .ge 23, 3), (12, .iload_n 2, 1), (13, .aload_n 1, 1), (14, .iload_n 3, 1), (15, .invokevirtual 32, 3), (18, .checkcast 36, 3), (21, .invokevirtual 105, 3), (24, .iadd, 1), (25, .istore_n 2, 1), (26, .iinc 3 1, 3), (29, .goto (-25), 3), (32, .iload_n 2, 1), (33, .ireturn, 1)]
def M_98 : mI := (⟨"EdgeHouse$Store", "sizeOf", "(Ljava/util/ArrayList;)I"⟩, prog_10_method_15_code, 4, 1, (some FieldType.int), [], [(25, 1, 17, 2), (32, 1, 77, 2), (105, 1, 99, 11)], [(36, 6, 11, .null)], Kk_98)
def Kk_99 : List (Nat × Instr × Nat) := [(0, .bipush 16, 2), (2, .bipush 16, 2), (4, .aload_n 0, 1), (5, .getfield 68, 3), (8, .invokestatic 71, 3), (11, .imul, 1), (12, .iadd, 1), (13, .ireturn, 1)]
def M_99 : mI := (⟨"EdgeHouse$Entry", "size", "()I"⟩, prog_3_method_7_code, 1, 0, (some FieldType.int), [(68, 11, 7, 1)], [(71, 2, 100, 0)], [], Kk_99)
def Kk_100 : List (Nat × Instr × Nat) := [(0, .iload_n 0, 1), (1, .iload_n 0, 1), (2, .iconst 1, 1), (3, .iushr, 1), (4, .ldc_w 265, 3), (7, .iand, 1), (8, .isub, 1), (9, .istore_n 0, 1), (10, .iload_n 0, 1), (11, .ldc_w 266, 3), (14, .iand, 1), (15, .iload_n 0, 1), (16, .iconst 2, 1), (17, .iushr, 1), (18, .ldc_w 266, 3), (21, .iand, 1), (22, .iadd, 1), (23, .istore_n 0, 1), (24, .iload_n 0, 1), (25, .iload_n 0, 1), (26, .iconst 4, 1), (27, .iushr, 1), (28, .iadd, 1), (29, .ldc_w 267, 3), (32, .iand, 1), (33, .istore_n 0, 1), (34, .iload_n 0, 1), (35, .iload_n 0, 1), (36, .bipush 8, 2), (38, .iushr, 1), (39, .iadd, 1), (40, .istore_n 0, 1), (41, .iload_n 0, 1), (42, .iload_n 0, 1), (43, .bipush 16, 2), (45, .iushr, 1), (46, .iadd, 1), (47, .istore_n 0, 1), (48, .iload_n 0, 1), (49, .bipush 63, 2), (51, .iand, 1), (52, .ireturn, 1)]
def M_100 : mI := (⟨"java/lang/Integer", "bitCount", "(I)I"⟩, prog_21_method_49_code, 1, 1, (some FieldType.int), [], [], [(265, 2, 0, .int (1431655765)), (266, 2, 0, .int (858993459)), (267, 2, 0, .int (252645135))], Kk_100)
def Kk_101 : List (Nat × Instr × Nat) := [(0, .aload_n 0, 1), (1, .getfield 48, 3), (4, .ifCond .ne 7, 3), (7, .iconst 1, 1), (8, .goto 4, 3), (11, .iconst 0, 1), (12, .ireturn, 1)]
def M_101 : mI := (⟨"java/util/ArrayList", "isEmpty", "()Z"⟩, prog_34_method_9_code, 1, 0, (some FieldType.boolean), [(48, 2, 1, 1)], [], [], Kk_101)
def Kk_102 : List (Nat × Instr × Nat) := [(0, .aload_n 2, 1), (1, .getfield 113, 3), (4, .ifnull 10, 3), (7, .aload_n 2, 1), (8, .getfield 519, 3), (11, .ifnonnull 14, 3), (14, .aload_n 0, 1), (15, .aload_n 1, 1), (16, .getfield 339, 3), (19, .aload_n 2, 1), (20, .aload_n 3, 1), (21, .invokevirtual 328, 3), (24, .return_, 1), (25, .aload_n 2, 1), (26, .getfield 113, 3), (29, .iload 4, 2), (31, .putfield 523, 3), (34, .aload_n 2, 1), (35, .getfield 113, 3), (38, .aload_n 3, 1), (39, .aload_n 0, 1), (40, .getfield 174, 3), (43, .invokevirtual 434, 3), (46, .putfield 526, 3), (49, .aload_n 2, 1), (50, .getfield 113, 3), (53, .aload_n 3, 1), (54, .aload_n 2, 1), (55, .getfield 519, 3), (58, .invokevirtual 527, 3), (61, .aload_n 0, 1), (62, .aload_n 2, 1), (63, .getfield 113, 3), (66, .aload_n 2, 1), (67, .getfield 113, 3), (70, .getfield 531, 3), (73, .invokevirtual 109, 3), (76, .return_, 1)]
def M_102 : mI := (⟨"EdgeHouse", "serve", "(LEdgeHouse$Node;LEdgeHouse$Request;LEdgeHouse$Entry;I)V"⟩, prog_1_method_40_code, 5, 4, none, [(113, 6, 14, 1), (174, 0, 14, 1), (339, 4, 0, 0), (519, 6, 13, 1), (523, 8, 7, 1), (526, 8, 6, 1), (531, 8, 1, 1)], [(109, 1, 70, 0), (328, 1, 103, 0), (434, 1, 83, 11), (527, 1, 106, 8)], [], Kk_102)
def Kk_103 : List (Nat × Instr × Nat) := [(0, .aload_n 2, 1), (1, .getfield 535, 3), (4, .aload_n 3, 1), (5, .getfield 408, 3), (8, .getfield 91, 3), (11, .if_icmp .ne 7, 3), (14, .iconst 1, 1), (15, .goto 4, 3), (18, .iconst 0, 1), (19, .istore 4, 2), (21, .new 141, 3), (24, .dup, 1), (25, .iconst 1, 1), (26, .iload_n 1, 1), (27, .aload_n 2, 1), (28, .getfield 536, 3), (31, .aload_n 2, 1), (32, .getfield 537, 3), (35, .invokespecial 164, 3), (38, .astore 5, 2), (40, .aload 5, 2), (42, .aload_n 2, 1), (43, .getfield 119, 3), (46, .putfield 167, 3), (49, .aload 5, 2), (51, .aload_n 2, 1), (52, .getfield 120, 3), (55, .putfield 168, 3), (58, .aload 5, 2), (60, .iload 4, 2), (62, .ifCond .eq 9, 3), (65, .sipush 304, 3), (68, .goto 6, 3), (71, .sipush 200, 3), (74, .putfield 346, 3), (77, .aload 5, 2), (79, .aload_n 3, 1), (80, .getfield 408, 3), (83, .putfield 355, 3), (86, .aload 5, 2), (88, .aload_n 3, 1), (89, .getfield 422, 3), (92, .putfield 538, 3), (95, .aload 5, 2), (97, .aload_n 3, 1), (98, .getfield 317, 3), (101, .putfield 395, 3), (104, .aload 5, 2), (106, .aload_n 3, 1), (107, .aload_n 0, 1), (108, .getfield 174, 3), (111, .invokevirtual 434, 3), (114, .putfield 412, 3), (117, .aload 5, 2), (119, .iload 4, 2), (121, .ifCond .eq 7, 3), (124, .iconst 0, 1), (125, .goto 23, 3), (128, .aload_n 3, 1), (129, .getfield 326, 3), (132, .aload_n 3, 1), (133, .getfield 408, 3), (136, .aload_n 2, 1), (137, .getfield 539, 3), (140, .aload_n 2, 1), (141, .getfield 540, 3), (144, .invokevirtual 323, 3), (147, .iand, 1), (148, .putfield 416, 3), (151, .aload_n 0, 1), (152, .aload 5, 2), (154, .invokevirtual 169, 3), (157, .return_, 1)]
def M_103 : mI := (⟨"EdgeHouse", "sendFill", "(ILEdgeHouse$Request;LEdgeHouse$Entry;)V"⟩, prog_1_method_42_code, 6, 3, none, [(91, 13, 1, 1), (119, 6, 0, 1), (120, 6, 1, 1), (167, 9, 4, 1), (168, 9, 5, 1), (174, 0, 14, 1), (317, 11, 4, 1), (326, 11, 7, 1), (346, 9, 12, 1), (355, 9, 15, 1), (395, 9, 13, 1), (408, 11, 2, 0), (412, 9, 16, 1), (416, 9, 17, 1), (422, 11, 3, 0), (535, 6, 17, 1), (536, 6, 15, 1), (537, 6, 16, 1), (538, 9, 14, 1), (539, 6, 4, 1), (540, 6, 5, 1)], [(164, 0, 104, 0), (169, 1, 105, 0), (323, 1, 85, 13), (434, 1, 83, 11)], [(141, 0, 9, .null)], Kk_103)
def Kk_104 : List (Nat × Instr × Nat) := [(0, .aload_n 0, 1), (1, .invokespecial 3, 3), (4, .aload_n 0, 1), (5, .iload_n 1, 1), (6, .putfield 9, 3), (9, .aload_n 0, 1), (10, .iload_n 2, 1), (11, .putfield 15, 3), (14, .aload_n 0, 1), (15, .iload_n 3, 1), (16, .putfield 18, 3), (19, .aload_n 0, 1), (20, .iload 4, 2), (22, .putfield 21, 3), (25, .return_, 1)]
def M_104 : mI := (⟨"EdgeHouse$Message", "<init>", "(IIII)V"⟩, prog_5_method_1_code, 5, 4, none, [(9, 9, 0, 2), (15, 9, 1, 2), (18, 9, 2, 2), (21, 9, 3, 2)], [(3, 4, 0, 0)], [], Kk_104)
def Kk_105 : List (Nat × Instr × Nat) := [(0, .aload_n 0, 1), (1, .getfield 44, 3), (4, .invokevirtual 94, 3), (7, .bipush 100, 2), (9, .if_icmp .lt 14, 3), (12, .aload_n 0, 1), (13, .dup, 1), (14, .getfield 147, 3), (17, .iconst 1, 1), (18, .iadd, 1), (19, .putfield 147, 3), (22, .return_, 1), (23, .aload_n 1, 1), (24, .aload_n 0, 1), (25, .getfield 174, 3), (28, .putfield 273, 3), (31, .aload_n 0, 1), (32, .getfield 44, 3), (35, .aload_n 1, 1), (36, .invokevirtual 105, 3), (39, .pop, 1), (40, .return_, 1)]
def M_105 : mI := (⟨"EdgeHouse", "send", "(LEdgeHouse$Message;)V"⟩, prog_1_method_26_code, 2, 1, none, [(44, 0, 7, 0), (147, 0, 11, 1), (174, 0, 14, 1), (273, 9, 18, 1)], [(94, 1, 17, 2), (105, 1, 62, 2)], [], Kk_105)
def Kk_106 : List (Nat × Instr × Nat) := [(0, .aload_n 1, 1), (1, .invokevirtual 17, 3), (4, .istore_n 3, 1), (5, .aload_n 0, 1), (6, .aload_n 2, 1), (7, .getfield 23, 3), (10, .putfield 29, 3), (13, .aload_n 0, 1), (14, .aload_n 1, 1), (15, .getfield 30, 3), (18, .getfield 34, 3), (21, .putfield 40, 3), (24, .aload_n 0, 1), (25, .aload_n 1, 1), (26, .getfield 41, 3), (29, .putfield 44, 3), (32, .aload_n 0, 1), (33, .aload_n 1, 1), (34, .getfield 30, 3), (37, .getfield 45, 3), (40, .putfield 48, 3), (43, .aload_n 0, 1), (44, .aload_n 1, 1), (45, .getfield 30, 3), (48, .getfield 49, 3), (51, .putfield 52, 3), (54, .aload_n 0, 1), (55, .bipush 31, 2), (57, .aload_n 1, 1), (58, .getfield 53, 3), (61, .imul, 1), (62, .bipush 17, 2), (64, .aload_n 1, 1), (65, .getfield 56, 3), (68, .imul, 1), (69, .iadd, 1), (70, .iconst 5, 1), (71, .aload_n 0, 1), (72, .getfield 44, 3), (75, .imul, 1), (76, .iadd, 1), (77, .bipush 13, 2), (79, .aload_n 0, 1), (80, .getfield 40, 3), (83, .imul, 1), (84, .iadd, 1), (85, .putfield 59, 3), (88, .aload_n 2, 1), (89, .iload_n 3, 1), (90, .invokevirtual 62, 3), (93, .istore 4, 2), (95, .aload_n 0, 1), (96, .aload_n 2, 1), (97, .iload 4, 2), (99, .aload_n 0, 1), (100, .getfield 52, 3), (103, .invokevirtual 66, 3), (106, .putfield 70, 3), (109, .iconst 0, 1), (110, .aload_n 2, 1), (111, .iload 4, 2), (113, .aload_n 0, 1), (114, .getfield 52, 3), (117, .invokevirtual 72, 3), (120, .aload_n 0, 1), (121, .getfield 70, 3), (124, .isub, 1), (125, .iconst 1, 1), (126, .iadd, 1), (127, .invokestatic 75, 3), (130, .istore 5, 2), (132, .aload_n 2, 1), (133, .iload_n 3, 1), (134, .invokevirtual 81, 3), (137, .ifCond .eq 13, 3), (140, .aload_n 0, 1), (141, .sipush 304, 3), (144, .putfield 84, 3), (147, .goto 47, 3), (150, .iload 4, 2), (152, .ifCond .eq 18, 3), (155, .iload 5, 2), (157, .ifCond .ne 13, 3), (160, .aload_n 0, 1), (161, .sipush 416, 3), (164, .putfield 84, 3), (167, .goto 27, 3), (170, .aload_n 0, 1), (171, .iload 4, 2), (173, .ifCond .eq 9, 3), (176, .sipush 206, 3), (179, .goto 6, 3), (182, .sipush 200, 3), (185, .putfield 84, 3), (188, .aload_n 0, 1), (189, .iload 5, 2), (191, .putfield 87, 3), (194, .return_, 1)]
def M_106 : mI := (⟨"EdgeHouse$Reply", "fillFrom", "(LEdgeHouse$Entry;LEdgeHouse$Conditions;)V"⟩, prog_8_method_2_code, 6, 2, none, [(23, 7, 0, 1), (29, 8, 2, 1), (30, 11, 2, 0), (34, 13, 1, 1), (40, 8, 3, 1), (41, 11, 3, 0), (44, 8, 4, 1), (45, 13, 9, 1), (48, 8, 5, 1), (49, 13, 2, 1), (52, 8, 8, 1), (53, 11, 0, 0), (56, 11, 1, 0), (59, 8, 11, 1), (70, 8, 9, 1), (84, 8, 1, 1), (87, 8, 10, 1)], [(17, 1, 86, 11), (62, 1, 87, 7), (66, 1, 88, 7), (72, 1, 89, 7), (75, 5, 0, 0), (81, 1, 107, 7)], [], Kk_106)
def Kk_107 : List (Nat × Instr × Nat) := [(0, .iconst 0, 1), (1, .istore_n 2, 1), (2, .iload_n 2, 1), (3, .aload_n 0, 1), (4, .getfield 37, 3), (7, .if_icmp .ge 21, 3), (10, .aload_n 0, 1), (11, .getfield 15, 3), (14, .iload_n 2, 1), (15, .iaload, 1), (16, .iload_n 1, 1), (17, .if_icmp .ne 5, 3), (20, .iconst 1, 1), (21, .ireturn, 1), (22, .iinc 2 1, 3), (25, .goto (-23), 3), (28, .aload_n 0, 1), (29, .getfield 40, 3), (32, .ireturn, 1)]
def M_107 : mI := (⟨"EdgeHouse$Conditions", "matches", "(I)Z"⟩, prog_2_method_6_code, 3, 1, (some FieldType.boolean), [(15, 7, 5, 0), (37, 7, 6, 1), (40, 7, 4, 1)], [], [], Kk_107)
def Kk_108 : List (Nat × Instr × Nat) := [(0, .aload_n 0, 1), (1, .getfield 21, 3), (4, .iconst (-1), 1), (5, .if_icmp .eq 18, 3), (8, .iload_n 2, 1), (9, .aload_n 1, 1), (10, .invokevirtual 125, 3), (13, .aload_n 0, 1), (14, .getfield 21, 3), (17, .iadd, 1), (18, .if_icmp .ge 5, 3), (21, .iconst 1, 1), (22, .ireturn, 1), (23, .aload_n 0, 1), (24, .getfield 15, 3), (27, .iconst (-1), 1), (28, .if_icmp .ne 28, 3), (31, .aload_n 0, 1), (32, .getfield 18, 3), (35, .iconst (-1), 1), (36, .if_icmp .ne 20, 3), (39, .iload_n 2, 1), (40, .aload_n 1, 1), (41, .invokevirtual 125, 3), (44, .aload_n 1, 1), (45, .getfield 128, 3), (48, .iadd, 1), (49, .if_icmp .ge 7, 3), (52, .iconst 1, 1), (53, .goto 4, 3), (56, .iconst 0, 1), (57, .ireturn, 1)]
def M_108 : mI := (⟨"EdgeHouse$Request", "takesStale", "(LEdgeHouse$Told;I)Z"⟩, prog_9_method_6_code, 3, 2, (some FieldType.boolean), [(15, 6, 8, 1), (18, 6, 9, 1), (21, 6, 10, 1), (128, 13, 5, 1)], [(125, 1, 91, 13)], [], Kk_108)
def Kk_109 : List (Nat × Instr × Nat) := [(0, .iconst 0, 1), (1, .istore_n 3, 1), (2, .iload_n 3, 1), (3, .aload_n 0, 1), (4, .getfield 21, 3), (7, .invokevirtual 44, 3), (10, .if_icmp .ge 43, 3), (13, .aload_n 0, 1), (14, .getfield 21, 3), (17, .iload_n 3, 1), (18, .invokevirtual 48, 3), (21, .checkcast 52, 3), (24, .astore 4, 2), (26, .aload 4, 2), (28, .getfield 54, 3), (31, .iload_n 1, 1), (32, .if_icmp .ne 15, 3), (35, .aload 4, 2), (37, .getfield 57, 3), (40, .iload_n 2, 1), (41, .if_icmp .ne 6, 3), (44, .aload 4, 2), (46, .areturn, 1), (47, .iinc 3 1, 3), (50, .goto (-48), 3), (53, .aconst_null, 1), (54, .areturn, 1)]
def M_109 : mI := (⟨"EdgeHouse$Node", "fetchOf", "(II)LEdgeHouse$Fetch;"⟩, prog_6_method_2_code, 5, 2, (some (FieldType.object "EdgeHouse$Fetch")), [(21, 4, 2, 0), (54, 10, 0, 0), (57, 10, 1, 0)], [(44, 1, 17, 2), (48, 1, 77, 2)], [(52, 6, 10, .null)], Kk_109)
def Kk_110 : List (Nat × Instr × Nat) := [(0, .aload_n 0, 1), (1, .invokespecial 1, 3), (4, .aload_n 0, 1), (5, .aload_n 1, 1), (6, .getfield 7, 3), (9, .putfield 13, 3), (12, .aload_n 0, 1), (13, .aload_n 1, 1), (14, .getfield 16, 3), (17, .putfield 19, 3), (20, .aload_n 0, 1), (21, .aload_n 1, 1), (22, .getfield 20, 3), (25, .putfield 23, 3), (28, .aload_n 0, 1), (29, .aload_n 1, 1), (30, .getfield 24, 3), (33, .putfield 27, 3), (36, .aload_n 0, 1), (37, .aload_n 1, 1), (38, .getfield 28, 3), (41, .putfield 32, 3), (44, .aload_n 0, 1), (45, .aload_n 1, 1), (46, .getfield 33, 3), (49, .putfield 36, 3), (52, .aload_n 0, 1), (53, .aload_n 1, 1), (54, .getfield 37, 3), (57, .putfield 40, 3), (60, .return_, 1)]
def M_110 : mI := (⟨"EdgeHouse$Fetch", "<init>", "(LEdgeHouse$Request;)V"⟩, prog_4_method_1_code, 2, 1, none, [(7, 6, 0, 1), (13, 10, 0, 2), (16, 6, 1, 1), (19, 10, 1, 2), (20, 6, 2, 1), (23, 10, 2, 2), (24, 6, 3, 1), (27, 10, 3, 2), (28, 6, 6, 1), (32, 10, 4, 2), (33, 6, 4, 1), (36, 10, 5, 1), (37, 6, 5, 1), (40, 10, 6, 1)], [(1, 4, 0, 0)], [], Kk_110)
def Kk_111 : List (Nat × Instr × Nat) := [(0, .iconst 0, 1), (1, .istore_n 3, 1), (2, .aload_n 1, 1), (3, .getfield 339, 3), (6, .invokestatic 491, 3), (9, .ifCond .eq 19, 3), (12, .aload_n 0, 1), (13, .iconst 1, 1), (14, .iconst 2, 1), (15, .aload_n 2, 1), (16, .getfield 359, 3), (19, .aload_n 2, 1), (20, .getfield 360, 3), (23, .aload_n 1, 1), (24, .invokevirtual 123, 3), (27, .istore_n 3, 1), (28, .iload_n 3, 1), (29, .iconst (-1), 1), (30, .if_icmp .ne 5, 3), (33, .iconst 0, 1), (34, .ireturn, 1), (35, .aload_n 1, 1), (36, .dup, 1), (37, .getfield 494, 3), (40, .iconst 1, 1), (41, .iadd, 1), (42, .putfield 494, 3), (45, .aload_n 2, 1), (46, .aload_n 1, 1), (47, .getfield 494, 3), (50, .putfield 497, 3), (53, .aload_n 2, 1), (54, .iload_n 3, 1), (55, .putfield 498, 3), (58, .aload_n 2, 1), (59, .aload_n 1, 1), (60, .getfield 202, 3), (63, .putfield 396, 3), (66, .aload_n 2, 1), (67, .aload_n 0, 1), (68, .getfield 174, 3), (71, .putfield 499, 3), (74, .aload_n 1, 1), (75, .getfield 184, 3), (78, .aload_n 2, 1), (79, .invokevirtual 105, 3), (82, .pop, 1), (83, .new 141, 3), (86, .dup, 1), (87, .iconst 0, 1), (88, .aload_n 1, 1), (89, .getfield 339, 3), (92, .iload_n 3, 1), (93, .aload_n 2, 1), (94, .getfield 497, 3), (97, .invokespecial 164, 3), (100, .astore 4, 2), (102, .aload 4, 2), (104, .aload_n 2, 1), (105, .invokevirtual 502, 3), (108, .aload 4, 2), (110, .aload_n 1, 1), (111, .getfield 208, 3), (114, .aload_n 2, 1), (115, .invokevirtual 506, 3), (118, .putfield 510, 3), (121, .aload_n 0, 1), (122, .aload 4, 2), (124, .invokevirtual 169, 3), (127, .iconst 1, 1), (128, .ireturn, 1)]
def M_111 : mI := (⟨"EdgeHouse", "sendFetch", "(LEdgeHouse$Node;LEdgeHouse$Fetch;)Z"⟩, prog_1_method_36_code, 5, 2, (some FieldType.boolean), [(174, 0, 14, 1), (184, 4, 2, 0), (202, 4, 7, 1), (208, 4, 1, 0), (339, 4, 0, 0), (359, 10, 0, 0), (360, 10, 1, 0), (396, 10, 9, 1), (494, 4, 10, 1), (497, 10, 7, 1), (498, 10, 8, 1), (499, 10, 10, 1), (510, 9, 11, 1)], [(105, 1, 62, 2), (123, 1, 71, 0), (164, 0, 104, 0), (169, 1, 105, 0), (491, 2, 112, 0), (502, 1, 113, 9), (506, 1, 114, 5)], [(141, 0, 9, .null)], Kk_111)
def Kk_112 : List (Nat × Instr × Nat) := [(0, .iload_n 0, 1), (1, .iconst 3, 1), (2, .if_icmp .lt 13, 3), (5, .iload_n 0, 1), (6, .bipush 6, 2), (8, .if_icmp .gt 7, 3), (11, .iconst 1, 1), (12, .goto 4, 3), (15, .iconst 0, 1), (16, .ireturn, 1)]
def M_112 : mI := (⟨"EdgeHouse", "isEdge", "(I)Z"⟩, prog_1_method_23_code, 1, 1, (some FieldType.boolean), [], [], [], Kk_112)
def Kk_113 : List (Nat × Instr × Nat) := [(0, .aload_n 0, 1), (1, .aload_n 1, 1), (2, .getfield 24, 3), (5, .putfield 29, 3), (8, .aload_n 0, 1), (9, .aload_n 1, 1), (10, .getfield 30, 3), (13, .putfield 33, 3), (16, .aload_n 0, 1), (17, .aload_n 1, 1), (18, .getfield 34, 3), (21, .putfield 37, 3), (24, .aload_n 0, 1), (25, .aload_n 1, 1), (26, .getfield 38, 3), (29, .putfield 41, 3), (32, .aload_n 0, 1), (33, .aload_n 1, 1), (34, .getfield 42, 3), (37, .putfield 45, 3), (40, .aload_n 0, 1), (41, .aload_n 1, 1), (42, .getfield 46, 3), (45, .putfield 49, 3), (48, .aload_n 0, 1), (49, .aload_n 1, 1), (50, .getfield 50, 3), (53, .putfield 54, 3), (56, .aload_n 0, 1), (57, .aload_n 1, 1), (58, .getfield 55, 3), (61, .putfield 58, 3), (64, .return_, 1)]
def M_113 : mI := (⟨"EdgeHouse$Message", "copyFetch", "(LEdgeHouse$Fetch;)V"⟩, prog_5_method_2_code, 2, 1, none, [(24, 10, 0, 0), (29, 9, 4, 1), (30, 10, 1, 0), (33, 9, 5, 1), (34, 10, 2, 0), (37, 9, 6, 1), (38, 10, 3, 0), (41, 9, 7, 1), (42, 10, 5, 1), (45, 9, 8, 1), (46, 10, 6, 1), (49, 9, 9, 1), (50, 10, 4, 0), (54, 9, 10, 1), (55, 10, 9, 1), (58, 9, 13, 1)], [], [], Kk_113)
def Kk_114 : List (Nat × Instr × Nat) := [(0, .iconst 0, 1), (1, .istore_n 2, 1), (2, .iload_n 2, 1), (3, .aload_n 0, 1), (4, .invokevirtual 29, 3), (7, .if_icmp .ge 35, 3), (10, .aload_n 0, 1), (11, .iload_n 2, 1), (12, .invokevirtual 41, 3), (15, .astore_n 3, 1), (16, .aload_n 3, 1), (17, .ifnull 19, 3), (20, .aload_n 1, 1), (21, .aload_n 3, 1), (22, .invokevirtual 56, 3), (25, .ifCond .eq 11, 3), (28, .aload_n 3, 1), (29, .getfield 62, 3), (32, .getfield 66, 3), (35, .ireturn, 1), (36, .iinc 2 1, 3), (39, .goto (-37), 3), (42, .iconst 0, 1), (43, .ireturn, 1)]
def M_114 : mI := (⟨"EdgeHouse$Store", "versionHad", "(LEdgeHouse$Fetch;)I"⟩, prog_10_method_7_code, 4, 1, (some FieldType.int), [(62, 11, 2, 0), (66, 13, 1, 1)], [(29, 1, 75, 5), (41, 1, 76, 5), (56, 1, 115, 10)], [], Kk_114)
def Kk_115 : List (Nat × Instr × Nat) := [(0, .aload_n 1, 1), (1, .aload_n 0, 1), (2, .getfield 13, 3), (5, .aload_n 0, 1), (6, .getfield 19, 3), (9, .invokevirtual 54, 3), (12, .ifCond .eq 25, 3), (15, .aload_n 1, 1), (16, .getfield 60, 3), (19, .aload_n 1, 1), (20, .getfield 63, 3), (23, .aload_n 0, 1), (24, .getfield 23, 3), (27, .aload_n 0, 1), (28, .getfield 27, 3), (31, .invokevirtual 67, 3), (34, .if_icmp .eq 5, 3), (37, .iconst 0, 1), (38, .ireturn, 1), (39, .aload_n 1, 1), (40, .getfield 73, 3), (43, .aload_n 0, 1), (44, .getfield 76, 3), (47, .if_icmp .lt 32, 3), (50, .aload_n 1, 1), (51, .getfield 63, 3), (54, .aload_n 0, 1), (55, .getfield 36, 3), (58, .aload_n 0, 1), (59, .getfield 40, 3), (62, .invokevirtual 79, 3), (65, .aload_n 1, 1), (66, .getfield 82, 3), (69, .iconst (-1), 1), (70, .ixor, 1), (71, .iand, 1), (72, .ifCond .ne 7, 3), (75, .iconst 1, 1), (76, .goto 4, 3), (79, .iconst 0, 1), (80, .ireturn, 1)]
def M_115 : mI := (⟨"EdgeHouse$Fetch", "isHadWith", "(LEdgeHouse$Entry;)Z"⟩, prog_4_method_3_code, 2, 1, (some FieldType.boolean), [(13, 10, 0, 0), (19, 10, 1, 0), (23, 10, 2, 0), (27, 10, 3, 0), (36, 10, 5, 1), (40, 10, 6, 1), (60, 11, 3, 0), (63, 11, 2, 0), (73, 11, 4, 1), (76, 10, 9, 1), (82, 11, 7, 1)], [(54, 1, 81, 11), (67, 1, 82, 13), (79, 1, 85, 13)], [], Kk_115)
def Kk_116 : List (Nat × Instr × Nat) := [(0, .aload_n 2, 1), (1, .astore 4, 2), (3, .aload 4, 2), (5, .ifnull 45, 3), (8, .aload 4, 2), (10, .getfield 113, 3), (13, .ifnull 16, 3), (16, .aload_n 0, 1), (17, .aload 4, 2), (19, .getfield 113, 3), (22, .iload_n 3, 1), (23, .invokevirtual 109, 3), (26, .goto 14, 3), (29, .aload_n 0, 1), (30, .aload_n 1, 1), (31, .getfield 339, 3), (34, .aload 4, 2), (36, .iload_n 3, 1), (37, .invokevirtual 301, 3), (40, .aload 4, 2), (42, .getfield 196, 3), (45, .astore 4, 2), (47, .goto (-44), 3), (50, .return_, 1)]
def M_116 : mI := (⟨"EdgeHouse", "endAll", "(LEdgeHouse$Node;LEdgeHouse$Request;I)V"⟩, prog_1_method_39_code, 5, 3, none, [(113, 6, 14, 1), (196, 6, 18, 1), (339, 4, 0, 0)], [(109, 1, 70, 0), (301, 1, 117, 0)], [], Kk_116)
def Kk_117 : List (Nat × Instr × Nat) := [(0, .new 141, 3), (3, .dup, 1), (4, .iconst 1, 1), (5, .iload_n 1, 1), (6, .aload_n 2, 1), (7, .getfield 536, 3), (10, .aload_n 2, 1), (11, .getfield 537, 3), (14, .invokespecial 164, 3), (17, .astore 4, 2), (19, .aload 4, 2), (21, .aload_n 2, 1), (22, .getfield 119, 3), (25, .putfield 167, 3), (28, .aload 4, 2), (30, .aload_n 2, 1), (31, .getfield 120, 3), (34, .putfield 168, 3), (37, .aload 4, 2), (39, .iload_n 3, 1), (40, .putfield 346, 3), (43, .aload_n 0, 1), (44, .aload 4, 2), (46, .invokevirtual 169, 3), (49, .return_, 1)]
def M_117 : mI := (⟨"EdgeHouse", "sendStatus", "(ILEdgeHouse$Request;I)V"⟩, prog_1_method_43_code, 5, 3, none, [(119, 6, 0, 1), (120, 6, 1, 1), (167, 9, 4, 1), (168, 9, 5, 1), (346, 9, 12, 1), (536, 6, 15, 1), (537, 6, 16, 1)], [(164, 0, 104, 0), (169, 1, 105, 0)], [(141, 0, 9, .null)], Kk_117)
def Kk_118 : List (Nat × Instr × Nat) := [(0, .aload_n 1, 1), (1, .aload_n 2, 1), (2, .getfield 119, 3), (5, .aload_n 2, 1), (6, .getfield 120, 3), (9, .invokevirtual 457, 3), (12, .astore 4, 2), (14, .aload 4, 2), (16, .ifnull 11, 3), (19, .aload 4, 2), (21, .aload_n 2, 1), (22, .invokevirtual 471, 3), (25, .aconst_null, 1), (26, .areturn, 1), (27, .aload_n 1, 1), (28, .dup, 1), (29, .getfield 474, 3), (32, .iconst 1, 1), (33, .iadd, 1), (34, .putfield 474, 3), (37, .new 190, 3), (40, .dup, 1), (41, .aload_n 2, 1), (42, .invokespecial 461, 3), (45, .astore 5, 2), (47, .iload_n 3, 1), (48, .ifCond .eq 24, 3), (51, .aload 5, 2), (53, .iload_n 3, 1), (54, .invokestatic 477, 3), (57, .putfield 482, 3), (60, .aload 5, 2), (62, .bipush 31, 2), (64, .iload_n 3, 1), (65, .invokestatic 485, 3), (68, .isub, 1), (69, .putfield 488, 3), (72, .aload 5, 2), (74, .aload_n 2, 1), (75, .invokevirtual 471, 3), (78, .aload 5, 2), (80, .areturn, 1)]
def M_118 : mI := (⟨"EdgeHouse", "letWait", "(LEdgeHouse$Node;LEdgeHouse$Request;I)LEdgeHouse$Fetch;"⟩, prog_1_method_35_code, 6, 3, (some (FieldType.object "EdgeHouse$Fetch")), [(119, 6, 0, 1), (120, 6, 1, 1), (474, 4, 9, 1), (482, 10, 5, 1), (488, 10, 6, 1)], [(457, 1, 109, 4), (461, 0, 110, 0), (471, 1, 119, 10), (477, 2, 120, 0), (485, 2, 121, 0)], [(190, 0, 10, .null)], Kk_118)
def Kk_119 : List (Nat × Instr × Nat) := [(0, .aload_n 1, 1), (1, .aconst_null, 1), (2, .putfield 41, 3), (5, .aload_n 0, 1), (6, .getfield 45, 3), (9, .ifnonnull 11, 3), (12, .aload_n 0, 1), (13, .aload_n 1, 1), (14, .putfield 48, 3), (17, .goto 11, 3), (20, .aload_n 0, 1), (21, .getfield 45, 3), (24, .aload_n 1, 1), (25, .putfield 41, 3), (28, .aload_n 0, 1), (29, .aload_n 1, 1), (30, .putfield 45, 3), (33, .aload_n 0, 1), (34, .dup, 1), (35, .getfield 51, 3), (38, .iconst 1, 1), (39, .iadd, 1), (40, .putfield 51, 3), (43, .return_, 1)]
def M_119 : mI := (⟨"EdgeHouse$Fetch", "join", "(LEdgeHouse$Request;)V"⟩, prog_4_method_2_code, 2, 1, none, [(41, 6, 18, 1), (45, 10, 13, 1), (48, 10, 12, 1), (51, 10, 11, 1)], [], [], Kk_119)
def Kk_120 : List (Nat × Instr × Nat) := [(0, .iload_n 0, 1), (1, .iconst (-1), 1), (2, .ixor, 1), (3, .iload_n 0, 1), (4, .iconst 1, 1), (5, .isub, 1), (6, .iand, 1), (7, .istore_n 0, 1), (8, .iload_n 0, 1), (9, .ifCond .gt 8, 3), (12, .iload_n 0, 1), (13, .bipush 32, 2), (15, .iand, 1), (16, .ireturn, 1), (17, .iconst 1, 1), (18, .istore_n 1, 1), (19, .iload_n 0, 1), (20, .ldc_w 264, 3), (23, .if_icmp .le 11, 3), (26, .iinc 1 16, 3), (29, .iload_n 0, 1), (30, .bipush 16, 2), (32, .iushr, 1), (33, .istore_n 0, 1), (34, .iload_n 0, 1), (35, .sipush 256, 3), (38, .if_icmp .le 11, 3), (41, .iinc 1 8, 3), (44, .iload_n 0, 1), (45, .bipush 8, 2), (47, .iushr, 1), (48, .istore_n 0, 1), (49, .iload_n 0, 1), (50, .bipush 16, 2), (52, .if_icmp .le 10, 3), (55, .iinc 1 4, 3), (58, .iload_n 0, 1), (59, .iconst 4, 1), (60, .iushr, 1), (61, .istore_n 0, 1), (62, .iload_n 0, 1), (63, .iconst 4, 1), (64, .if_icmp .le 10, 3), (67, .iinc 1 2, 3), (70, .iload_n 0, 1), (71, .iconst 2, 1), (72, .iushr, 1), (73, .istore_n 0, 1), (74, .iload_n 1, 1), (75, .iload_n 0, 1), (76, .iconst 1, 1), (77, .iushr, 1), (78, .iadd, 1), (79, .ireturn, 1)]
def M_120 : mI := (⟨"java/lang/Integer", "numberOfTrailingZeros", "(I)I"⟩, prog_21_method_48_code, 2, 1, (some FieldType.int), [], [], [(264, 2, 0, .int (65536))], Kk_120)
def Kk_121 : List (Nat × Instr × Nat) := [(0, .iload_n 0, 1), (1, .ifCond .gt 14, 3), (4, .iload_n 0, 1), (5, .ifCond .ne 8, 3), (8, .bipush 32, 2), (10, .goto 4, 3), (13, .iconst 0, 1), (14, .ireturn, 1), (15, .bipush 31, 2), (17, .istore_n 1, 1), (18, .iload_n 0, 1), (19, .ldc_w 264, 3), (22, .if_icmp .lt 11, 3), (25, .iinc 1 (-16), 3), (28, .iload_n 0, 1), (29, .bipush 16, 2), (31, .iushr, 1), (32, .istore_n 0, 1), (33, .iload_n 0, 1), (34, .sipush 256, 3), (37, .if_icmp .lt 11, 3), (40, .iinc 1 (-8), 3), (43, .iload_n 0, 1), (44, .bipush 8, 2), (46, .iushr, 1), (47, .istore_n 0, 1), (48, .iload_n 0, 1), (49, .bipush 16, 2), (51, .if_icmp .lt 10, 3), (54, .iinc 1 (-4), 3), (57, .iload_n 0, 1), (58, .iconst 4, 1), (59, .iushr, 1), (60, .istore_n 0, 1), (61, .iload_n 0, 1), (62, .iconst 4, 1), (63, .if_icmp .lt 10, 3), (66, .iinc 1 (-2), 3), (69, .iload_n 0, 1), (70, .iconst 2, 1), (71, .iushr, 1), (72, .istore_n 0, 1), (73, .iload_n 1, 1), (74, .iload_n 0, 1), (75, .iconst 1, 1), (76, .iushr, 1), (77, .isub, 1), (78, .ireturn, 1)]
def M_121 : mI := (⟨"java/lang/Integer", "numberOfLeadingZeros", "(I)I"⟩, prog_21_method_47_code, 2, 1, (some FieldType.int), [], [], [(264, 2, 0, .int (65536))], Kk_121)
def Kk_122 : List (Nat × Instr × Nat) := [(0, .aload_n 2, 1), (1, .astore_n 3, 1), (2, .aload_n 3, 1), (3, .ifnull 100, 3), (6, .aload_n 1, 1), (7, .getfield 208, 3), (10, .aload_n 3, 1), (11, .invokevirtual 430, 3), (14, .astore 4, 2), (16, .aload 4, 2), (18, .ifnull 44, 3), (21, .aload 4, 2), (23, .aload_n 3, 1), (24, .invokevirtual 387, 3), (27, .ifCond .eq 35, 3), (30, .aload 4, 2), (32, .getfield 408, 3), (35, .aload 4, 2), (37, .aload_n 0, 1), (38, .getfield 174, 3), (41, .invokevirtual 434, 3), (44, .invokevirtual 516, 3), (47, .ifCond .eq 15, 3), (50, .aload_n 0, 1), (51, .aload_n 1, 1), (52, .aload_n 3, 1), (53, .aload 4, 2), (55, .iconst 2, 1), (56, .invokevirtual 391, 3), (59, .goto 36, 3), (62, .aload_n 3, 1), (63, .getfield 113, 3), (66, .ifnull 17, 3), (69, .aload_n 0, 1), (70, .aload_n 3, 1), (71, .getfield 113, 3), (74, .sipush 504, 3), (77, .invokevirtual 109, 3), (80, .goto 15, 3), (83, .aload_n 0, 1), (84, .aload_n 1, 1), (85, .getfield 339, 3), (88, .aload_n 3, 1), (89, .sipush 504, 3), (92, .invokevirtual 301, 3), (95, .aload_n 3, 1), (96, .getfield 196, 3), (99, .astore_n 3, 1), (100, .goto (-98), 3), (103, .return_, 1)]
def M_122 : mI := (⟨"EdgeHouse", "failAll", "(LEdgeHouse$Node;LEdgeHouse$Request;)V"⟩, prog_1_method_38_code, 5, 2, none, [(113, 6, 14, 1), (174, 0, 14, 1), (196, 6, 18, 1), (208, 4, 1, 0), (339, 4, 0, 0), (408, 11, 2, 0)], [(109, 1, 70, 0), (301, 1, 117, 0), (387, 1, 123, 11), (391, 1, 102, 0), (430, 1, 74, 5), (434, 1, 83, 11), (516, 1, 124, 13)], [], Kk_122)
def Kk_123 : List (Nat × Instr × Nat) := [(0, .aload_n 0, 1), (1, .aload_n 1, 1), (2, .invokevirtual 45, 3), (5, .ifCond .eq 26, 3), (8, .aload_n 0, 1), (9, .getfield 49, 3), (12, .aload_n 1, 1), (13, .getfield 52, 3), (16, .if_icmp .lt 15, 3), (19, .aload_n 1, 1), (20, .aload_n 0, 1), (21, .invokevirtual 55, 3), (24, .ifCond .ne 7, 3), (27, .iconst 1, 1), (28, .goto 4, 3), (31, .iconst 0, 1), (32, .ireturn, 1)]
def M_123 : mI := (⟨"EdgeHouse$Entry", "isEnoughFor", "(LEdgeHouse$Request;)Z"⟩, prog_3_method_4_code, 2, 1, (some FieldType.boolean), [(49, 11, 4, 1), (52, 6, 11, 1)], [(45, 1, 80, 11), (55, 1, 84, 6)], [], Kk_123)
def Kk_124 : List (Nat × Instr × Nat) := [(0, .iload_n 1, 1), (1, .aload_n 0, 1), (2, .invokevirtual 17, 3), (5, .aload_n 0, 1), (6, .getfield 21, 3), (9, .iadd, 1), (10, .if_icmp .ge 7, 3), (13, .iconst 1, 1), (14, .goto 4, 3), (17, .iconst 0, 1), (18, .ireturn, 1)]
def M_124 : mI := (⟨"EdgeHouse$Told", "helpsOnError", "(I)Z"⟩, prog_11_method_3_code, 2, 1, (some FieldType.boolean), [(21, 13, 4, 1)], [(17, 1, 91, 13)], [], Kk_124)
def Kk_125 : List (Nat × Instr × Nat) := [(0, .aload_n 0, 1), (1, .getfield 10, 3), (4, .getfield 134, 3), (7, .ireturn, 1)]
def M_125 : mI := (⟨"EdgeHouse", "fault", "()I"⟩, prog_1_method_6_code, 1, 0, (some FieldType.int), [(10, 0, 0, 0), (134, 1, 3, 1)], [], [], Kk_125)
def Kk_126 : List (Nat × Instr × Nat) := [(0, .iload_n 1, 1), (1, .ifCond .lt 14, 3), (4, .iload_n 1, 1), (5, .aload_n 0, 1), (6, .getfield 44, 3), (9, .invokevirtual 94, 3), (12, .if_icmp .lt 5, 3), (15, .iconst 0, 1), (16, .ireturn, 1), (17, .aload_n 0, 1), (18, .aload_n 0, 1), (19, .getfield 44, 3), (22, .iload_n 1, 1), (23, .invokevirtual 137, 3), (26, .checkcast 141, 3), (29, .invokevirtual 143, 3), (32, .iconst 1, 1), (33, .ireturn, 1)]
def M_126 : mI := (⟨"EdgeHouse", "deliver", "(I)Z"⟩, prog_1_method_7_code, 2, 1, (some FieldType.boolean), [(44, 0, 7, 0)], [(94, 1, 17, 2), (137, 1, 95, 2), (143, 1, 127, 0)], [(141, 6, 9, .null)], Kk_126)
def Kk_127 : List (Nat × Instr × Nat) := [(0, .aload_n 1, 1), (1, .getfield 276, 3), (4, .ifCond .ne 9, 3), (7, .aload_n 0, 1), (8, .aload_n 1, 1), (9, .invokevirtual 279, 3), (12, .return_, 1), (13, .aload_n 1, 1), (14, .getfield 276, 3), (17, .invokestatic 181, 3), (20, .ifCond .eq 18, 3), (23, .aload_n 0, 1), (24, .getfield 28, 3), (27, .aload_n 1, 1), (28, .getfield 276, 3), (31, .aaload, 1), (32, .getfield 160, 3), (35, .ifCond .ne 4, 3), (38, .return_, 1), (39, .aload_n 0, 1), (40, .getfield 28, 3), (43, .aload_n 1, 1), (44, .getfield 276, 3), (47, .aaload, 1), (48, .astore_n 2, 1), (49, .aload_n 1, 1), (50, .getfield 282, 3), (53, .iconst 2, 1), (54, .if_icmp .ne 10, 3), (57, .aload_n 0, 1), (58, .aload_n 2, 1), (59, .aload_n 1, 1), (60, .invokevirtual 285, 3), (63, .return_, 1), (64, .aload_n 1, 1), (65, .getfield 282, 3), (68, .iconst 1, 1), (69, .if_icmp .ne 7, 3), (72, .iconst 1, 1), (73, .goto 4, 3), (76, .iconst 0, 1), (77, .istore_n 3, 1), (78, .iload_n 3, 1), (79, .ifCond .eq 12, 3), (82, .aload_n 0, 1), (83, .aload_n 2, 1), (84, .aload_n 1, 1), (85, .invokevirtual 289, 3), (88, .goto 11, 3), (91, .new 114, 3), (94, .dup, 1), (95, .aload_n 1, 1), (96, .invokespecial 293, 3), (99, .astore 4, 2), (101, .aload 4, 2), (103, .ifnull 36, 3), (106, .aload 4, 2), (108, .astore 5, 2), (110, .aload 5, 2), (112, .getfield 196, 3), (115, .astore 4, 2), (117, .aload 5, 2), (119, .aconst_null, 1), (120, .putfield 196, 3), (123, .aload 5, 2), (125, .iload_n 3, 1), (126, .putfield 295, 3), (129, .aload_n 0, 1), (130, .aload_n 2, 1), (131, .aload 5, 2), (133, .invokevirtual 130, 3), (136, .goto (-35), 3), (139, .return_, 1)]
def M_127 : mI := (⟨"EdgeHouse", "carry", "(LEdgeHouse$Message;)V"⟩, prog_1_method_27_code, 6, 1, none, [(28, 0, 3, 0), (160, 4, 6, 1), (196, 6, 18, 1), (276, 9, 2, 0), (282, 9, 0, 0), (295, 6, 12, 1)], [(130, 1, 73, 0), (181, 2, 131, 0), (279, 1, 128, 0), (285, 1, 132, 0), (289, 1, 137, 0), (293, 0, 129, 0)], [(114, 0, 6, .null)], Kk_127)
def Kk_128 : List (Nat × Instr × Nat) := [(0, .aload_n 1, 1), (1, .getfield 282, 3), (4, .iconst 3, 1), (5, .if_icmp .ne 25, 3), (8, .aload_n 1, 1), (9, .getfield 298, 3), (12, .aload_n 0, 1), (13, .getfield 154, 3), (16, .if_icmp .ne 13, 3), (19, .aload_n 0, 1), (20, .dup, 1), (21, .getfield 157, 3), (24, .iconst 1, 1), (25, .iadd, 1), (26, .putfield 157, 3), (29, .return_, 1), (30, .new 114, 3), (33, .dup, 1), (34, .aload_n 1, 1), (35, .invokespecial 293, 3), (38, .astore_n 2, 1), (39, .aload_n 1, 1), (40, .getfield 167, 3), (43, .invokestatic 80, 3), (46, .ifCond .eq 15, 3), (49, .aload_n 0, 1), (50, .getfield 18, 3), (53, .aload_n 1, 1), (54, .getfield 167, 3), (57, .aaload, 1), (58, .goto 4, 3), (61, .aconst_null, 1), (62, .astore_n 3, 1), (63, .aload_n 3, 1), (64, .ifnonnull 13, 3), (67, .aload_n 0, 1), (68, .iconst 0, 1), (69, .aload_n 2, 1), (70, .sipush 404, 3), (73, .invokevirtual 301, 3), (76, .return_, 1), (77, .new 258, 3), (80, .dup, 1), (81, .aload_n 2, 1), (82, .getfield 119, 3), (85, .aload_n 2, 1), (86, .getfield 120, 3), (89, .aload_n 3, 1), (90, .aload_n 3, 1), (91, .aload_n 2, 1), (92, .getfield 305, 3), (95, .aload_n 2, 1), (96, .getfield 308, 3), (99, .invokevirtual 311, 3), (102, .invokespecial 314, 3), (105, .astore 4, 2), (107, .aload 4, 2), (109, .aload_n 0, 1), (110, .getfield 154, 3), (113, .putfield 317, 3), (116, .aload 4, 2), (118, .aload_n 0, 1), (119, .getfield 174, 3), (122, .putfield 320, 3), (125, .aload 4, 2), (127, .aload_n 3, 1), (128, .iconst 0, 1), (129, .bipush 15, 2), (131, .invokevirtual 323, 3), (134, .putfield 326, 3), (137, .aload_n 0, 1), (138, .iconst 0, 1), (139, .aload_n 2, 1), (140, .aload 4, 2), (142, .invokevirtual 328, 3), (145, .return_, 1)]
def M_128 : mI := (⟨"EdgeHouse", "takeAtOrigin", "(LEdgeHouse$Message;)V"⟩, prog_1_method_28_code, 5, 1, none, [(18, 0, 1, 0), (119, 6, 0, 1), (120, 6, 1, 1), (154, 0, 13, 1), (157, 0, 12, 1), (167, 9, 4, 1), (174, 0, 14, 1), (282, 9, 0, 0), (298, 9, 3, 0), (305, 6, 2, 1), (308, 6, 3, 1), (317, 11, 4, 1), (320, 11, 6, 1), (326, 11, 7, 1)], [(80, 2, 15, 0), (293, 0, 129, 0), (301, 1, 117, 0), (311, 1, 82, 13), (314, 0, 130, 0), (323, 1, 85, 13), (328, 1, 103, 0)], [(114, 0, 6, .null), (258, 0, 11, .null)], Kk_128)
def Kk_129 : List (Nat × Instr × Nat) := [(0, .aload_n 0, 1), (1, .invokespecial 3, 3), (4, .aload_n 0, 1), (5, .bipush 15, 2), (7, .putfield 9, 3), (10, .aload_n 0, 1), (11, .iconst (-1), 1), (12, .putfield 15, 3), (15, .aload_n 0, 1), (16, .iconst (-1), 1), (17, .putfield 18, 3), (20, .aload_n 0, 1), (21, .iconst (-1), 1), (22, .putfield 21, 3), (25, .aload_n 0, 1), (26, .aload_n 1, 1), (27, .getfield 24, 3), (30, .putfield 29, 3), (33, .aload_n 0, 1), (34, .aload_n 1, 1), (35, .getfield 30, 3), (38, .putfield 33, 3), (41, .aload_n 0, 1), (42, .aload_n 1, 1), (43, .getfield 34, 3), (46, .putfield 37, 3), (49, .aload_n 0, 1), (50, .aload_n 1, 1), (51, .getfield 38, 3), (54, .putfield 41, 3), (57, .aload_n 0, 1), (58, .aload_n 1, 1), (59, .getfield 42, 3), (62, .putfield 45, 3), (65, .aload_n 0, 1), (66, .aload_n 1, 1), (67, .getfield 46, 3), (70, .putfield 9, 3), (73, .aload_n 0, 1), (74, .aload_n 1, 1), (75, .getfield 47, 3), (78, .putfield 51, 3), (81, .aload_n 0, 1), (82, .aload_n 1, 1), (83, .getfield 52, 3), (86, .putfield 55, 3), (89, .aload_n 0, 1), (90, .aload_n 1, 1), (91, .getfield 58, 3), (94, .putfield 61, 3), (97, .aload_n 0, 1), (98, .aload_n 1, 1), (99, .getfield 64, 3), (102, .putfield 67, 3), (105, .aload_n 0, 1), (106, .aload_n 1, 1), (107, .getfield 68, 3), (110, .putfield 71, 3), (113, .return_, 1)]
def M_129 : mI := (⟨"EdgeHouse$Request", "<init>", "(LEdgeHouse$Message;)V"⟩, prog_9_method_2_code, 2, 1, none, [(9, 6, 5, 1), (15, 6, 8, 1), (18, 6, 9, 1), (21, 6, 10, 1), (24, 9, 4, 1), (29, 6, 0, 1), (30, 9, 5, 1), (33, 6, 1, 1), (34, 9, 6, 1), (37, 6, 2, 1), (38, 9, 7, 1), (41, 6, 3, 1), (42, 9, 8, 1), (45, 6, 4, 1), (46, 9, 9, 1), (47, 9, 10, 1), (51, 6, 6, 1), (52, 9, 13, 1), (55, 6, 11, 1), (58, 9, 1, 0), (61, 6, 15, 1), (64, 9, 3, 0), (67, 6, 16, 1), (68, 9, 11, 1), (71, 6, 17, 1)], [(3, 4, 0, 0)], [], Kk_129)
def Kk_130 : List (Nat × Instr × Nat) := [(0, .aload_n 0, 1), (1, .invokespecial 3, 3), (4, .aload_n 0, 1), (5, .iload_n 1, 1), (6, .putfield 9, 3), (9, .aload_n 0, 1), (10, .iload_n 2, 1), (11, .putfield 15, 3), (14, .aload_n 0, 1), (15, .aload_n 3, 1), (16, .putfield 18, 3), (19, .aload_n 0, 1), (20, .iload 4, 2), (22, .putfield 22, 3), (25, .return_, 1)]
def M_130 : mI := (⟨"EdgeHouse$Entry", "<init>", "(IILEdgeHouse$Told;I)V"⟩, prog_3_method_1_code, 5, 4, none, [(9, 11, 0, 2), (15, 11, 1, 2), (18, 11, 2, 2), (22, 11, 3, 2)], [(3, 4, 0, 0)], [], Kk_130)
def Kk_131 : List (Nat × Instr × Nat) := [(0, .iload_n 0, 1), (1, .iconst 1, 1), (2, .if_icmp .lt 13, 3), (5, .iload_n 0, 1), (6, .bipush 6, 2), (8, .if_icmp .gt 7, 3), (11, .iconst 1, 1), (12, .goto 4, 3), (15, .iconst 0, 1), (16, .ireturn, 1)]
def M_131 : mI := (⟨"EdgeHouse", "isNode", "(I)Z"⟩, prog_1_method_22_code, 1, 1, (some FieldType.boolean), [], [], [], Kk_131)
def Kk_132 : List (Nat × Instr × Nat) := [(0, .aload_n 1, 1), (1, .aload_n 2, 1), (2, .getfield 298, 3), (5, .invokevirtual 332, 3), (8, .aload_n 1, 1), (9, .getfield 208, 3), (12, .aload_n 2, 1), (13, .getfield 168, 3), (16, .aload_n 2, 1), (17, .getfield 167, 3), (20, .invokevirtual 335, 3), (23, .aload_n 0, 1), (24, .new 141, 3), (27, .dup, 1), (28, .iconst 3, 1), (29, .aload_n 1, 1), (30, .getfield 339, 3), (33, .iconst 0, 1), (34, .aload_n 2, 1), (35, .getfield 298, 3), (38, .invokespecial 164, 3), (41, .invokevirtual 169, 3), (44, .return_, 1)]
def M_132 : mI := (⟨"EdgeHouse", "takePurge", "(LEdgeHouse$Node;LEdgeHouse$Message;)V"⟩, prog_1_method_29_code, 3, 2, none, [(167, 9, 4, 1), (168, 9, 5, 1), (208, 4, 1, 0), (298, 9, 3, 0), (339, 4, 0, 0)], [(164, 0, 104, 0), (169, 1, 105, 0), (332, 1, 133, 4), (335, 1, 134, 5)], [(141, 0, 9, .null)], Kk_132)
def Kk_133 : List (Nat × Instr × Nat) := [(0, .iload_n 1, 1), (1, .iconst 1, 1), (2, .if_icmp .lt 19, 3), (5, .iload_n 1, 1), (6, .aload_n 0, 1), (7, .getfield 25, 3), (10, .arraylength, 1), (11, .if_icmp .ge 10, 3), (14, .aload_n 0, 1), (15, .getfield 25, 3), (18, .iload_n 1, 1), (19, .iconst 1, 1), (20, .bastore, 1), (21, .aload_n 0, 1), (22, .aload_n 0, 1), (23, .getfield 66, 3), (26, .iload_n 1, 1), (27, .invokestatic 69, 3), (30, .putfield 66, 3), (33, .return_, 1)]
def M_133 : mI := (⟨"EdgeHouse$Node", "learn", "(I)V"⟩, prog_6_method_4_code, 2, 1, none, [(25, 4, 3, 0), (66, 4, 7, 1)], [(69, 5, 0, 0)], [], Kk_133)
def Kk_134 : List (Nat × Instr × Nat) := [(0, .aload_n 0, 1), (1, .invokevirtual 29, 3), (4, .iconst 1, 1), (5, .isub, 1), (6, .istore_n 3, 1), (7, .iload_n 3, 1), (8, .ifCond .lt 39, 3), (11, .aload_n 0, 1), (12, .iload_n 3, 1), (13, .invokevirtual 41, 3), (16, .astore 4, 2), (18, .aload 4, 2), (20, .ifnull 21, 3), (23, .aload 4, 2), (25, .getfield 62, 3), (28, .iload_n 1, 1), (29, .iload_n 2, 1), (30, .invokevirtual 92, 3), (33, .ifCond .eq 8, 3), (36, .aload_n 0, 1), (37, .iload_n 3, 1), (38, .invokevirtual 79, 3), (41, .iinc 3 (-1), 3), (44, .goto (-37), 3), (47, .return_, 1)]
def M_134 : mI := (⟨"EdgeHouse$Store", "removePurged", "(II)V"⟩, prog_10_method_12_code, 5, 2, none, [(62, 11, 2, 0)], [(29, 1, 75, 5), (41, 1, 76, 5), (79, 1, 136, 5), (92, 1, 135, 13)], [], Kk_134)
def Kk_135 : List (Nat × Instr × Nat) := [(0, .iload_n 1, 1), (1, .ifCond .ne 19, 3), (4, .aload_n 0, 1), (5, .getfield 36, 3), (8, .iload_n 2, 1), (9, .if_icmp .ne 7, 3), (12, .iconst 1, 1), (13, .goto 23, 3), (16, .iconst 0, 1), (17, .goto 19, 3), (20, .aload_n 0, 1), (21, .getfield 39, 3), (24, .iconst 1, 1), (25, .iload_n 2, 1), (26, .ishl, 1), (27, .iand, 1), (28, .ifCond .eq 7, 3), (31, .iconst 1, 1), (32, .goto 4, 3), (35, .iconst 0, 1), (36, .ireturn, 1)]
def M_135 : mI := (⟨"EdgeHouse$Told", "isPurgedBy", "(II)Z"⟩, prog_11_method_6_code, 3, 2, (some FieldType.boolean), [(36, 13, 0, 1), (39, 13, 8, 1)], [], [], Kk_135)
def Kk_136 : List (Nat × Instr × Nat) := [(0, .iload_n 1, 1), (1, .ifCond .lt 26, 3), (4, .iload_n 1, 1), (5, .aload_n 0, 1), (6, .getfield 12, 3), (9, .invokevirtual 25, 3), (12, .if_icmp .ge 15, 3), (15, .aload_n 0, 1), (16, .getfield 12, 3), (19, .iload_n 1, 1), (20, .invokevirtual 38, 3), (23, .pop, 1), (24, .goto 39, 3), (27, .iload_n 1, 1), (28, .aload_n 0, 1), (29, .getfield 12, 3), (32, .invokevirtual 25, 3), (35, .if_icmp .lt 28, 3), (38, .iload_n 1, 1), (39, .aload_n 0, 1), (40, .invokevirtual 29, 3), (43, .if_icmp .ge 20, 3), (46, .aload_n 0, 1), (47, .getfield 18, 3), (50, .iload_n 1, 1), (51, .aload_n 0, 1), (52, .getfield 12, 3), (55, .invokevirtual 25, 3), (58, .isub, 1), (59, .invokevirtual 38, 3), (62, .pop, 1), (63, .return_, 1)]
def M_136 : mI := (⟨"EdgeHouse$Store", "removeAt", "(I)V"⟩, prog_10_method_4_code, 2, 1, none, [(12, 5, 0, 0), (18, 5, 1, 0)], [(25, 1, 17, 2), (29, 1, 75, 5), (38, 1, 95, 2)], [], Kk_136)
def Kk_137 : List (Nat × Instr × Nat) := [(0, .aload_n 1, 1), (1, .aload_n 2, 1), (2, .getfield 298, 3), (5, .invokevirtual 342, 3), (8, .astore_n 3, 1), (9, .aload_n 3, 1), (10, .ifnonnull 5, 3), (13, .aconst_null, 1), (14, .areturn, 1), (15, .aload_n 2, 1), (16, .getfield 346, 3), (19, .sipush 504, 3), (22, .if_icmp .ne 14, 3), (25, .aload_n 0, 1), (26, .aload_n 1, 1), (27, .aload_n 3, 1), (28, .getfield 192, 3), (31, .invokevirtual 349, 3), (34, .aconst_null, 1), (35, .areturn, 1), (36, .aload_n 1, 1), (37, .aload_n 2, 1), (38, .getfield 352, 3), (41, .invokevirtual 205, 3), (44, .aload_n 2, 1), (45, .getfield 346, 3), (48, .sipush 404, 3), (51, .if_icmp .eq 10, 3), (54, .aload_n 2, 1), (55, .getfield 355, 3), (58, .ifnonnull 32, 3), (61, .aload_n 1, 1), (62, .getfield 208, 3), (65, .aload_n 3, 1), (66, .getfield 359, 3), (69, .aload_n 3, 1), (70, .getfield 360, 3), (73, .invokevirtual 361, 3), (76, .aload_n 0, 1), (77, .aload_n 1, 1), (78, .aload_n 3, 1), (79, .getfield 192, 3), (82, .sipush 404, 3), (85, .invokevirtual 364, 3), (88, .aconst_null, 1), (89, .areturn, 1), (90, .aload_n 0, 1), (91, .aload_n 1, 1), (92, .aload_n 3, 1), (93, .aload_n 2, 1), (94, .invokevirtual 368, 3), (97, .ifCond .eq 23, 3), (100, .aload_n 0, 1), (101, .aload_n 1, 1), (102, .aload_n 3, 1), (103, .invokevirtual 372, 3), (106, .ifCond .ne 12, 3), (109, .aload_n 0, 1), (110, .aload_n 1, 1), (111, .aload_n 3, 1), (112, .getfield 192, 3), (115, .invokevirtual 349, 3), (118, .aconst_null, 1), (119, .areturn, 1), (120, .aload_n 0, 1), (121, .aload_n 1, 1), (122, .aload_n 3, 1), (123, .aload_n 2, 1), (124, .invokevirtual 376, 3), (127, .astore 4, 2), (129, .aload_n 2, 1), (130, .getfield 355, 3), (133, .getfield 380, 3), (136, .ifCond .ne 12, 3), (139, .aload_n 1, 1), (140, .getfield 208, 3), (143, .aload 4, 2), (145, .invokevirtual 383, 3), (148, .aload_n 3, 1), (149, .getfield 192, 3), (152, .astore 5, 2), (154, .aload 5, 2), (156, .ifnull 13, 3), (159, .aload 4, 2), (161, .aload 5, 2), (163, .invokevirtual 387, 3), (166, .ifCond .ne 6, 3), (169, .aload 5, 2), (171, .areturn, 1), (172, .aload_n 0, 1), (173, .aload_n 1, 1), (174, .aload 5, 2), (176, .aload 4, 2), (178, .iconst 0, 1), (179, .invokevirtual 391, 3), (182, .aload 5, 2), (184, .getfield 196, 3), (187, .areturn, 1)]
def M_137 : mI := (⟨"EdgeHouse", "takeFill", "(LEdgeHouse$Node;LEdgeHouse$Message;)LEdgeHouse$Request;"⟩, prog_1_method_30_code, 6, 2, (some (FieldType.object "EdgeHouse$Request")), [(192, 10, 12, 1), (196, 6, 18, 1), (208, 4, 1, 0), (298, 9, 3, 0), (346, 9, 12, 1), (352, 9, 1, 0), (355, 9, 15, 1), (359, 10, 0, 0), (360, 10, 1, 0), (380, 13, 6, 1)], [(205, 1, 139, 4), (342, 1, 138, 4), (349, 1, 122, 0), (361, 1, 140, 5), (364, 1, 116, 0), (368, 1, 141, 0), (372, 1, 111, 0), (376, 1, 145, 0), (383, 1, 147, 5), (387, 1, 123, 11), (391, 1, 102, 0)], [], Kk_137)
def Kk_138 : List (Nat × Instr × Nat) := [(0, .iconst 0, 1), (1, .istore_n 2, 1), (2, .iload_n 2, 1), (3, .aload_n 0, 1), (4, .getfield 21, 3), (7, .invokevirtual 44, 3), (10, .if_icmp .ge 39, 3), (13, .aload_n 0, 1), (14, .getfield 21, 3), (17, .iload_n 2, 1), (18, .invokevirtual 48, 3), (21, .checkcast 52, 3), (24, .getfield 60, 3), (27, .iload_n 1, 1), (28, .if_icmp .ne 15, 3), (31, .aload_n 0, 1), (32, .getfield 21, 3), (35, .iload_n 2, 1), (36, .invokevirtual 63, 3), (39, .checkcast 52, 3), (42, .areturn, 1), (43, .iinc 2 1, 3), (46, .goto (-44), 3), (49, .aconst_null, 1), (50, .areturn, 1)]
def M_138 : mI := (⟨"EdgeHouse$Node", "takeFetch", "(I)LEdgeHouse$Fetch;"⟩, prog_6_method_3_code, 3, 1, (some (FieldType.object "EdgeHouse$Fetch")), [(21, 4, 2, 0), (60, 10, 7, 1)], [(44, 1, 17, 2), (48, 1, 77, 2), (63, 1, 95, 2)], [(52, 6, 10, .null)], Kk_138)
def Kk_139 : List (Nat × Instr × Nat) := [(0, .iload_n 1, 1), (1, .iconst 1, 1), (2, .if_icmp .lt 22, 3), (5, .iload_n 1, 1), (6, .iconst 2, 1), (7, .if_icmp .gt 17, 3), (10, .aload_n 0, 1), (11, .getfield 29, 3), (14, .iload_n 1, 1), (15, .iconst 0, 1), (16, .iastore, 1), (17, .aload_n 0, 1), (18, .getfield 33, 3), (21, .iload_n 1, 1), (22, .iconst 0, 1), (23, .iastore, 1), (24, .return_, 1)]
def M_139 : mI := (⟨"EdgeHouse$Node", "trust", "(I)V"⟩, prog_6_method_7_code, 2, 1, none, [(29, 4, 4, 0), (33, 4, 5, 0)], [], [], Kk_139)
def Kk_140 : List (Nat × Instr × Nat) := [(0, .aload_n 0, 1), (1, .invokevirtual 29, 3), (4, .iconst 1, 1), (5, .isub, 1), (6, .istore_n 3, 1), (7, .iload_n 3, 1), (8, .ifCond .lt 36, 3), (11, .aload_n 0, 1), (12, .iload_n 3, 1), (13, .invokevirtual 41, 3), (16, .astore 4, 2), (18, .aload 4, 2), (20, .ifnull 18, 3), (23, .aload 4, 2), (25, .iload_n 1, 1), (26, .iload_n 2, 1), (27, .invokevirtual 45, 3), (30, .ifCond .eq 8, 3), (33, .aload_n 0, 1), (34, .iload_n 3, 1), (35, .invokevirtual 79, 3), (38, .iinc 3 (-1), 3), (41, .goto (-34), 3), (44, .return_, 1)]
def M_140 : mI := (⟨"EdgeHouse$Store", "removeKey", "(II)V"⟩, prog_10_method_10_code, 5, 2, none, [], [(29, 1, 75, 5), (41, 1, 76, 5), (45, 1, 81, 11), (79, 1, 136, 5)], [], Kk_140)
def Kk_141 : List (Nat × Instr × Nat) := [(0, .aload_n 3, 1), (1, .getfield 395, 3), (4, .aload_n 2, 1), (5, .getfield 396, 3), (8, .if_icmp .ge 5, 3), (11, .iconst 1, 1), (12, .ireturn, 1), (13, .aload_n 3, 1), (14, .getfield 395, 3), (17, .iconst 1, 1), (18, .iadd, 1), (19, .istore 4, 2), (21, .iload 4, 2), (23, .aload_n 0, 1), (24, .getfield 154, 3), (27, .if_icmp .gt 33, 3), (30, .aload_n 1, 1), (31, .iload 4, 2), (33, .invokevirtual 399, 3), (36, .ifCond .eq 18, 3), (39, .aload_n 0, 1), (40, .iload 4, 2), (42, .aload_n 3, 1), (43, .getfield 355, 3), (46, .invokevirtual 402, 3), (49, .ifCond .eq 5, 3), (52, .iconst 1, 1), (53, .ireturn, 1), (54, .iinc 4 1, 3), (57, .goto (-36), 3), (60, .aload_n 3, 1), (61, .getfield 346, 3), (64, .sipush 304, 3), (67, .if_icmp .eq 5, 3), (70, .iconst 0, 1), (71, .ireturn, 1), (72, .aload_n 3, 1), (73, .getfield 355, 3), (76, .aload_n 2, 1), (77, .getfield 406, 3), (80, .aload_n 2, 1), (81, .getfield 407, 3), (84, .invokevirtual 311, 3), (87, .istore 4, 2), (89, .aload_n 1, 1), (90, .getfield 208, 3), (93, .aload_n 2, 1), (94, .getfield 359, 3), (97, .aload_n 2, 1), (98, .getfield 360, 3), (101, .iload 4, 2), (103, .invokevirtual 249, 3), (106, .astore 5, 2), (108, .aload 5, 2), (110, .ifnull 21, 3), (113, .aload 5, 2), (115, .getfield 408, 3), (118, .getfield 91, 3), (121, .aload_n 3, 1), (122, .getfield 355, 3), (125, .getfield 91, 3), (128, .if_icmp .eq 7, 3), (131, .iconst 1, 1), (132, .goto 4, 3), (135, .iconst 0, 1), (136, .ireturn, 1)]
def M_141 : mI := (⟨"EdgeHouse", "isRefused", "(LEdgeHouse$Node;LEdgeHouse$Fetch;LEdgeHouse$Message;)Z"⟩, prog_1_method_31_code, 6, 3, (some FieldType.boolean), [(91, 13, 1, 1), (154, 0, 13, 1), (208, 4, 1, 0), (346, 9, 12, 1), (355, 9, 15, 1), (359, 10, 0, 0), (360, 10, 1, 0), (395, 9, 13, 1), (396, 10, 9, 1), (406, 10, 2, 0), (407, 10, 3, 0), (408, 11, 2, 0)], [(249, 1, 144, 5), (311, 1, 82, 13), (399, 1, 142, 4), (402, 1, 143, 0)], [], Kk_141)
def Kk_142 : List (Nat × Instr × Nat) := [(0, .iload_n 1, 1), (1, .iconst 1, 1), (2, .if_icmp .lt 25, 3), (5, .iload_n 1, 1), (6, .aload_n 0, 1), (7, .getfield 25, 3), (10, .arraylength, 1), (11, .if_icmp .ge 16, 3), (14, .aload_n 0, 1), (15, .getfield 25, 3), (18, .iload_n 1, 1), (19, .baload, 1), (20, .ifCond .eq 7, 3), (23, .iconst 1, 1), (24, .goto 4, 3), (27, .iconst 0, 1), (28, .ireturn, 1)]
def M_142 : mI := (⟨"EdgeHouse$Node", "knows", "(I)Z"⟩, prog_6_method_5_code, 2, 1, (some FieldType.boolean), [(25, 4, 3, 0)], [], [], Kk_142)
def Kk_143 : List (Nat × Instr × Nat) := [(0, .iload_n 1, 1), (1, .iconst 1, 1), (2, .if_icmp .lt 9, 3), (5, .iload_n 1, 1), (6, .bipush 60, 2), (8, .if_icmp .le 5, 3), (11, .iconst 0, 1), (12, .ireturn, 1), (13, .aload_n 2, 1), (14, .aload_n 0, 1), (15, .getfield 35, 3), (18, .iload_n 1, 1), (19, .iaload, 1), (20, .aload_n 0, 1), (21, .getfield 38, 3), (24, .iload_n 1, 1), (25, .iaload, 1), (26, .invokevirtual 409, 3), (29, .ireturn, 1)]
def M_143 : mI := (⟨"EdgeHouse", "isOf", "(ILEdgeHouse$Told;)Z"⟩, prog_1_method_32_code, 3, 2, (some FieldType.boolean), [(35, 0, 5, 0), (38, 0, 6, 0)], [(409, 1, 135, 13)], [], Kk_143)
def Kk_144 : List (Nat × Instr × Nat) := [(0, .iconst 0, 1), (1, .istore 4, 2), (3, .iload 4, 2), (5, .aload_n 0, 1), (6, .invokevirtual 29, 3), (9, .if_icmp .ge 44, 3), (12, .aload_n 0, 1), (13, .iload 4, 2), (15, .invokevirtual 41, 3), (18, .astore 5, 2), (20, .aload 5, 2), (22, .ifnull 25, 3), (25, .aload 5, 2), (27, .iload_n 1, 1), (28, .iload_n 2, 1), (29, .invokevirtual 45, 3), (32, .ifCond .eq 15, 3), (35, .aload 5, 2), (37, .getfield 49, 3), (40, .iload_n 3, 1), (41, .if_icmp .ne 6, 3), (44, .aload 5, 2), (46, .areturn, 1), (47, .iinc 4 1, 3), (50, .goto (-47), 3), (53, .aconst_null, 1), (54, .areturn, 1)]
def M_144 : mI := (⟨"EdgeHouse$Store", "find", "(III)LEdgeHouse$Entry;"⟩, prog_10_method_5_code, 6, 3, (some (FieldType.object "EdgeHouse$Entry")), [(49, 11, 3, 0)], [(29, 1, 75, 5), (41, 1, 76, 5), (45, 1, 81, 11)], [], Kk_144)
def Kk_145 : List (Nat × Instr × Nat) := [(0, .aload_n 3, 1), (1, .getfield 355, 3), (4, .astore 4, 2), (6, .new 258, 3), (9, .dup, 1), (10, .aload_n 2, 1), (11, .getfield 359, 3), (14, .aload_n 2, 1), (15, .getfield 360, 3), (18, .aload 4, 2), (20, .aload 4, 2), (22, .aload_n 2, 1), (23, .getfield 406, 3), (26, .aload_n 2, 1), (27, .getfield 407, 3), (30, .invokevirtual 311, 3), (33, .invokespecial 314, 3), (36, .astore 5, 2), (38, .aload 5, 2), (40, .aload_n 3, 1), (41, .getfield 395, 3), (44, .putfield 317, 3), (47, .aload 5, 2), (49, .aload_n 3, 1), (50, .getfield 412, 3), (53, .aload_n 0, 1), (54, .getfield 174, 3), (57, .iadd, 1), (58, .aload_n 3, 1), (59, .getfield 273, 3), (62, .isub, 1), (63, .putfield 415, 3), (66, .aload 5, 2), (68, .aload_n 0, 1), (69, .getfield 174, 3), (72, .putfield 320, 3), (75, .aload 5, 2), (77, .aload_n 3, 1), (78, .getfield 416, 3), (81, .putfield 326, 3), (84, .aload_n 1, 1), (85, .getfield 208, 3), (88, .aload 5, 2), (90, .invokevirtual 417, 3), (93, .aload_n 1, 1), (94, .getfield 208, 3), (97, .aload 5, 2), (99, .getfield 420, 3), (102, .aload 5, 2), (104, .getfield 421, 3), (107, .aload 5, 2), (109, .getfield 422, 3), (112, .invokevirtual 249, 3), (115, .astore 6, 2), (117, .aload 6, 2), (119, .ifnull 34, 3), (122, .aload 6, 2), (124, .getfield 408, 3), (127, .getfield 91, 3), (130, .aload 4, 2), (132, .getfield 91, 3), (135, .if_icmp .ne 18, 3), (138, .aload 5, 2), (140, .dup, 1), (141, .getfield 326, 3), (144, .aload 6, 2), (146, .getfield 326, 3), (149, .ior, 1), (150, .putfield 326, 3), (153, .aload 6, 2), (155, .ifnull 12, 3), (158, .aload_n 1, 1), (159, .getfield 208, 3), (162, .aload 6, 2), (164, .invokevirtual 425, 3), (167, .aload 5, 2), (169, .aload 6, 2), (171, .ifnull 15, 3), (174, .aload 6, 2), (176, .getfield 427, 3), (179, .ifCond .eq 7, 3), (182, .iconst 1, 1), (183, .goto 4, 3), (186, .iconst 0, 1), (187, .putfield 427, 3), (190, .aload 5, 2), (192, .areturn, 1)]
def M_145 : mI := (⟨"EdgeHouse", "takeIn", "(LEdgeHouse$Node;LEdgeHouse$Fetch;LEdgeHouse$Message;)LEdgeHouse$Entry;"⟩, prog_1_method_33_code, 7, 3, (some (FieldType.object "EdgeHouse$Entry")), [(91, 13, 1, 1), (174, 0, 14, 1), (208, 4, 1, 0), (273, 9, 18, 1), (317, 11, 4, 1), (320, 11, 6, 1), (326, 11, 7, 1), (355, 9, 15, 1), (359, 10, 0, 0), (360, 10, 1, 0), (395, 9, 13, 1), (406, 10, 2, 0), (407, 10, 3, 0), (408, 11, 2, 0), (412, 9, 16, 1), (415, 11, 5, 1), (416, 9, 17, 1), (420, 11, 0, 0), (421, 11, 1, 0), (422, 11, 3, 0), (427, 11, 8, 1)], [(249, 1, 144, 5), (311, 1, 82, 13), (314, 0, 130, 0), (417, 1, 146, 5), (425, 1, 93, 5)], [(258, 0, 11, .null)], Kk_145)
def Kk_146 : List (Nat × Instr × Nat) := [(0, .aload_n 0, 1), (1, .invokevirtual 29, 3), (4, .iconst 1, 1), (5, .isub, 1), (6, .istore_n 2, 1), (7, .iload_n 2, 1), (8, .ifCond .lt 56, 3), (11, .aload_n 0, 1), (12, .iload_n 2, 1), (13, .invokevirtual 41, 3), (16, .astore_n 3, 1), (17, .aload_n 3, 1), (18, .ifnull 40, 3), (21, .aload_n 3, 1), (22, .aload_n 1, 1), (23, .getfield 83, 3), (26, .aload_n 1, 1), (27, .getfield 86, 3), (30, .invokevirtual 45, 3), (33, .ifCond .eq 25, 3), (36, .aload_n 3, 1), (37, .getfield 62, 3), (40, .getfield 89, 3), (43, .aload_n 1, 1), (44, .getfield 62, 3), (47, .getfield 89, 3), (50, .if_icmp .eq 8, 3), (53, .aload_n 0, 1), (54, .iload_n 2, 1), (55, .invokevirtual 79, 3), (58, .iinc 2 (-1), 3), (61, .goto (-54), 3), (64, .return_, 1)]
def M_146 : mI := (⟨"EdgeHouse$Store", "removeOtherVary", "(LEdgeHouse$Entry;)V"⟩, prog_10_method_11_code, 4, 1, none, [(62, 11, 2, 0), (83, 11, 0, 0), (86, 11, 1, 0), (89, 13, 9, 1)], [(29, 1, 75, 5), (41, 1, 76, 5), (45, 1, 81, 11), (79, 1, 136, 5)], [], Kk_146)
def Kk_147 : List (Nat × Instr × Nat) := [(0, .aload_n 1, 1), (1, .getfield 71, 3), (4, .ifCond .eq 15, 3), (7, .aload_n 0, 1), (8, .getfield 18, 3), (11, .aload_n 1, 1), (12, .invokevirtual 95, 3), (15, .pop, 1), (16, .goto 12, 3), (19, .aload_n 0, 1), (20, .getfield 12, 3), (23, .aload_n 1, 1), (24, .invokevirtual 95, 3), (27, .pop, 1), (28, .aload_n 0, 1), (29, .invokevirtual 99, 3), (32, .return_, 1)]
def M_147 : mI := (⟨"EdgeHouse$Store", "place", "(LEdgeHouse$Entry;)V"⟩, prog_10_method_13_code, 2, 1, none, [(12, 5, 0, 0), (18, 5, 1, 0), (71, 11, 8, 1)], [(95, 1, 62, 2), (99, 1, 97, 5)], [], Kk_147)
def Kk_148 : List (Nat × Instr × Nat) := [(0, .iload_n 1, 1), (1, .ifCond .lt 14, 3), (4, .iload_n 1, 1), (5, .aload_n 0, 1), (6, .getfield 44, 3), (9, .invokevirtual 94, 3), (12, .if_icmp .lt 5, 3), (15, .iconst 0, 1), (16, .ireturn, 1), (17, .aload_n 0, 1), (18, .getfield 44, 3), (21, .iload_n 1, 1), (22, .invokevirtual 137, 3), (25, .pop, 1), (26, .aload_n 0, 1), (27, .dup, 1), (28, .getfield 147, 3), (31, .iconst 1, 1), (32, .iadd, 1), (33, .putfield 147, 3), (36, .iconst 1, 1), (37, .ireturn, 1)]
def M_148 : mI := (⟨"EdgeHouse", "lose", "(I)Z"⟩, prog_1_method_8_code, 2, 1, (some FieldType.boolean), [(44, 0, 7, 0), (147, 0, 11, 1)], [(94, 1, 17, 2), (137, 1, 95, 2)], [], Kk_148)
def Kk_149 : List (Nat × Instr × Nat) := [(0, .iconst 0, 1), (1, .istore_n 1, 1), (2, .iload_n 1, 1), (3, .sipush 500, 3), (6, .if_icmp .ge 34, 3), (9, .aload_n 0, 1), (10, .getfield 44, 3), (13, .invokevirtual 150, 3), (16, .ifCond .ne 24, 3), (19, .aload_n 0, 1), (20, .aload_n 0, 1), (21, .getfield 44, 3), (24, .iconst 0, 1), (25, .invokevirtual 137, 3), (28, .checkcast 141, 3), (31, .invokevirtual 143, 3), (34, .iinc 1 1, 3), (37, .goto (-35), 3), (40, .iload_n 1, 1), (41, .ireturn, 1)]
def M_149 : mI := (⟨"EdgeHouse", "settle", "()I"⟩, prog_1_method_9_code, 2, 0, (some FieldType.int), [(44, 0, 7, 0)], [(137, 1, 95, 2), (143, 1, 127, 0), (150, 1, 101, 2)], [(141, 6, 9, .null)], Kk_149)
def Kk_150 : List (Nat × Instr × Nat) := [(0, .iload_n 1, 1), (1, .ifCond .ne 10, 3), (4, .iload_n 2, 1), (5, .invokestatic 80, 3), (8, .ifCond .ne 18, 3), (11, .iload_n 1, 1), (12, .iconst 1, 1), (13, .if_icmp .ne 17, 3), (16, .iload_n 2, 1), (17, .ifCond .lt 13, 3), (20, .iload_n 2, 1), (21, .bipush 8, 2), (23, .if_icmp .ge 7, 3), (26, .iconst 1, 1), (27, .goto 4, 3), (30, .iconst 0, 1), (31, .istore_n 3, 1), (32, .iload_n 3, 1), (33, .ifCond .eq 12, 3), (36, .aload_n 0, 1), (37, .getfield 154, 3), (40, .bipush 60, 2), (42, .if_icmp .lt 5, 3), (45, .iconst (-1), 1), (46, .ireturn, 1), (47, .aload_n 0, 1), (48, .dup, 1), (49, .getfield 154, 3), (52, .iconst 1, 1), (53, .iadd, 1), (54, .putfield 154, 3), (57, .aload_n 0, 1), (58, .iconst 0, 1), (59, .putfield 157, 3), (62, .aload_n 0, 1), (63, .getfield 35, 3), (66, .aload_n 0, 1), (67, .getfield 154, 3), (70, .iload_n 1, 1), (71, .iastore, 1), (72, .aload_n 0, 1), (73, .getfield 38, 3), (76, .aload_n 0, 1), (77, .getfield 154, 3), (80, .iload_n 2, 1), (81, .iastore, 1), (82, .iconst 1, 1), (83, .istore 4, 2), (85, .iload 4, 2), (87, .bipush 6, 2), (89, .if_icmp .gt 57, 3), (92, .aload_n 0, 1), (93, .getfield 28, 3), (96, .iload 4, 2), (98, .aaload, 1), (99, .getfield 160, 3), (102, .ifCond .eq 38, 3), (105, .new 141, 3), (108, .dup, 1), (109, .iconst 2, 1), (110, .iconst 0, 1), (111, .iload 4, 2), (113, .aload_n 0, 1), (114, .getfield 154, 3), (117, .invokespecial 164, 3), (120, .astore 5, 2), (122, .aload 5, 2), (124, .iload_n 2, 1), (125, .putfield 167, 3), (128, .aload 5, 2), (130, .iload_n 1, 1), (131, .putfield 168, 3), (134, .aload_n 0, 1), (135, .aload 5, 2), (137, .invokevirtual 169, 3), (140, .iinc 4 1, 3), (143, .goto (-58), 3), (146, .aload_n 0, 1), (147, .getfield 154, 3), (150, .ireturn, 1)]
def M_150 : mI := (⟨"EdgeHouse", "purge", "(II)I"⟩, prog_1_method_10_code, 6, 2, (some FieldType.int), [(28, 0, 3, 0), (35, 0, 5, 0), (38, 0, 6, 0), (154, 0, 13, 1), (157, 0, 12, 1), (160, 4, 6, 1), (167, 9, 4, 1), (168, 9, 5, 1)], [(80, 2, 15, 0), (164, 0, 104, 0), (169, 1, 105, 0)], [(141, 0, 9, .null)], Kk_150)
def Kk_151 : List (Nat × Instr × Nat) := [(0, .iload_n 1, 1), (1, .invokestatic 181, 3), (4, .ifCond .eq 15, 3), (7, .aload_n 0, 1), (8, .getfield 28, 3), (11, .iload_n 1, 1), (12, .aaload, 1), (13, .getfield 160, 3), (16, .ifCond .ne 5, 3), (19, .iconst 0, 1), (20, .ireturn, 1), (21, .aload_n 0, 1), (22, .getfield 28, 3), (25, .iload_n 1, 1), (26, .aaload, 1), (27, .getfield 184, 3), (30, .astore_n 2, 1), (31, .iconst 0, 1), (32, .istore_n 3, 1), (33, .iload_n 3, 1), (34, .aload_n 2, 1), (35, .invokevirtual 94, 3), (38, .if_icmp .ge 57, 3), (41, .aload_n 2, 1), (42, .iload_n 3, 1), (43, .invokevirtual 187, 3), (46, .checkcast 190, 3), (49, .getfield 192, 3), (52, .astore 4, 2), (54, .aload 4, 2), (56, .ifnull 33, 3), (59, .aload 4, 2), (61, .getfield 113, 3), (64, .ifnull 15, 3), (67, .aload_n 0, 1), (68, .aload 4, 2), (70, .getfield 113, 3), (73, .sipush 502, 3), (76, .invokevirtual 109, 3), (79, .aload 4, 2), (81, .getfield 196, 3), (84, .astore 4, 2), (86, .goto (-32), 3), (89, .iinc 3 1, 3), (92, .goto (-59), 3), (95, .aload_n 0, 1), (96, .getfield 28, 3), (99, .iload_n 1, 1), (100, .aaload, 1), (101, .invokevirtual 199, 3), (104, .iconst 1, 1), (105, .ireturn, 1)]
def M_151 : mI := (⟨"EdgeHouse", "fail", "(I)Z"⟩, prog_1_method_12_code, 5, 1, (some FieldType.boolean), [(28, 0, 3, 0), (113, 6, 14, 1), (160, 4, 6, 1), (184, 4, 2, 0), (192, 10, 12, 1), (196, 6, 18, 1)], [(94, 1, 17, 2), (109, 1, 70, 0), (181, 2, 131, 0), (187, 1, 77, 2), (199, 1, 152, 4)], [(190, 6, 10, .null)], Kk_151)
def Kk_152 : List (Nat × Instr × Nat) := [(0, .aload_n 0, 1), (1, .iconst 0, 1), (2, .putfield 36, 3), (5, .aload_n 0, 1), (6, .iconst 0, 1), (7, .putfield 66, 3), (10, .aload_n 0, 1), (11, .getfield 12, 3), (14, .invokevirtual 75, 3), (17, .aload_n 0, 1), (18, .getfield 21, 3), (21, .invokevirtual 78, 3), (24, .iconst 0, 1), (25, .istore_n 1, 1), (26, .iload_n 1, 1), (27, .aload_n 0, 1), (28, .getfield 25, 3), (31, .arraylength, 1), (32, .if_icmp .ge 16, 3), (35, .aload_n 0, 1), (36, .getfield 25, 3), (39, .iload_n 1, 1), (40, .iconst 0, 1), (41, .bastore, 1), (42, .iinc 1 1, 3), (45, .goto (-19), 3), (48, .iconst 1, 1), (49, .istore_n 1, 1), (50, .iload_n 1, 1), (51, .iconst 2, 1), (52, .if_icmp .gt 14, 3), (55, .aload_n 0, 1), (56, .iload_n 1, 1), (57, .invokevirtual 79, 3), (60, .iinc 1 1, 3), (63, .goto (-13), 3), (66, .return_, 1)]
def M_152 : mI := (⟨"EdgeHouse$Node", "goDown", "()V"⟩, prog_6_method_9_code, 2, 0, none, [(12, 4, 1, 0), (21, 4, 2, 0), (25, 4, 3, 0), (36, 4, 6, 1), (66, 4, 7, 1)], [(75, 1, 153, 5), (78, 1, 154, 2), (79, 1, 139, 4)], [], Kk_152)
def Kk_153 : List (Nat × Instr × Nat) := [(0, .aload_n 0, 1), (1, .getfield 12, 3), (4, .invokevirtual 114, 3), (7, .aload_n 0, 1), (8, .getfield 18, 3), (11, .invokevirtual 114, 3), (14, .return_, 1)]
def M_153 : mI := (⟨"EdgeHouse$Store", "clear", "()V"⟩, prog_10_method_17_code, 1, 0, none, [(12, 5, 0, 0), (18, 5, 1, 0)], [(114, 1, 154, 2)], [], Kk_153)
def Kk_154 : List (Nat × Instr × Nat) := [(0, .aload_n 0, 1), (1, .dup, 1), (2, .getfield 63, 3), (5, .iconst 1, 1), (6, .iadd, 1), (7, .putfield 63, 3), (10, .aload_n 0, 1), (11, .getfield 9, 3), (14, .astore_n 1, 1), (15, .aload_n 0, 1), (16, .getfield 48, 3), (19, .istore_n 2, 1), (20, .aload_n 0, 1), (21, .iconst 0, 1), (22, .dup_x1, 1), (23, .putfield 48, 3), (26, .istore_n 3, 1), (27, .iload_n 3, 1), (28, .iload_n 2, 1), (29, .if_icmp .ge 13, 3), (32, .aload_n 1, 1), (33, .iload_n 3, 1), (34, .aconst_null, 1), (35, .aastore, 1), (36, .iinc 3 1, 3), (39, .goto (-12), 3), (42, .return_, 1)]
def M_154 : mI := (⟨"java/util/ArrayList", "clear", "()V"⟩, prog_34_method_40_code, 4, 0, none, [(9, 2, 0, 1), (48, 2, 1, 1), (63, 2, 2, 1)], [], [], Kk_154)
def Kk_155 : List (Nat × Instr × Nat) := [(0, .iload_n 1, 1), (1, .invokestatic 181, 3), (4, .ifCond .eq 15, 3), (7, .aload_n 0, 1), (8, .getfield 28, 3), (11, .iload_n 1, 1), (12, .aaload, 1), (13, .getfield 160, 3), (16, .ifCond .eq 5, 3), (19, .iconst 0, 1), (20, .ireturn, 1), (21, .aload_n 0, 1), (22, .getfield 28, 3), (25, .iload_n 1, 1), (26, .aaload, 1), (27, .iconst 1, 1), (28, .putfield 160, 3), (31, .aload_n 0, 1), (32, .getfield 28, 3), (35, .iload_n 1, 1), (36, .aaload, 1), (37, .aload_n 0, 1), (38, .getfield 154, 3), (41, .putfield 202, 3), (44, .iconst 3, 1), (45, .istore_n 2, 1), (46, .iload_n 2, 1), (47, .bipush 6, 2), (49, .if_icmp .gt 19, 3), (52, .aload_n 0, 1), (53, .getfield 28, 3), (56, .iload_n 2, 1), (57, .aaload, 1), (58, .iload_n 1, 1), (59, .invokevirtual 205, 3), (62, .iinc 2 1, 3), (65, .goto (-19), 3), (68, .iconst 1, 1), (69, .ireturn, 1)]
def M_155 : mI := (⟨"EdgeHouse", "back", "(I)Z"⟩, prog_1_method_13_code, 3, 1, (some FieldType.boolean), [(28, 0, 3, 0), (154, 0, 13, 1), (160, 4, 6, 1), (202, 4, 7, 1)], [(181, 2, 131, 0), (205, 1, 139, 4)], [], Kk_155)
def Kk_156 : List (Nat × Instr × Nat) := [(0, .iload_n 1, 1), (1, .invokestatic 181, 3), (4, .ifCond .eq 16, 3), (7, .iload_n 2, 1), (8, .bipush 32, 2), (10, .if_icmp .lt 10, 3), (13, .iload_n 2, 1), (14, .sipush 2000, 3), (17, .if_icmp .le 5, 3), (20, .iconst 0, 1), (21, .ireturn, 1), (22, .aload_n 0, 1), (23, .getfield 28, 3), (26, .iload_n 1, 1), (27, .aaload, 1), (28, .getfield 208, 3), (31, .iload_n 2, 1), (32, .putfield 212, 3), (35, .aload_n 0, 1), (36, .getfield 28, 3), (39, .iload_n 1, 1), (40, .aaload, 1), (41, .getfield 208, 3), (44, .invokevirtual 217, 3), (47, .iconst 1, 1), (48, .ireturn, 1)]
def M_156 : mI := (⟨"EdgeHouse", "budget", "(II)Z"⟩, prog_1_method_14_code, 3, 2, (some FieldType.boolean), [(28, 0, 3, 0), (208, 4, 1, 0), (212, 5, 2, 1)], [(181, 2, 131, 0), (217, 1, 97, 5)], [], Kk_156)
def Kk_157 : List (Nat × Instr × Nat) := [(0, .iload_n 1, 1), (1, .ifCond .lt 14, 3), (4, .iload_n 1, 1), (5, .aload_n 0, 1), (6, .getfield 48, 3), (9, .invokevirtual 94, 3), (12, .if_icmp .lt 5, 3), (15, .iconst (-1), 1), (16, .ireturn, 1), (17, .aload_n 0, 1), (18, .aload_n 0, 1), (19, .getfield 48, 3), (22, .iload_n 1, 1), (23, .invokevirtual 187, 3), (26, .checkcast 102, 3), (29, .invokevirtual 230, 3), (32, .astore_n 3, 1), (33, .iload_n 2, 1), (34, .ifCond .lt 11, 3), (37, .iload_n 2, 1), (38, .aload_n 3, 1), (39, .invokevirtual 234, 3), (42, .if_icmp .lt 5, 3), (45, .iconst (-1), 1), (46, .ireturn, 1), (47, .aload_n 3, 1), (48, .iload_n 2, 1), (49, .invokevirtual 243, 3), (52, .ireturn, 1)]
def M_157 : mI := (⟨"EdgeHouse", "letter", "(II)I"⟩, prog_1_method_16_code, 4, 2, (some FieldType.int), [(48, 0, 8, 0)], [(94, 1, 17, 2), (187, 1, 77, 2), (230, 1, 158, 0), (234, 1, 24, 12), (243, 1, 26, 12)], [(102, 6, 8, .null)], Kk_157)
def Kk_158 : List (Nat × Instr × Nat) := [(0, .aload_n 1, 1), (1, .getfield 531, 3), (4, .ifCond .eq 40, 3), (7, .aload_n 1, 1), (8, .getfield 541, 3), (11, .invokevirtual 545, 3), (14, .ifCond .eq 30, 3), (17, .aload_n 0, 1), (18, .getfield 54, 3), (21, .iconst 0, 1), (22, .invokevirtual 546, 3), (25, .aload_n 1, 1), (26, .aload_n 0, 1), (27, .getfield 54, 3), (30, .invokevirtual 549, 3), (33, .aload_n 1, 1), (34, .aload_n 0, 1), (35, .getfield 54, 3), (38, .invokevirtual 553, 3), (41, .putfield 541, 3), (44, .aload_n 1, 1), (45, .getfield 541, 3), (48, .areturn, 1)]
def M_158 : mI := (⟨"EdgeHouse", "textOf", "(LEdgeHouse$Reply;)Ljava/lang/String;"⟩, prog_1_method_44_code, 2, 1, (some (FieldType.object "java/lang/String")), [(54, 0, 9, 0), (531, 8, 1, 1), (541, 8, 13, 1)], [(545, 1, 159, 12), (546, 1, 160, 3), (549, 1, 213, 8), (553, 1, 190, 3)], [], Kk_158)
def Kk_159 : List (Nat × Instr × Nat) := [(0, .aload_n 0, 1), (1, .getfield 9, 3), (4, .arraylength, 1), (5, .ifCond .ne 7, 3), (8, .iconst 1, 1), (9, .goto 4, 3), (12, .iconst 0, 1), (13, .ireturn, 1)]
def M_159 : mI := (⟨"java/lang/String", "isEmpty", "()Z"⟩, prog_25_method_55_code, 1, 0, (some FieldType.boolean), [(9, 12, 0, 0)], [], [], Kk_159)
def Kk_160 : List (Nat × Instr × Nat) := [(0, .aload_n 0, 1), (1, .iload_n 1, 1), (2, .invokespecial 333, 3), (5, .return_, 1)]
def M_160 : mI := (⟨"java/lang/StringBuilder", "setLength", "(I)V"⟩, prog_26_method_89_code, 2, 1, none, [], [], [], Kk_160)
def Kk_161 : List (Nat × Instr × Nat) := [(0, .iload_n 1, 1), (1, .ifCond .ge 12, 3), (4, .new 129, 3), (7, .dup, 1), (8, .iload_n 1, 1), (9, .invokespecial 131, 3), (12, .athrow, 1), (13, .aload_n 0, 1), (14, .iload_n 1, 1), (15, .invokevirtual 100, 3), (18, .aload_n 0, 1), (19, .getfield 79, 3), (22, .iload_n 1, 1), (23, .if_icmp .ge 40, 3), (26, .aload_n 0, 1), (27, .invokevirtual 83, 3), (30, .ifCond .eq 18, 3), (33, .aload_n 0, 1), (34, .getfield 15, 3), (37, .aload_n 0, 1), (38, .getfield 79, 3), (41, .iload_n 1, 1), (42, .invokestatic 133, 3), (45, .goto 31, 3), (48, .aload_n 0, 1), (49, .getfield 15, 3), (52, .aload_n 0, 1), (53, .getfield 79, 3), (56, .iload_n 1, 1), (57, .invokestatic 137, 3), (60, .goto 16, 3), (63, .aload_n 0, 1), (64, .getfield 79, 3), (67, .iload_n 1, 1), (68, .if_icmp .le 8, 3), (71, .aload_n 0, 1), (72, .iconst 1, 1), (73, .putfield 73, 3), (76, .aload_n 0, 1), (77, .iload_n 1, 1), (78, .putfield 79, 3), (81, .return_, 1)]
def M_161 : mI := (⟨"java/lang/AbstractStringBuilder", "setLength", "(I)V"⟩, prog_15_method_13_code, 2, 1, none, [(15, 3, 0, 1), (73, 3, 2, 1), (79, 3, 3, 1)], [(131, 0, 162, 0), (133, 2, 208, 0), (137, 2, 212, 0)], [], Kk_161)
def Kk_162 : List (Nat × Instr × Nat) := [(0, .aload_n 0, 1), (1, .new 10, 3), (4, .dup, 1), (5, .invokespecial 12, 3), (8, .ldc 13, 2), (10, .invokevirtual 15, 3), (13, .iload_n 1, 1), (14, .invokevirtual 19, 3), (17, .invokevirtual 22, 3), (20, .invokespecial 7, 3), (23, .return_, 1)]
def M_162 : mI := (⟨"java/lang/StringIndexOutOfBoundsException", "<init>", "(I)V"⟩, prog_27_method_3_code, 2, 1, none, [], [(7, 0, 207, 0), (12, 0, 5, 0), (15, 1, 163, 3), (19, 1, 184, 3), (22, 1, 190, 3)], [(10, 0, 3, .null), (13, 5, 106, .null)], Kk_162)
def Kk_163 : List (Nat × Instr × Nat) := [(0, .aload_n 0, 1), (1, .aload_n 1, 1), (2, .invokespecial 29, 3), (5, .pop, 1), (6, .aload_n 0, 1), (7, .areturn, 1)]
def M_163 : mI := (⟨"java/lang/StringBuilder", "append", "(Ljava/lang/String;)Ljava/lang/StringBuilder;"⟩, prog_26_method_7_code, 2, 1, (some (FieldType.object "java/lang/StringBuilder")), [], [], [], Kk_163)
def Kk_164 : List (Nat × Instr × Nat) := [(0, .aload_n 1, 1), (1, .ifnonnull 8, 3), (4, .aload_n 0, 1), (5, .invokevirtual 204, 3), (8, .areturn, 1), (9, .aload_n 1, 1), (10, .invokevirtual 32, 3), (13, .istore_n 2, 1), (14, .aload_n 0, 1), (15, .aload_n 0, 1), (16, .getfield 79, 3), (19, .iload_n 2, 1), (20, .iadd, 1), (21, .invokevirtual 100, 3), (24, .aload_n 0, 1), (25, .aload_n 0, 1), (26, .getfield 79, 3), (29, .aload_n 1, 1), (30, .invokevirtual 208, 3), (33, .aload_n 0, 1), (34, .dup, 1), (35, .getfield 79, 3), (38, .iload_n 2, 1), (39, .iadd, 1), (40, .putfield 79, 3), (43, .aload_n 0, 1), (44, .areturn, 1)]
def M_164 : mI := (⟨"java/lang/AbstractStringBuilder", "append", "(Ljava/lang/String;)Ljava/lang/AbstractStringBuilder;"⟩, prog_15_method_22_code, 3, 1, (some (FieldType.object "java/lang/AbstractStringBuilder")), [(79, 3, 3, 1)], [(32, 1, 24, 12)], [], Kk_164)
def Kk_165 : List (Nat × Instr × Nat) := [(0, .aload_n 0, 1), (1, .aload_n 0, 1), (2, .getfield 79, 3), (5, .iconst 4, 1), (6, .iadd, 1), (7, .invokevirtual 100, 3), (10, .aload_n 0, 1), (11, .getfield 79, 3), (14, .istore_n 1, 1), (15, .aload_n 0, 1), (16, .getfield 15, 3), (19, .astore_n 2, 1), (20, .aload_n 0, 1), (21, .invokevirtual 83, 3), (24, .ifCond .eq 38, 3), (27, .aload_n 2, 1), (28, .iload_n 1, 1), (29, .iinc 1 1, 3), (32, .bipush 110, 2), (34, .bastore, 1), (35, .aload_n 2, 1), (36, .iload_n 1, 1), (37, .iinc 1 1, 3), (40, .bipush 117, 2), (42, .bastore, 1), (43, .aload_n 2, 1), (44, .iload_n 1, 1), (45, .iinc 1 1, 3), (48, .bipush 108, 2), (50, .bastore, 1), (51, .aload_n 2, 1), (52, .iload_n 1, 1), (53, .iinc 1 1, 3), (56, .bipush 108, 2), (58, .bastore, 1), (59, .goto 17, 3), (62, .aload_n 2, 1), (63, .iload_n 1, 1), (64, .bipush 110, 2), (66, .bipush 117, 2), (68, .bipush 108, 2), (70, .bipush 108, 2), (72, .invokestatic 226, 3), (75, .istore_n 1, 1), (76, .aload_n 0, 1), (77, .iload_n 1, 1), (78, .putfield 79, 3), (81, .aload_n 0, 1), (82, .areturn, 1)]
def M_165 : mI := (⟨"java/lang/AbstractStringBuilder", "appendNull", "()Ljava/lang/AbstractStringBuilder;"⟩, prog_15_method_26_code, 3, 0, (some (FieldType.object "java/lang/AbstractStringBuilder")), [(15, 3, 0, 1), (79, 3, 3, 1)], [(226, 2, 170, 0)], [], Kk_165)
def Kk_166 : List (Nat × Instr × Nat) := [(0, .aload_n 0, 1), (1, .getfield 15, 3), (4, .arraylength, 1), (5, .aload_n 0, 1), (6, .getfield 22, 3), (9, .ishr, 1), (10, .istore_n 2, 1), (11, .iload_n 1, 1), (12, .iload_n 2, 1), (13, .isub, 1), (14, .ifCond .le 24, 3), (17, .aload_n 0, 1), (18, .aload_n 0, 1), (19, .getfield 15, 3), (22, .aload_n 0, 1), (23, .iload_n 1, 1), (24, .invokevirtual 104, 3), (27, .aload_n 0, 1), (28, .getfield 22, 3), (31, .ishl, 1), (32, .invokestatic 108, 3), (35, .putfield 15, 3), (38, .return_, 1)]
def M_166 : mI := (⟨"java/lang/AbstractStringBuilder", "ensureCapacityInternal", "(I)V"⟩, prog_15_method_9_code, 3, 1, none, [(15, 3, 0, 1), (22, 3, 1, 1)], [(108, 2, 168, 0)], [], Kk_166)
def Kk_167 : List (Nat × Instr × Nat) := [(0, .aload_n 0, 1), (1, .getfield 15, 3), (4, .arraylength, 1), (5, .istore_n 2, 1), (6, .iload_n 1, 1), (7, .aload_n 0, 1), (8, .getfield 22, 3), (11, .ishl, 1), (12, .istore_n 3, 1), (13, .iload_n 3, 1), (14, .iload_n 2, 1), (15, .isub, 1), (16, .istore 4, 2), (18, .iload_n 2, 1), (19, .iload 4, 2), (21, .iload_n 2, 1), (22, .iconst 2, 1), (23, .aload_n 0, 1), (24, .getfield 22, 3), (27, .ishl, 1), (28, .iadd, 1), (29, .invokestatic 114, 3), (32, .istore 5, 2), (34, .iload 5, 2), (36, .ldc 39, 2), (38, .if_icmp .ne 13, 3), (41, .new 120, 3), (44, .dup, 1), (45, .ldc 122, 2), (47, .invokespecial 124, 3), (50, .athrow, 1), (51, .iload 5, 2), (53, .aload_n 0, 1), (54, .getfield 22, 3), (57, .ishr, 1), (58, .ireturn, 1)]
def M_167 : mI := (⟨"java/lang/AbstractStringBuilder", "newCapacity", "(I)I"⟩, prog_15_method_10_code, 6, 1, (some FieldType.int), [(15, 3, 0, 1), (22, 3, 1, 1)], [(114, 2, 66, 0)], [(39, 2, 0, .int (2147483647))], Kk_167)
def Kk_168 : List (Nat × Instr × Nat) := [(0, .iload_n 1, 1), (1, .aload_n 0, 1), (2, .arraylength, 1), (3, .if_icmp .ne 11, 3), (6, .aload_n 0, 1), (7, .invokevirtual 310, 3), (10, .checkcast 311, 3), (13, .areturn, 1), (14, .iload_n 1, 1), (15, .newarray .byte, 2), (17, .astore_n 2, 1), (18, .aload_n 0, 1), (19, .iconst 0, 1), (20, .aload_n 2, 1), (21, .iconst 0, 1), (22, .aload_n 0, 1), (23, .arraylength, 1), (24, .iload_n 1, 1), (25, .invokestatic 304, 3), (28, .invokestatic 150, 3), (31, .aload_n 2, 1), (32, .areturn, 1)]
def M_168 : mI := (⟨"java/util/Arrays", "copyOf", "([BI)[B"⟩, prog_35_method_121_code, 3, 2, (some (FieldType.array FieldType.byte)), [], [(304, 6, 0, 0)], [], Kk_168)
def Kk_169 : List (Nat × Instr × Nat) := [(0, .getstatic 18, 3), (3, .ifCond .eq 14, 3), (6, .aload_n 0, 1), (7, .getfield 22, 3), (10, .ifCond .ne 7, 3), (13, .iconst 1, 1), (14, .goto 4, 3), (17, .iconst 0, 1), (18, .ireturn, 1)]
def M_169 : mI := (⟨"java/lang/AbstractStringBuilder", "isLatin1", "()Z"⟩, prog_15_method_68_code, 1, 0, (some FieldType.boolean), [(22, 3, 1, 1)], [], [(18, 4, 0, .int 1)], Kk_169)
def Kk_170 : List (Nat × Instr × Nat) := [(0, .iload_n 1, 1), (1, .iconst 4, 1), (2, .iadd, 1), (3, .istore 6, 2), (5, .iload_n 1, 1), (6, .iload 6, 2), (8, .aload_n 0, 1), (9, .invokestatic 96, 3), (12, .aload_n 0, 1), (13, .iload_n 1, 1), (14, .iinc 1 1, 3), (17, .iload_n 2, 1), (18, .invokestatic 111, 3), (21, .aload_n 0, 1), (22, .iload_n 1, 1), (23, .iinc 1 1, 3), (26, .iload_n 3, 1), (27, .invokestatic 111, 3), (30, .aload_n 0, 1), (31, .iload_n 1, 1), (32, .iinc 1 1, 3), (35, .iload 4, 2), (37, .invokestatic 111, 3), (40, .aload_n 0, 1), (41, .iload_n 1, 1), (42, .iinc 1 1, 3), (45, .iload 5, 2), (47, .invokestatic 111, 3), (50, .getstatic 44, 3), (53, .ifCond .ne 17, 3), (56, .iload_n 1, 1), (57, .iload 6, 2), (59, .if_icmp .eq 11, 3), (62, .new 52, 3), (65, .dup, 1), (66, .invokespecial 66, 3), (69, .athrow, 1), (70, .iload 6, 2), (72, .ireturn, 1)]
def M_170 : mI := (⟨"java/lang/StringUTF16", "putCharsAt", "([BICCCC)I"⟩, prog_29_method_81_code, 7, 6, (some FieldType.int), [], [(96, 2, 171, 0), (111, 2, 174, 0)], [(44, 4, 0, .int 1)], Kk_170)
def Kk_171 : List (Nat × Instr × Nat) := [(0, .iload_n 0, 1), (1, .iload_n 1, 1), (2, .aload_n 2, 1), (3, .invokestatic 48, 3), (6, .invokestatic 241, 3), (9, .return_, 1)]
def M_171 : mI := (⟨"java/lang/StringUTF16", "checkBoundsBeginEnd", "(II[B)V"⟩, prog_29_method_93_code, 3, 3, none, [], [(48, 2, 33, 0), (241, 2, 172, 0)], [], Kk_171)
def Kk_172 : List (Nat × Instr × Nat) := [(0, .iload_n 0, 1), (1, .iload_n 1, 1), (2, .iload_n 2, 1), (3, .getstatic 1053, 3), (6, .invokestatic 1062, 3), (9, .pop, 1), (10, .return_, 1)]
def M_172 : mI := (⟨"java/lang/String", "checkBoundsBeginEnd", "(III)V"⟩, prog_25_method_158_code, 3, 3, none, [], [(1062, 2, 173, 0)], [(1053, 4, 0, .retAddr 0)], Kk_172)
def Kk_173 : List (Nat × Instr × Nat) := [(0, .iload_n 0, 1), (1, .ifCond .lt 13, 3), (4, .iload_n 0, 1), (5, .iload_n 1, 1), (6, .if_icmp .gt 8, 3), (9, .iload_n 1, 1), (10, .iload_n 2, 1), (11, .if_icmp .le 11, 3), (14, .aload_n 3, 1), (15, .iload_n 0, 1), (16, .iload_n 1, 1), (17, .iload_n 2, 1), (18, .invokestatic 99, 3), (21, .athrow, 1), (22, .iload_n 0, 1), (23, .ireturn, 1)]
def M_173 : mI := (⟨"jdk/internal/util/Preconditions", "checkFromToIndex", "(IIILjava/util/function/BiFunction;)I"⟩, prog_43_method_12_code, 4, 4, (some FieldType.int), [], [], [], Kk_173)
def Kk_174 : List (Nat × Instr × Nat) := [(0, .getstatic 44, 3), (3, .ifCond .ne 25, 3), (6, .iload_n 1, 1), (7, .ifCond .lt 11, 3), (10, .iload_n 1, 1), (11, .aload_n 0, 1), (12, .invokestatic 48, 3), (15, .if_icmp .lt 13, 3), (18, .new 52, 3), (21, .dup, 1), (22, .ldc 54, 2), (24, .invokespecial 56, 3), (27, .athrow, 1), (28, .iload_n 1, 1), (29, .iconst 1, 1), (30, .ishl, 1), (31, .istore_n 1, 1), (32, .aload_n 0, 1), (33, .iload_n 1, 1), (34, .iinc 1 1, 3), (37, .iload_n 2, 1), (38, .getstatic 59, 3), (41, .ishr, 1), (42, .i2b, 1), (43, .bastore, 1), (44, .aload_n 0, 1), (45, .iload_n 1, 1), (46, .iload_n 2, 1), (47, .getstatic 63, 3), (50, .ishr, 1), (51, .i2b, 1), (52, .bastore, 1), (53, .return_, 1)]
def M_174 : mI := (⟨"java/lang/StringUTF16", "putChar", "([BII)V"⟩, prog_29_method_4_code, 3, 3, none, [], [(48, 2, 33, 0)], [(44, 4, 0, .int 1), (59, 4, 0, .int 0), (63, 4, 0, .int 8)], Kk_174)
def Kk_175 : List (Nat × Instr × Nat) := [(0, .aload_n 0, 1), (1, .aload_n 2, 1), (2, .invokevirtual 397, 3), (5, .aload_n 2, 1), (6, .aload_n 0, 1), (7, .getfield 15, 3), (10, .iload_n 1, 1), (11, .aload_n 0, 1), (12, .getfield 22, 3), (15, .invokevirtual 399, 3), (18, .return_, 1)]
def M_175 : mI := (⟨"java/lang/AbstractStringBuilder", "putStringAt", "(ILjava/lang/String;)V"⟩, prog_15_method_73_code, 3, 2, none, [(15, 3, 0, 1), (22, 3, 1, 1)], [(399, 1, 183, 12)], [], Kk_175)
def Kk_176 : List (Nat × Instr × Nat) := [(0, .getstatic 18, 3), (3, .ifCond .eq 18, 3), (6, .aload_n 0, 1), (7, .getfield 22, 3), (10, .aload_n 1, 1), (11, .invokevirtual 40, 3), (14, .if_icmp .eq 7, 3), (17, .aload_n 0, 1), (18, .invokevirtual 195, 3), (21, .return_, 1)]
def M_176 : mI := (⟨"java/lang/AbstractStringBuilder", "inflateIfNeededFor", "(Ljava/lang/String;)V"⟩, prog_15_method_71_code, 2, 1, none, [(22, 3, 1, 1)], [(40, 1, 25, 12)], [(18, 4, 0, .int 1)], Kk_176)
def Kk_177 : List (Nat × Instr × Nat) := [(0, .aload_n 0, 1), (1, .invokevirtual 83, 3), (4, .ifCond .ne 4, 3), (7, .return_, 1), (8, .aload_n 0, 1), (9, .getfield 15, 3), (12, .arraylength, 1), (13, .invokestatic 26, 3), (16, .astore_n 1, 1), (17, .aload_n 0, 1), (18, .getfield 15, 3), (21, .iconst 0, 1), (22, .aload_n 1, 1), (23, .iconst 0, 1), (24, .aload_n 0, 1), (25, .getfield 79, 3), (28, .invokestatic 125, 3), (31, .aload_n 0, 1), (32, .aload_n 1, 1), (33, .putfield 15, 3), (36, .aload_n 0, 1), (37, .iconst 1, 1), (38, .putfield 22, 3), (41, .return_, 1)]
def M_177 : mI := (⟨"java/lang/AbstractStringBuilder", "inflate", "()V"⟩, prog_15_method_11_code, 2, 0, none, [(15, 3, 0, 1), (22, 3, 1, 1), (79, 3, 3, 1)], [(26, 2, 7, 0), (125, 2, 178, 0)], [], Kk_177)
def Kk_178 : List (Nat × Instr × Nat) := [(0, .aload_n 0, 1), (1, .iload_n 1, 1), (2, .aload_n 2, 1), (3, .iload_n 3, 1), (4, .iload 4, 2), (6, .invokestatic 240, 3), (9, .return_, 1)]
def M_178 : mI := (⟨"java/lang/StringLatin1", "inflate", "([BI[BII)V"⟩, prog_28_method_50_code, 5, 5, none, [], [(240, 2, 179, 0)], [], Kk_178)
def Kk_179 : List (Nat × Instr × Nat) := [(0, .iload_n 3, 1), (1, .iload 4, 2), (3, .aload_n 2, 1), (4, .invokestatic 173, 3), (7, .iconst 0, 1), (8, .istore 5, 2), (10, .iload 5, 2), (12, .iload 4, 2), (14, .if_icmp .ge 27, 3), (17, .aload_n 2, 1), (18, .iload_n 3, 1), (19, .iinc 3 1, 3), (22, .aload_n 0, 1), (23, .iload_n 1, 1), (24, .iinc 1 1, 3), (27, .baload, 1), (28, .sipush 255, 3), (31, .iand, 1), (32, .invokestatic 111, 3), (35, .iinc 5 1, 3), (38, .goto (-28), 3), (41, .return_, 1)]
def M_179 : mI := (⟨"java/lang/StringUTF16", "inflate", "([BI[BII)V"⟩, prog_29_method_86_code, 6, 5, none, [], [(111, 2, 174, 0), (173, 2, 180, 0)], [], Kk_179)
def Kk_180 : List (Nat × Instr × Nat) := [(0, .iload_n 0, 1), (1, .iload_n 1, 1), (2, .aload_n 2, 1), (3, .invokestatic 48, 3), (6, .invokestatic 419, 3), (9, .pop, 1), (10, .return_, 1)]
def M_180 : mI := (⟨"java/lang/StringUTF16", "checkBoundsOffCount", "(II[B)V"⟩, prog_29_method_94_code, 3, 3, none, [], [(48, 2, 33, 0), (419, 2, 181, 0)], [], Kk_180)
def Kk_181 : List (Nat × Instr × Nat) := [(0, .iload_n 0, 1), (1, .iload_n 1, 1), (2, .iload_n 2, 1), (3, .getstatic 1053, 3), (6, .invokestatic 1065, 3), (9, .ireturn, 1)]
def M_181 : mI := (⟨"java/lang/String", "checkBoundsOffCount", "(III)I"⟩, prog_25_method_157_code, 3, 3, (some FieldType.int), [], [(1065, 2, 182, 0)], [(1053, 4, 0, .retAddr 0)], Kk_181)
def Kk_182 : List (Nat × Instr × Nat) := [(0, .iload_n 2, 1), (1, .iload_n 0, 1), (2, .ior, 1), (3, .iload_n 1, 1), (4, .ior, 1), (5, .ifCond .lt 10, 3), (8, .iload_n 1, 1), (9, .iload_n 2, 1), (10, .iload_n 0, 1), (11, .isub, 1), (12, .if_icmp .le 11, 3), (15, .aload_n 3, 1), (16, .iload_n 0, 1), (17, .iload_n 1, 1), (18, .iload_n 2, 1), (19, .invokestatic 103, 3), (22, .athrow, 1), (23, .iload_n 0, 1), (24, .ireturn, 1)]
def M_182 : mI := (⟨"jdk/internal/util/Preconditions", "checkFromIndexSize", "(IIILjava/util/function/BiFunction;)I"⟩, prog_43_method_13_code, 4, 4, (some FieldType.int), [], [], [], Kk_182)
def Kk_183 : List (Nat × Instr × Nat) := [(0, .aload_n 0, 1), (1, .invokevirtual 335, 3), (4, .iload_n 3, 1), (5, .if_icmp .ne 23, 3), (8, .aload_n 0, 1), (9, .getfield 9, 3), (12, .iconst 0, 1), (13, .aload_n 1, 1), (14, .iload_n 2, 1), (15, .iload_n 3, 1), (16, .ishl, 1), (17, .aload_n 0, 1), (18, .getfield 9, 3), (21, .arraylength, 1), (22, .invokestatic 212, 3), (25, .goto 18, 3), (28, .aload_n 0, 1), (29, .getfield 9, 3), (32, .iconst 0, 1), (33, .aload_n 1, 1), (34, .iload_n 2, 1), (35, .aload_n 0, 1), (36, .getfield 9, 3), (39, .arraylength, 1), (40, .invokestatic 106, 3), (43, .return_, 1)]
def M_183 : mI := (⟨"java/lang/String", "getBytes", "([BIB)V"⟩, prog_25_method_147_code, 4, 3, none, [(9, 12, 0, 0)], [(106, 2, 178, 0), (335, 1, 25, 12)], [], Kk_183)
def Kk_184 : List (Nat × Instr × Nat) := [(0, .aload_n 0, 1), (1, .iload_n 1, 1), (2, .invokespecial 53, 3), (5, .pop, 1), (6, .aload_n 0, 1), (7, .areturn, 1)]
def M_184 : mI := (⟨"java/lang/StringBuilder", "append", "(I)Ljava/lang/StringBuilder;"⟩, prog_26_method_15_code, 2, 1, (some (FieldType.object "java/lang/StringBuilder")), [], [], [], Kk_184)
def Kk_185 : List (Nat × Instr × Nat) := [(0, .aload_n 0, 1), (1, .getfield 79, 3), (4, .istore_n 2, 1), (5, .iload_n 2, 1), (6, .iload_n 1, 1), (7, .invokestatic 245, 3), (10, .iadd, 1), (11, .istore_n 3, 1), (12, .aload_n 0, 1), (13, .iload_n 3, 1), (14, .invokevirtual 100, 3), (17, .aload_n 0, 1), (18, .invokevirtual 83, 3), (21, .ifCond .eq 16, 3), (24, .iload_n 1, 1), (25, .iload_n 3, 1), (26, .aload_n 0, 1), (27, .getfield 15, 3), (30, .invokestatic 248, 3), (33, .pop, 1), (34, .goto 14, 3), (37, .iload_n 1, 1), (38, .iload_n 2, 1), (39, .iload_n 3, 1), (40, .aload_n 0, 1), (41, .getfield 15, 3), (44, .invokestatic 251, 3), (47, .pop, 1), (48, .aload_n 0, 1), (49, .iload_n 3, 1), (50, .putfield 79, 3), (53, .aload_n 0, 1), (54, .areturn, 1)]
def M_185 : mI := (⟨"java/lang/AbstractStringBuilder", "append", "(I)Ljava/lang/AbstractStringBuilder;"⟩, prog_15_method_32_code, 4, 1, (some (FieldType.object "java/lang/AbstractStringBuilder")), [(15, 3, 0, 1), (79, 3, 3, 1)], [(245, 2, 186, 0), (248, 2, 187, 0), (251, 2, 188, 0)], [], Kk_185)
def Kk_186 : List (Nat × Instr × Nat) := [(0, .iconst 1, 1), (1, .istore_n 1, 1), (2, .iload_n 0, 1), (3, .ifCond .lt 8, 3), (6, .iconst 0, 1), (7, .istore_n 1, 1), (8, .iload_n 0, 1), (9, .ineg, 1), (10, .istore_n 0, 1), (11, .bipush (-10), 2), (13, .istore_n 2, 1), (14, .iconst 1, 1), (15, .istore_n 3, 1), (16, .iload_n 3, 1), (17, .bipush 10, 2), (19, .if_icmp .ge 23, 3), (22, .iload_n 0, 1), (23, .iload_n 2, 1), (24, .if_icmp .le 7, 3), (27, .iload_n 3, 1), (28, .iload_n 1, 1), (29, .iadd, 1), (30, .ireturn, 1), (31, .bipush 10, 2), (33, .iload_n 2, 1), (34, .imul, 1), (35, .istore_n 2, 1), (36, .iinc 3 1, 3), (39, .goto (-23), 3), (42, .bipush 10, 2), (44, .iload_n 1, 1), (45, .iadd, 1), (46, .ireturn, 1)]
def M_186 : mI := (⟨"java/lang/Integer", "stringSize", "(I)I"⟩, prog_21_method_13_code, 4, 1, (some FieldType.int), [], [], [], Kk_186)
def Kk_187 : List (Nat × Instr × Nat) := [(0, .iload_n 1, 1), (1, .istore 5, 2), (3, .iload_n 0, 1), (4, .ifCond .ge 7, 3), (7, .iconst 1, 1), (8, .goto 4, 3), (11, .iconst 0, 1), (12, .istore 6, 2), (14, .iload 6, 2), (16, .ifCond .ne 6, 3), (19, .iload_n 0, 1), (20, .ineg, 1), (21, .istore_n 0, 1), (22, .iload_n 0, 1), (23, .bipush (-100), 2), (25, .if_icmp .gt 47, 3), (28, .iload_n 0, 1), (29, .bipush 100, 2), (31, .idiv, 1), (32, .istore_n 3, 1), (33, .iload_n 3, 1), (34, .bipush 100, 2), (36, .imul, 1), (37, .iload_n 0, 1), (38, .isub, 1), (39, .istore 4, 2), (41, .iload_n 3, 1), (42, .istore_n 0, 1), (43, .aload_n 2, 1), (44, .iinc 5 (-1), 3), (47, .iload 5, 2), (49, .getstatic 83, 3), (52, .iload 4, 2), (54, .baload, 1), (55, .bastore, 1), (56, .aload_n 2, 1), (57, .iinc 5 (-1), 3), (60, .iload 5, 2), (62, .getstatic 87, 3), (65, .iload 4, 2), (67, .baload, 1), (68, .bastore, 1), (69, .goto (-47), 3), (72, .aload_n 2, 1), (73, .iinc 5 (-1), 3), (76, .iload 5, 2), (78, .getstatic 83, 3), (81, .iload_n 0, 1), (82, .ineg, 1), (83, .baload, 1), (84, .bastore, 1), (85, .iload_n 0, 1), (86, .bipush (-9), 2), (88, .if_icmp .ge 16, 3), (91, .aload_n 2, 1), (92, .iinc 5 (-1), 3), (95, .iload 5, 2), (97, .getstatic 87, 3), (100, .iload_n 0, 1), (101, .ineg, 1), (102, .baload, 1), (103, .bastore, 1), (104, .iload 6, 2), (106, .ifCond .eq 12, 3), (109, .aload_n 2, 1), (110, .iinc 5 (-1), 3), (113, .iload 5, 2), (115, .bipush 45, 2), (117, .bastore, 1), (118, .iload 5, 2), (120, .ireturn, 1)]
def M_187 : mI := (⟨"java/lang/Integer", "getChars", "(II[B)I"⟩, prog_21_method_12_code, 7, 3, (some FieldType.int), [], [], [], Kk_187)
def Kk_188 : List (Nat × Instr × Nat) := [(0, .iload_n 1, 1), (1, .iload_n 2, 1), (2, .aload_n 3, 1), (3, .invokestatic 96, 3), (6, .iload_n 0, 1), (7, .iload_n 2, 1), (8, .aload_n 3, 1), (9, .invokestatic 393, 3), (12, .istore 4, 2), (14, .getstatic 44, 3), (17, .ifCond .ne 17, 3), (20, .iload_n 1, 1), (21, .iload 4, 2), (23, .if_icmp .eq 11, 3), (26, .new 52, 3), (29, .dup, 1), (30, .invokespecial 66, 3), (33, .athrow, 1), (34, .iload 4, 2), (36, .ireturn, 1)]
def M_188 : mI := (⟨"java/lang/StringUTF16", "getChars", "(III[B)I"⟩, prog_29_method_77_code, 5, 4, (some FieldType.int), [], [(96, 2, 171, 0), (393, 2, 189, 0)], [(44, 4, 0, .int 1)], Kk_188)
def Kk_189 : List (Nat × Instr × Nat) := [(0, .iload_n 1, 1), (1, .istore 5, 2), (3, .iload_n 0, 1), (4, .ifCond .ge 7, 3), (7, .iconst 1, 1), (8, .goto 4, 3), (11, .iconst 0, 1), (12, .istore 6, 2), (14, .iload 6, 2), (16, .ifCond .ne 6, 3), (19, .iload_n 0, 1), (20, .ineg, 1), (21, .istore_n 0, 1), (22, .iload_n 0, 1), (23, .bipush (-100), 2), (25, .if_icmp .gt 51, 3), (28, .iload_n 0, 1), (29, .bipush 100, 2), (31, .idiv, 1), (32, .istore_n 3, 1), (33, .iload_n 3, 1), (34, .bipush 100, 2), (36, .imul, 1), (37, .iload_n 0, 1), (38, .isub, 1), (39, .istore 4, 2), (41, .iload_n 3, 1), (42, .istore_n 0, 1), (43, .aload_n 2, 1), (44, .iinc 5 (-1), 3), (47, .iload 5, 2), (49, .getstatic 403, 3), (52, .iload 4, 2), (54, .baload, 1), (55, .invokestatic 111, 3), (58, .aload_n 2, 1), (59, .iinc 5 (-1), 3), (62, .iload 5, 2), (64, .getstatic 407, 3), (67, .iload 4, 2), (69, .baload, 1), (70, .invokestatic 111, 3), (73, .goto (-51), 3), (76, .aload_n 2, 1), (77, .iinc 5 (-1), 3), (80, .iload 5, 2), (82, .getstatic 403, 3), (85, .iload_n 0, 1), (86, .ineg, 1), (87, .baload, 1), (88, .invokestatic 111, 3), (91, .iload_n 0, 1), (92, .bipush (-9), 2), (94, .if_icmp .ge 18, 3), (97, .aload_n 2, 1), (98, .iinc 5 (-1), 3), (101, .iload 5, 2), (103, .getstatic 407, 3), (106, .iload_n 0, 1), (107, .ineg, 1), (108, .baload, 1), (109, .invokestatic 111, 3), (112, .iload 6, 2), (114, .ifCond .eq 14, 3), (117, .aload_n 2, 1), (118, .iinc 5 (-1), 3), (121, .iload 5, 2), (123, .bipush 45, 2), (125, .invokestatic 111, 3), (128, .iload 5, 2), (130, .ireturn, 1)]
def M_189 : mI := (⟨"java/lang/StringUTF16", "getChars", "(II[B)I"⟩, prog_29_method_89_code, 7, 3, (some FieldType.int), [], [(111, 2, 174, 0)], [], Kk_189)
def Kk_190 : List (Nat × Instr × Nat) := [(0, .new 18, 3), (3, .dup, 1), (4, .aload_n 0, 1), (5, .invokespecial 137, 3), (8, .areturn, 1)]
def M_190 : mI := (⟨"java/lang/StringBuilder", "toString", "()Ljava/lang/String;"⟩, prog_26_method_42_code, 1, 0, (some (FieldType.object "java/lang/String")), [], [(137, 0, 191, 0)], [(18, 0, 12, .null)], Kk_190)
def Kk_191 : List (Nat × Instr × Nat) := [(0, .aload_n 0, 1), (1, .aload_n 1, 1), (2, .aconst_null, 1), (3, .invokespecial 489, 3), (6, .return_, 1)]
def M_191 : mI := (⟨"java/lang/String", "<init>", "(Ljava/lang/StringBuilder;)V"⟩, prog_25_method_53_code, 2, 1, none, [], [(489, 0, 192, 0)], [], Kk_191)
def Kk_192 : List (Nat × Instr × Nat) := [(0, .aload_n 0, 1), (1, .invokespecial 1, 3), (4, .aload_n 1, 1), (5, .invokevirtual 552, 3), (8, .astore_n 3, 1), (9, .aload_n 1, 1), (10, .invokevirtual 549, 3), (13, .istore 4, 2), (15, .aload_n 1, 1), (16, .invokevirtual 1047, 3), (19, .ifCond .eq 22, 3), (22, .aload_n 0, 1), (23, .iconst 0, 1), (24, .putfield 15, 3), (27, .aload_n 0, 1), (28, .aload_n 3, 1), (29, .iconst 0, 1), (30, .iload 4, 2), (32, .invokestatic 54, 3), (35, .putfield 9, 3), (38, .goto 59, 3), (41, .getstatic 38, 3), (44, .ifCond .eq 35, 3), (47, .aload_n 1, 1), (48, .getfield 1048, 3), (51, .ifCond .eq 28, 3), (54, .aload_n 0, 1), (55, .aload_n 3, 1), (56, .iconst 0, 1), (57, .iload 4, 2), (59, .invokestatic 1051, 3), (62, .putfield 9, 3), (65, .aload_n 0, 1), (66, .aload_n 0, 1), (67, .getfield 9, 3), (70, .iload 4, 2), (72, .invokestatic 47, 3), (75, .putfield 15, 3), (78, .return_, 1), (79, .aload_n 0, 1), (80, .iconst 1, 1), (81, .putfield 15, 3), (84, .aload_n 0, 1), (85, .aload_n 3, 1), (86, .iconst 0, 1), (87, .iload 4, 2), (89, .iconst 1, 1), (90, .ishl, 1), (91, .invokestatic 54, 3), (94, .putfield 9, 3), (97, .return_, 1)]
def M_192 : mI := (⟨"java/lang/String", "<init>", "(Ljava/lang/AbstractStringBuilder;Ljava/lang/Void;)V"⟩, prog_25_method_150_code, 5, 2, none, [(9, 12, 0, 2), (15, 12, 1, 2), (1048, 3, 2, 1)], [(1, 4, 0, 0), (47, 2, 206, 0), (54, 2, 196, 0), (1051, 2, 204, 0)], [(38, 4, 0, .int 1)], Kk_192)
def Kk_193 : List (Nat × Instr × Nat) := [(0, .aload_n 0, 1), (1, .getfield 15, 3), (4, .areturn, 1)]
def M_193 : mI := (⟨"java/lang/AbstractStringBuilder", "getValue", "()[B"⟩, prog_15_method_64_code, 1, 0, (some (FieldType.array FieldType.byte)), [(15, 3, 0, 1)], [], [], Kk_193)
def Kk_194 : List (Nat × Instr × Nat) := [(0, .aload_n 0, 1), (1, .invokespecial 343, 3), (4, .ireturn, 1)]
def M_194 : mI := (⟨"java/lang/StringBuilder", "length", "()I"⟩, prog_26_method_93_code, 1, 0, (some FieldType.int), [], [], [], Kk_194)
def Kk_195 : List (Nat × Instr × Nat) := [(0, .aload_n 0, 1), (1, .getfield 79, 3), (4, .ireturn, 1)]
def M_195 : mI := (⟨"java/lang/AbstractStringBuilder", "length", "()I"⟩, prog_15_method_6_code, 1, 0, (some FieldType.int), [(79, 3, 3, 1)], [], [], Kk_195)
def Kk_196 : List (Nat × Instr × Nat) := [(0, .iload_n 1, 1), (1, .ifCond .ne 9, 3), (4, .iload_n 2, 1), (5, .aload_n 0, 1), (6, .arraylength, 1), (7, .if_icmp .eq 10, 3), (10, .aload_n 0, 1), (11, .iload_n 1, 1), (12, .iload_n 2, 1), (13, .invokestatic 339, 3), (16, .areturn, 1), (17, .aload_n 0, 1), (18, .invokevirtual 310, 3), (21, .checkcast 311, 3), (24, .areturn, 1)]
def M_196 : mI := (⟨"java/util/Arrays", "copyOfRange", "([BII)[B"⟩, prog_35_method_132_code, 3, 3, (some (FieldType.array FieldType.byte)), [], [(339, 2, 197, 0)], [], Kk_196)
def Kk_197 : List (Nat × Instr × Nat) := [(0, .iload_n 1, 1), (1, .iload_n 2, 1), (2, .invokestatic 343, 3), (5, .iload_n 2, 1), (6, .iload_n 1, 1), (7, .isub, 1), (8, .istore_n 3, 1), (9, .iload_n 3, 1), (10, .newarray .byte, 2), (12, .astore 4, 2), (14, .aload_n 0, 1), (15, .iload_n 1, 1), (16, .aload 4, 2), (18, .iconst 0, 1), (19, .aload_n 0, 1), (20, .arraylength, 1), (21, .iload_n 1, 1), (22, .isub, 1), (23, .iload_n 3, 1), (24, .invokestatic 304, 3), (27, .invokestatic 150, 3), (30, .aload 4, 2), (32, .areturn, 1)]
def M_197 : mI := (⟨"java/util/Arrays", "copyOfRangeByte", "([BII)[B"⟩, prog_35_method_133_code, 5, 3, (some (FieldType.array FieldType.byte)), [], [(304, 6, 0, 0), (343, 2, 198, 0)], [], Kk_197)
def Kk_198 : List (Nat × Instr × Nat) := [(0, .iload_n 1, 1), (1, .iload_n 0, 1), (2, .if_icmp .ge 35, 3), (5, .new 43, 3), (8, .dup, 1), (9, .new 45, 3), (12, .dup, 1), (13, .invokespecial 47, 3), (16, .iload_n 0, 1), (17, .invokevirtual 54, 3), (20, .ldc_w 337, 3), (23, .invokevirtual 50, 3), (26, .iload_n 1, 1), (27, .invokevirtual 54, 3), (30, .invokevirtual 61, 3), (33, .invokespecial 65, 3), (36, .athrow, 1), (37, .return_, 1)]
def M_198 : mI := (⟨"java/util/Arrays", "checkLength", "(II)V"⟩, prog_35_method_131_code, 2, 2, none, [], [(47, 0, 5, 0), (50, 1, 163, 3), (54, 1, 184, 3), (61, 1, 190, 3), (65, 0, 200, 0)], [(45, 0, 3, .null), (337, 5, 110, .null)], Kk_198)
def Kk_199 : List (Nat × Instr × Nat) := [(0, .aload_n 0, 1), (1, .invokespecial 1, 3), (4, .aload_n 0, 1), (5, .aload_n 0, 1), (6, .putfield 7, 3), (9, .aload_n 0, 1), (10, .getstatic 13, 3), (13, .putfield 17, 3), (16, .aload_n 0, 1), (17, .getstatic 20, 3), (20, .putfield 24, 3), (23, .aload_n 0, 1), (24, .invokevirtual 27, 3), (27, .pop, 1), (28, .return_, 1)]
def M_199 : mI := (⟨"java/lang/Throwable", "<init>", "()V"⟩, prog_31_method_1_code, 1, 0, none, [], [(1, 4, 0, 0)], [], Kk_199)
def Kk_200 : List (Nat × Instr × Nat) := [(0, .aload_n 0, 1), (1, .aload_n 1, 1), (2, .invokespecial 7, 3), (5, .return_, 1)]
def M_200 : mI := (⟨"java/lang/IllegalArgumentException", "<init>", "(Ljava/lang/String;)V"⟩, prog_19_method_2_code, 2, 1, none, [], [(7, 0, 201, 0)], [], Kk_200)
def Kk_201 : List (Nat × Instr × Nat) := [(0, .aload_n 0, 1), (1, .aload_n 1, 1), (2, .invokespecial 7, 3), (5, .return_, 1)]
def M_201 : mI := (⟨"java/lang/RuntimeException", "<init>", "(Ljava/lang/String;)V"⟩, prog_24_method_2_code, 2, 1, none, [], [(7, 0, 202, 0)], [], Kk_201)
def Kk_202 : List (Nat × Instr × Nat) := [(0, .aload_n 0, 1), (1, .aload_n 1, 1), (2, .invokespecial 7, 3), (5, .return_, 1)]
def M_202 : mI := (⟨"java/lang/Exception", "<init>", "(Ljava/lang/String;)V"⟩, prog_18_method_2_code, 2, 1, none, [], [(7, 0, 203, 0)], [], Kk_202)
def Kk_203 : List (Nat × Instr × Nat) := [(0, .aload_n 0, 1), (1, .invokespecial 1, 3), (4, .aload_n 0, 1), (5, .aload_n 0, 1), (6, .putfield 7, 3), (9, .aload_n 0, 1), (10, .getstatic 13, 3), (13, .putfield 17, 3), (16, .aload_n 0, 1), (17, .getstatic 20, 3), (20, .putfield 24, 3), (23, .aload_n 0, 1), (24, .invokevirtual 27, 3), (27, .pop, 1), (28, .aload_n 0, 1), (29, .aload_n 1, 1), (30, .putfield 31, 3), (33, .return_, 1)]
def M_203 : mI := (⟨"java/lang/Throwable", "<init>", "(Ljava/lang/String;)V"⟩, prog_31_method_2_code, 2, 1, none, [], [(1, 4, 0, 0)], [], Kk_203)
def Kk_204 : List (Nat × Instr × Nat) := [(0, .iload_n 2, 1), (1, .newarray .byte, 2), (3, .astore_n 3, 1), (4, .aload_n 0, 1), (5, .iload_n 1, 1), (6, .aload_n 3, 1), (7, .iconst 0, 1), (8, .iload_n 2, 1), (9, .invokestatic 123, 3), (12, .istore 4, 2), (14, .iload 4, 2), (16, .iload_n 2, 1), (17, .if_icmp .eq 47, 3), (20, .aload_n 0, 1), (21, .iload_n 1, 1), (22, .iconst 1, 1), (23, .ishl, 1), (24, .iload_n 1, 1), (25, .iload_n 2, 1), (26, .iadd, 1), (27, .invokestatic 11, 3), (30, .invokestatic 126, 3), (33, .astore 5, 2), (35, .aload 5, 2), (37, .iload 4, 2), (39, .invokestatic 71, 3), (42, .sipush 255, 3), (45, .if_icmp .gt 16, 3), (48, .aload 5, 2), (50, .iconst 0, 1), (51, .aload_n 3, 1), (52, .iconst 0, 1), (53, .iload_n 2, 1), (54, .invokestatic 123, 3), (57, .iload_n 2, 1), (58, .if_icmp .eq 6, 3), (61, .aload 5, 2), (63, .areturn, 1), (64, .aload_n 3, 1), (65, .areturn, 1)]
def M_204 : mI := (⟨"java/lang/StringUTF16", "compress", "([BII)[B"⟩, prog_29_method_17_code, 6, 3, (some (FieldType.array FieldType.byte)), [], [(11, 2, 8, 0), (71, 2, 34, 0), (123, 2, 205, 0), (126, 2, 196, 0)], [], Kk_204)
def Kk_205 : List (Nat × Instr × Nat) := [(0, .iload_n 1, 1), (1, .iload 4, 2), (3, .aload_n 0, 1), (4, .invokestatic 173, 3), (7, .iconst 0, 1), (8, .istore 5, 2), (10, .iload 5, 2), (12, .iload 4, 2), (14, .if_icmp .ge 39, 3), (17, .aload_n 0, 1), (18, .iload_n 1, 1), (19, .invokestatic 71, 3), (22, .istore 6, 2), (24, .iload 6, 2), (26, .sipush 255, 3), (29, .if_icmp .le 6, 3), (32, .iload 5, 2), (34, .ireturn, 1), (35, .aload_n 2, 1), (36, .iload_n 3, 1), (37, .iload 6, 2), (39, .i2b, 1), (40, .bastore, 1), (41, .iinc 1 1, 3), (44, .iinc 3 1, 3), (47, .iinc 5 1, 3), (50, .goto (-40), 3), (53, .iload 4, 2), (55, .ireturn, 1)]
def M_205 : mI := (⟨"java/lang/StringUTF16", "compress", "([BI[BII)I"⟩, prog_29_method_22_code, 7, 5, (some FieldType.int), [], [(71, 2, 34, 0), (173, 2, 180, 0)], [], Kk_205)
def Kk_206 : List (Nat × Instr × Nat) := [(0, .iload_n 1, 1), (1, .aload_n 0, 1), (2, .arraylength, 1), (3, .isub, 1), (4, .bipush 31, 2), (6, .iushr, 1), (7, .i2b, 1), (8, .ireturn, 1)]
def M_206 : mI := (⟨"java/lang/StringUTF16", "coderFromArrayLen", "([BI)B"⟩, prog_29_method_15_code, 2, 2, (some FieldType.byte), [], [], [], Kk_206)
def Kk_207 : List (Nat × Instr × Nat) := [(0, .aload_n 0, 1), (1, .aload_n 1, 1), (2, .invokespecial 7, 3), (5, .return_, 1)]
def M_207 : mI := (⟨"java/lang/IndexOutOfBoundsException", "<init>", "(Ljava/lang/String;)V"⟩, prog_20_method_2_code, 2, 1, none, [], [(7, 0, 201, 0)], [], Kk_207)
def Kk_208 : List (Nat × Instr × Nat) := [(0, .aload_n 0, 1), (1, .iload_n 1, 1), (2, .iload_n 2, 1), (3, .iconst 0, 1), (4, .invokestatic 236, 3), (7, .return_, 1)]
def M_208 : mI := (⟨"java/lang/StringLatin1", "fillNull", "([BII)V"⟩, prog_28_method_48_code, 3, 3, none, [], [(236, 2, 209, 0)], [], Kk_208)
def Kk_209 : List (Nat × Instr × Nat) := [(0, .aload_n 0, 1), (1, .arraylength, 1), (2, .iload_n 1, 1), (3, .iload_n 2, 1), (4, .invokestatic 13, 3), (7, .iload_n 1, 1), (8, .istore 4, 2), (10, .iload 4, 2), (12, .iload_n 2, 1), (13, .if_icmp .ge 14, 3), (16, .aload_n 0, 1), (17, .iload 4, 2), (19, .iload_n 3, 1), (20, .bastore, 1), (21, .iinc 4 1, 3), (24, .goto (-14), 3), (27, .return_, 1)]
def M_209 : mI := (⟨"java/util/Arrays", "fill", "([BIIB)V"⟩, prog_35_method_110_code, 5, 4, none, [], [(13, 2, 210, 0)], [], Kk_209)
def Kk_210 : List (Nat × Instr × Nat) := [(0, .iload_n 1, 1), (1, .iload_n 2, 1), (2, .if_icmp .le 44, 3), (5, .new 43, 3), (8, .dup, 1), (9, .new 45, 3), (12, .dup, 1), (13, .invokespecial 47, 3), (16, .ldc 48, 2), (18, .invokevirtual 50, 3), (21, .iload_n 1, 1), (22, .invokevirtual 54, 3), (25, .ldc 57, 2), (27, .invokevirtual 50, 3), (30, .iload_n 2, 1), (31, .invokevirtual 54, 3), (34, .ldc 59, 2), (36, .invokevirtual 50, 3), (39, .invokevirtual 61, 3), (42, .invokespecial 65, 3), (45, .athrow, 1), (46, .iload_n 1, 1), (47, .ifCond .ge 12, 3), (50, .new 68, 3), (53, .dup, 1), (54, .iload_n 1, 1), (55, .invokespecial 70, 3), (58, .athrow, 1), (59, .iload_n 2, 1), (60, .iload_n 0, 1), (61, .if_icmp .le 12, 3), (64, .new 68, 3), (67, .dup, 1), (68, .iload_n 2, 1), (69, .invokespecial 70, 3), (72, .athrow, 1), (73, .return_, 1)]
def M_210 : mI := (⟨"java/util/Arrays", "rangeCheck", "(III)V"⟩, prog_35_method_30_code, 3, 3, none, [], [(47, 0, 5, 0), (50, 1, 163, 3), (54, 1, 184, 3), (61, 1, 190, 3), (65, 0, 200, 0), (70, 0, 211, 0)], [(45, 0, 3, .null), (48, 5, 107, .null), (57, 5, 108, .null), (59, 5, 109, .null)], Kk_210)
def Kk_211 : List (Nat × Instr × Nat) := [(0, .aload_n 0, 1), (1, .new 10, 3), (4, .dup, 1), (5, .invokespecial 12, 3), (8, .ldc 13, 2), (10, .invokevirtual 15, 3), (13, .iload_n 1, 1), (14, .invokevirtual 19, 3), (17, .invokevirtual 22, 3), (20, .invokespecial 7, 3), (23, .return_, 1)]
def M_211 : mI := (⟨"java/lang/ArrayIndexOutOfBoundsException", "<init>", "(I)V"⟩, prog_16_method_3_code, 2, 1, none, [], [(7, 0, 207, 0), (12, 0, 5, 0), (15, 1, 163, 3), (19, 1, 184, 3), (22, 1, 190, 3)], [(10, 0, 3, .null), (13, 5, 105, .null)], Kk_211)
def Kk_212 : List (Nat × Instr × Nat) := [(0, .aload_n 0, 1), (1, .iload_n 1, 1), (2, .iconst 1, 1), (3, .ishl, 1), (4, .iload_n 2, 1), (5, .iconst 1, 1), (6, .ishl, 1), (7, .iconst 0, 1), (8, .invokestatic 380, 3), (11, .return_, 1)]
def M_212 : mI := (⟨"java/lang/StringUTF16", "fillNull", "([BII)V"⟩, prog_29_method_70_code, 3, 3, none, [], [(380, 2, 209, 0)], [], Kk_212)
def Kk_213 : List (Nat × Instr × Nat) := [(0, .aload_n 1, 1), (1, .aload_n 0, 1), (2, .getfield 84, 3), (5, .invokevirtual 102, 3), (8, .bipush 32, 2), (10, .invokevirtual 108, 3), (13, .aload_n 0, 1), (14, .invokevirtual 111, 3), (17, .invokevirtual 115, 3), (20, .bipush 10, 2), (22, .invokevirtual 108, 3), (25, .pop, 1), (26, .aload_n 0, 1), (27, .getfield 40, 3), (30, .ifCond .eq 8, 3), (33, .aload_n 0, 1), (34, .aload_n 1, 1), (35, .invokevirtual 118, 3), (38, .aload_n 1, 1), (39, .bipush 10, 2), (41, .invokevirtual 108, 3), (44, .pop, 1), (45, .aload_n 0, 1), (46, .getfield 70, 3), (49, .istore_n 2, 1), (50, .iload_n 2, 1), (51, .aload_n 0, 1), (52, .getfield 70, 3), (55, .aload_n 0, 1), (56, .getfield 87, 3), (59, .iadd, 1), (60, .if_icmp .ge 39, 3), (63, .aload_n 0, 1), (64, .getfield 29, 3), (67, .ifCond .ne 32, 3), (70, .aload_n 1, 1), (71, .aload_n 0, 1), (72, .getfield 59, 3), (75, .bipush 7, 2), (77, .iload_n 2, 1), (78, .imul, 1), (79, .iadd, 1), (80, .iload_n 2, 1), (81, .iconst 4, 1), (82, .ishr, 1), (83, .iadd, 1), (84, .sipush 255, 3), (87, .iand, 1), (88, .i2c, 1), (89, .invokevirtual 108, 3), (92, .pop, 1), (93, .iinc 2 1, 3), (96, .goto (-46), 3), (99, .return_, 1)]
def M_213 : mI := (⟨"EdgeHouse$Reply", "render", "(Ljava/lang/StringBuilder;)V"⟩, prog_8_method_4_code, 3, 1, none, [(29, 8, 2, 1), (40, 8, 3, 1), (59, 8, 11, 1), (70, 8, 9, 1), (84, 8, 1, 1), (87, 8, 10, 1)], [(102, 1, 184, 3), (108, 1, 214, 3), (111, 1, 218, 8), (115, 1, 163, 3), (118, 1, 219, 8)], [], Kk_213)
def Kk_214 : List (Nat × Instr × Nat) := [(0, .aload_n 0, 1), (1, .iload_n 1, 1), (2, .invokespecial 50, 3), (5, .pop, 1), (6, .aload_n 0, 1), (7, .areturn, 1)]
def M_214 : mI := (⟨"java/lang/StringBuilder", "append", "(C)Ljava/lang/StringBuilder;"⟩, prog_26_method_14_code, 2, 1, (some (FieldType.object "java/lang/StringBuilder")), [], [], [], Kk_214)
def Kk_215 : List (Nat × Instr × Nat) := [(0, .aload_n 0, 1), (1, .aload_n 0, 1), (2, .getfield 79, 3), (5, .iconst 1, 1), (6, .iadd, 1), (7, .invokevirtual 100, 3), (10, .aload_n 0, 1), (11, .invokevirtual 83, 3), (14, .ifCond .eq 31, 3), (17, .iload_n 1, 1), (18, .invokestatic 191, 3), (21, .ifCond .eq 24, 3), (24, .aload_n 0, 1), (25, .getfield 15, 3), (28, .aload_n 0, 1), (29, .dup, 1), (30, .getfield 79, 3), (33, .dup_x1, 1), (34, .iconst 1, 1), (35, .iadd, 1), (36, .putfield 79, 3), (39, .iload_n 1, 1), (40, .i2b, 1), (41, .bastore, 1), (42, .goto 33, 3), (45, .aload_n 0, 1), (46, .invokevirtual 83, 3), (49, .ifCond .eq 7, 3), (52, .aload_n 0, 1), (53, .invokevirtual 195, 3), (56, .aload_n 0, 1), (57, .getfield 15, 3), (60, .aload_n 0, 1), (61, .dup, 1), (62, .getfield 79, 3), (65, .dup_x1, 1), (66, .iconst 1, 1), (67, .iadd, 1), (68, .putfield 79, 3), (71, .iload_n 1, 1), (72, .invokestatic 197, 3), (75, .aload_n 0, 1), (76, .areturn, 1)]
def M_215 : mI := (⟨"java/lang/AbstractStringBuilder", "append", "(C)Ljava/lang/AbstractStringBuilder;"⟩, prog_15_method_31_code, 2, 1, (some (FieldType.object "java/lang/AbstractStringBuilder")), [(15, 3, 0, 1), (79, 3, 3, 1)], [(191, 2, 216, 0), (197, 2, 217, 0)], [], Kk_215)
def Kk_216 : List (Nat × Instr × Nat) := [(0, .iload_n 0, 1), (1, .sipush 255, 3), (4, .if_icmp .gt 7, 3), (7, .iconst 1, 1), (8, .goto 4, 3), (11, .iconst 0, 1), (12, .ireturn, 1)]
def M_216 : mI := (⟨"java/lang/StringLatin1", "canEncode", "(C)Z"⟩, prog_28_method_3_code, 1, 1, (some FieldType.boolean), [], [], [], Kk_216)
def Kk_217 : List (Nat × Instr × Nat) := [(0, .iload_n 1, 1), (1, .aload_n 0, 1), (2, .invokestatic 67, 3), (5, .aload_n 0, 1), (6, .iload_n 1, 1), (7, .iload_n 2, 1), (8, .invokestatic 111, 3), (11, .return_, 1)]
def M_217 : mI := (⟨"java/lang/StringUTF16", "putCharSB", "([BII)V"⟩, prog_29_method_71_code, 3, 3, none, [], [(67, 2, 32, 0), (111, 2, 174, 0)], [], Kk_217)
def Kk_218 : List (Nat × Instr × Nat) := [(0, .aload_n 0, 1), (1, .getfield 84, 3), (4, .lookupswitch 100 #[(200, 76), (206, 79), (304, 82), (400, 85), (404, 88), (416, 91), (502, 94), (503, 97)], 76), (80, .ldc 150, 2), (82, .areturn, 1), (83, .ldc 152, 2), (85, .areturn, 1), (86, .ldc 154, 2), (88, .areturn, 1), (89, .ldc 156, 2), (91, .areturn, 1), (92, .ldc 158, 2), (94, .areturn, 1), (95, .ldc 160, 2), (97, .areturn, 1), (98, .ldc 162, 2), (100, .areturn, 1), (101, .ldc 164, 2), (103, .areturn, 1), (104, .ldc 166, 2), (106, .areturn, 1)]
def M_218 : mI := (⟨"EdgeHouse$Reply", "words", "()Ljava/lang/String;"⟩, prog_8_method_6_code, 1, 0, (some (FieldType.object "java/lang/String")), [(84, 8, 1, 1)], [], [(150, 5, 46, .null), (152, 5, 47, .null), (154, 5, 48, .null), (156, 5, 49, .null), (158, 5, 50, .null), (160, 5, 51, .null), (162, 5, 52, .null), (164, 5, 53, .null), (166, 5, 54, .null)], Kk_218)
def Kk_219 : List (Nat × Instr × Nat) := [(0, .aload_n 1, 1), (1, .ldc 122, 2), (3, .invokevirtual 115, 3), (6, .bipush 8, 2), (8, .aload_n 0, 1), (9, .getfield 40, 3), (12, .imul, 1), (13, .aload_n 0, 1), (14, .getfield 44, 3), (17, .iadd, 1), (18, .invokevirtual 102, 3), (21, .ldc 124, 2), (23, .invokevirtual 115, 3), (26, .pop, 1), (27, .aload_n 1, 1), (28, .ldc 126, 2), (30, .invokevirtual 115, 3), (33, .aload_n 0, 1), (34, .getfield 90, 3), (37, .invokevirtual 102, 3), (40, .bipush 10, 2), (42, .invokevirtual 108, 3), (45, .pop, 1), (46, .aload_n 1, 1), (47, .ldc 128, 2), (49, .invokevirtual 115, 3), (52, .aload_n 0, 1), (53, .getfield 93, 3), (56, .iconst 1, 1), (57, .if_icmp .ne 8, 3), (60, .ldc 130, 2), (62, .goto 18, 3), (65, .aload_n 0, 1), (66, .getfield 93, 3), (69, .iconst 2, 1), (70, .if_icmp .ne 8, 3), (73, .ldc 132, 2), (75, .goto 5, 3), (78, .ldc 134, 2), (80, .invokevirtual 115, 3), (83, .bipush 10, 2), (85, .invokevirtual 108, 3), (88, .pop, 1), (89, .aload_n 0, 1), (90, .getfield 48, 3), (93, .ifCond .eq 73, 3), (96, .aload_n 1, 1), (97, .ldc 136, 2), (99, .invokevirtual 115, 3), (102, .aload_n 0, 1), (103, .getfield 48, 3), (106, .iconst 1, 1), (107, .iand, 1), (108, .ifCond .eq 8, 3), (111, .ldc 138, 2), (113, .goto 5, 3), (116, .ldc 9, 2), (118, .invokevirtual 115, 3), (121, .pop, 1), (122, .aload_n 1, 1), (123, .aload_n 0, 1), (124, .getfield 48, 3), (127, .iconst 3, 1), (128, .if_icmp .ne 8, 3), (131, .ldc 140, 2), (133, .goto 5, 3), (136, .ldc 9, 2), (138, .invokevirtual 115, 3), (141, .aload_n 0, 1), (142, .getfield 48, 3), (145, .iconst 2, 1), (146, .iand, 1), (147, .ifCond .eq 8, 3), (150, .ldc 142, 2), (152, .goto 5, 3), (155, .ldc 9, 2), (157, .invokevirtual 115, 3), (160, .bipush 10, 2), (162, .invokevirtual 108, 3), (165, .pop, 1), (166, .aload_n 0, 1), (167, .getfield 84, 3), (170, .sipush 206, 3), (173, .if_icmp .ne 55, 3), (176, .aload_n 1, 1), (177, .ldc 144, 2), (179, .invokevirtual 115, 3), (182, .aload_n 0, 1), (183, .getfield 70, 3), (186, .invokevirtual 102, 3), (189, .bipush 45, 2), (191, .invokevirtual 108, 3), (194, .aload_n 0, 1), (195, .getfield 70, 3), (198, .aload_n 0, 1), (199, .getfield 87, 3), (202, .iadd, 1), (203, .iconst 1, 1), (204, .isub, 1), (205, .invokevirtual 102, 3), (208, .pop, 1), (209, .aload_n 1, 1), (210, .bipush 47, 2), (212, .invokevirtual 108, 3), (215, .aload_n 0, 1), (216, .getfield 52, 3), (219, .invokevirtual 102, 3), (222, .bipush 10, 2), (224, .invokevirtual 108, 3), (227, .pop, 1), (228, .aload_n 0, 1), (229, .getfield 84, 3), (232, .sipush 416, 3), (235, .if_icmp .ne 22, 3), (238, .aload_n 1, 1), (239, .ldc 146, 2), (241, .invokevirtual 115, 3), (244, .aload_n 0, 1), (245, .getfield 52, 3), (248, .invokevirtual 102, 3), (251, .bipush 10, 2), (253, .invokevirtual 108, 3), (256, .pop, 1), (257, .aload_n 0, 1), (258, .getfield 84, 3), (261, .sipush 200, 3), (264, .if_icmp .eq 13, 3), (267, .aload_n 0, 1), (268, .getfield 84, 3), (271, .sipush 206, 3), (274, .if_icmp .ne 22, 3), (277, .aload_n 1, 1), (278, .ldc 148, 2), (280, .invokevirtual 115, 3), (283, .aload_n 0, 1), (284, .getfield 87, 3), (287, .invokevirtual 102, 3), (290, .bipush 10, 2), (292, .invokevirtual 108, 3), (295, .pop, 1), (296, .return_, 1)]
def M_219 : mI := (⟨"EdgeHouse$Reply", "renderLines", "(Ljava/lang/StringBuilder;)V"⟩, prog_8_method_5_code, 2, 1, none, [(40, 8, 3, 1), (44, 8, 4, 1), (48, 8, 5, 1), (52, 8, 8, 1), (70, 8, 9, 1), (84, 8, 1, 1), (87, 8, 10, 1), (90, 8, 6, 1), (93, 8, 7, 1)], [(102, 1, 184, 3), (108, 1, 214, 3), (115, 1, 163, 3)], [(9, 5, 31, .null), (122, 5, 32, .null), (124, 5, 33, .null), (126, 5, 34, .null), (128, 5, 35, .null), (130, 5, 36, .null), (132, 5, 37, .null), (134, 5, 38, .null), (136, 5, 39, .null), (138, 5, 40, .null), (140, 5, 41, .null), (142, 5, 42, .null), (144, 5, 43, .null), (146, 5, 44, .null), (148, 5, 45, .null)], Kk_219)
def Kk_220 : List (Nat × Instr × Nat) := [(0, .iload_n 1, 1), (1, .invokestatic 181, 3), (4, .ifCond .eq 13, 3), (7, .iload_n 2, 1), (8, .ifCond .lt 9, 3), (11, .iload_n 2, 1), (12, .bipush 12, 2), (14, .if_icmp .le 5, 3), (17, .iconst (-1), 1), (18, .ireturn, 1), (19, .aload_n 0, 1), (20, .getfield 28, 3), (23, .iload_n 1, 1), (24, .aaload, 1), (25, .iload_n 2, 1), (26, .aload_n 0, 1), (27, .getfield 174, 3), (30, .invokevirtual 247, 3), (33, .ireturn, 1)]
def M_220 : mI := (⟨"EdgeHouse", "node", "(II)I"⟩, prog_1_method_17_code, 3, 2, (some FieldType.int), [(28, 0, 3, 0), (174, 0, 14, 1)], [(181, 2, 131, 0), (247, 1, 221, 4)], [], Kk_220)
def Kk_221 : List (Nat × Instr × Nat) := [(0, .iload_n 1, 1), (1, .tableswitch 193 0 12 #[67, 80, 88, 118, 129, 134, 139, 147, 152, 157, 157, 167, 167], 67), (68, .aload_n 0, 1), (69, .getfield 36, 3), (72, .ifCond .eq 7, 3), (75, .iconst 1, 1), (76, .goto 4, 3), (79, .iconst 0, 1), (80, .ireturn, 1), (81, .aload_n 0, 1), (82, .getfield 12, 3), (85, .invokevirtual 86, 3), (88, .ireturn, 1), (89, .aload_n 0, 1), (90, .getfield 12, 3), (93, .aload_n 0, 1), (94, .getfield 12, 3), (97, .getfield 89, 3), (100, .invokevirtual 92, 3), (103, .aload_n 0, 1), (104, .getfield 12, 3), (107, .aload_n 0, 1), (108, .getfield 12, 3), (111, .getfield 96, 3), (114, .invokevirtual 92, 3), (117, .iadd, 1), (118, .ireturn, 1), (119, .aload_n 0, 1), (120, .getfield 12, 3), (123, .getfield 96, 3), (126, .invokevirtual 44, 3), (129, .ireturn, 1), (130, .aload_n 0, 1), (131, .getfield 99, 3), (134, .ireturn, 1), (135, .aload_n 0, 1), (136, .getfield 102, 3), (139, .ireturn, 1), (140, .aload_n 0, 1), (141, .getfield 21, 3), (144, .invokevirtual 44, 3), (147, .ireturn, 1), (148, .aload_n 0, 1), (149, .invokevirtual 105, 3), (152, .ireturn, 1), (153, .aload_n 0, 1), (154, .getfield 66, 3), (157, .ireturn, 1), (158, .aload_n 0, 1), (159, .getfield 29, 3), (162, .iload_n 1, 1), (163, .bipush 8, 2), (165, .isub, 1), (166, .iaload, 1), (167, .ireturn, 1), (168, .aload_n 0, 1), (169, .iload_n 1, 1), (170, .bipush 10, 2), (172, .isub, 1), (173, .iload_n 2, 1), (174, .invokevirtual 107, 3), (177, .ifCond .eq 15, 3), (180, .aload_n 0, 1), (181, .getfield 33, 3), (184, .iload_n 1, 1), (185, .bipush 10, 2), (187, .isub, 1), (188, .iaload, 1), (189, .goto 4, 3), (192, .iconst 0, 1), (193, .ireturn, 1), (194, .iconst (-1), 1), (195, .ireturn, 1)]
def M_221 : mI := (⟨"EdgeHouse$Node", "tell", "(II)I"⟩, prog_6_method_11_code, 3, 2, (some FieldType.int), [(12, 4, 1, 0), (21, 4, 2, 0), (29, 4, 4, 0), (33, 4, 5, 0), (36, 4, 6, 1), (66, 4, 7, 1), (89, 5, 0, 0), (96, 5, 1, 0), (99, 4, 8, 1), (102, 4, 9, 1)], [(44, 1, 17, 2), (86, 1, 75, 5), (92, 1, 98, 5), (105, 1, 222, 4), (107, 1, 72, 4)], [], Kk_221)
def Kk_222 : List (Nat × Instr × Nat) := [(0, .iconst 0, 1), (1, .istore_n 1, 1), (2, .iconst 0, 1), (3, .istore_n 2, 1), (4, .iload_n 2, 1), (5, .aload_n 0, 1), (6, .getfield 21, 3), (9, .invokevirtual 44, 3), (12, .if_icmp .ge 26, 3), (15, .iload_n 1, 1), (16, .aload_n 0, 1), (17, .getfield 21, 3), (20, .iload_n 2, 1), (21, .invokevirtual 48, 3), (24, .checkcast 52, 3), (27, .getfield 83, 3), (30, .iadd, 1), (31, .istore_n 1, 1), (32, .iinc 2 1, 3), (35, .goto (-31), 3), (38, .iload_n 1, 1), (39, .ireturn, 1)]
def M_222 : mI := (⟨"EdgeHouse$Node", "waiting", "()I"⟩, prog_6_method_10_code, 3, 0, (some FieldType.int), [(21, 4, 2, 0), (83, 10, 11, 1)], [(44, 1, 17, 2), (48, 1, 77, 2)], [(52, 6, 10, .null)], Kk_222)
def Kk_223 : List (Nat × Instr × Nat) := [(0, .iload_n 1, 1), (1, .invokestatic 181, 3), (4, .ifCond .ne 5, 3), (7, .iconst (-1), 1), (8, .ireturn, 1), (9, .aload_n 0, 1), (10, .getfield 28, 3), (13, .iload_n 1, 1), (14, .aaload, 1), (15, .getfield 208, 3), (18, .astore 6, 2), (20, .aload 6, 2), (22, .iload_n 2, 1), (23, .iload_n 3, 1), (24, .iload 4, 2), (26, .invokevirtual 249, 3), (29, .astore 7, 2), (31, .aload 7, 2), (33, .ifnonnull 5, 3), (36, .iconst (-1), 1), (37, .ireturn, 1), (38, .iload 5, 2), (40, .iconst 5, 1), (41, .if_icmp .ne 11, 3), (44, .aload 6, 2), (46, .aload 7, 2), (48, .invokevirtual 253, 3), (51, .ireturn, 1), (52, .aload 7, 2), (54, .iload 5, 2), (56, .aload_n 0, 1), (57, .getfield 174, 3), (60, .invokevirtual 257, 3), (63, .ireturn, 1)]
def M_223 : mI := (⟨"EdgeHouse", "entry", "(IIIII)I"⟩, prog_1_method_18_code, 8, 5, (some FieldType.int), [(28, 0, 3, 0), (174, 0, 14, 1), (208, 4, 1, 0)], [(181, 2, 131, 0), (249, 1, 144, 5), (253, 1, 94, 5), (257, 1, 224, 11)], [], Kk_223)
def Kk_224 : List (Nat × Instr × Nat) := [(0, .iload_n 1, 1), (1, .bipush 16, 2), (3, .if_icmp .lt 21, 3), (6, .iload_n 1, 1), (7, .bipush 32, 2), (9, .if_icmp .ge 15, 3), (12, .aload_n 0, 1), (13, .getfield 68, 3), (16, .iload_n 1, 1), (17, .bipush 16, 2), (19, .isub, 1), (20, .ishr, 1), (21, .iconst 1, 1), (22, .iand, 1), (23, .ireturn, 1), (24, .iload_n 1, 1), (25, .tableswitch 91 0 6 #[43, 51, 57, 65, 70, 91, 83], 43), (68, .aload_n 0, 1), (69, .getfield 18, 3), (72, .getfield 59, 3), (75, .ireturn, 1), (76, .aload_n 0, 1), (77, .iload_n 2, 1), (78, .invokevirtual 77, 3), (81, .ireturn, 1), (82, .aload_n 0, 1), (83, .getfield 68, 3), (86, .invokestatic 71, 3), (89, .ireturn, 1), (90, .aload_n 0, 1), (91, .getfield 49, 3), (94, .ireturn, 1), (95, .aload_n 0, 1), (96, .getfield 80, 3), (99, .ifCond .eq 7, 3), (102, .iconst 1, 1), (103, .goto 4, 3), (106, .iconst 0, 1), (107, .ireturn, 1), (108, .aload_n 0, 1), (109, .getfield 18, 3), (112, .getfield 84, 3), (115, .ireturn, 1), (116, .iconst (-1), 1), (117, .ireturn, 1)]
def M_224 : mI := (⟨"EdgeHouse$Entry", "tell", "(II)I"⟩, prog_3_method_8_code, 3, 2, (some FieldType.int), [(18, 11, 2, 0), (49, 11, 4, 1), (59, 13, 1, 1), (68, 11, 7, 1), (80, 11, 8, 1), (84, 13, 9, 1)], [(71, 2, 100, 0), (77, 1, 83, 11)], [], Kk_224)
def Kk_225 : List (Nat × Instr × Nat) := [(0, .iload_n 1, 1), (1, .ifCond .lt 14, 3), (4, .iload_n 1, 1), (5, .aload_n 0, 1), (6, .getfield 44, 3), (9, .invokevirtual 94, 3), (12, .if_icmp .lt 5, 3), (15, .iconst (-1), 1), (16, .ireturn, 1), (17, .aload_n 0, 1), (18, .getfield 44, 3), (21, .iload_n 1, 1), (22, .invokevirtual 187, 3), (25, .checkcast 141, 3), (28, .iload_n 2, 1), (29, .invokevirtual 260, 3), (32, .ireturn, 1)]
def M_225 : mI := (⟨"EdgeHouse", "message", "(II)I"⟩, prog_1_method_19_code, 3, 2, (some FieldType.int), [(44, 0, 7, 0)], [(94, 1, 17, 2), (187, 1, 77, 2), (260, 1, 226, 9)], [(141, 6, 9, .null)], Kk_225)
def Kk_226 : List (Nat × Instr × Nat) := [(0, .iload_n 1, 1), (1, .tableswitch 183 0 11 #[63, 68, 73, 78, 83, 88, 93, 113, 133, 138, 151, 156], 63), (64, .aload_n 0, 1), (65, .getfield 9, 3), (68, .ireturn, 1), (69, .aload_n 0, 1), (70, .getfield 15, 3), (73, .ireturn, 1), (74, .aload_n 0, 1), (75, .getfield 18, 3), (78, .ireturn, 1), (79, .aload_n 0, 1), (80, .getfield 21, 3), (83, .ireturn, 1), (84, .aload_n 0, 1), (85, .getfield 29, 3), (88, .ireturn, 1), (89, .aload_n 0, 1), (90, .getfield 33, 3), (93, .ireturn, 1), (94, .aload_n 0, 1), (95, .getfield 9, 3), (98, .iconst 1, 1), (99, .if_icmp .ne 10, 3), (102, .aload_n 0, 1), (103, .getfield 70, 3), (106, .goto 7, 3), (109, .aload_n 0, 1), (110, .getfield 45, 3), (113, .ireturn, 1), (114, .aload_n 0, 1), (115, .getfield 9, 3), (118, .iconst 1, 1), (119, .if_icmp .ne 10, 3), (122, .aload_n 0, 1), (123, .invokevirtual 73, 3), (126, .goto 7, 3), (129, .aload_n 0, 1), (130, .getfield 49, 3), (133, .ireturn, 1), (134, .aload_n 0, 1), (135, .getfield 58, 3), (138, .ireturn, 1), (139, .aload_n 0, 1), (140, .getfield 54, 3), (143, .ifCond .eq 7, 3), (146, .iconst 1, 1), (147, .goto 4, 3), (150, .iconst 0, 1), (151, .ireturn, 1), (152, .aload_n 0, 1), (153, .getfield 76, 3), (156, .ireturn, 1), (157, .aload_n 0, 1), (158, .getfield 9, 3), (161, .iconst 1, 1), (162, .if_icmp .ne 10, 3), (165, .aload_n 0, 1), (166, .getfield 79, 3), (169, .goto 14, 3), (172, .aload_n 0, 1), (173, .getfield 37, 3), (176, .iconst 4, 1), (177, .aload_n 0, 1), (178, .getfield 41, 3), (181, .imul, 1), (182, .iadd, 1), (183, .ireturn, 1), (184, .iconst (-1), 1), (185, .ireturn, 1)]
def M_226 : mI := (⟨"EdgeHouse$Message", "tell", "(I)I"⟩, prog_5_method_4_code, 2, 1, (some FieldType.int), [(9, 9, 0, 0), (15, 9, 1, 0), (18, 9, 2, 0), (21, 9, 3, 0), (29, 9, 4, 1), (33, 9, 5, 1), (37, 9, 6, 1), (41, 9, 7, 1), (45, 9, 8, 1), (49, 9, 9, 1), (54, 9, 10, 1), (58, 9, 13, 1), (70, 9, 12, 1), (76, 9, 11, 1), (79, 9, 14, 1)], [(73, 1, 227, 9)], [], Kk_226)
def Kk_227 : List (Nat × Instr × Nat) := [(0, .aload_n 0, 1), (1, .getfield 61, 3), (4, .ifnonnull 7, 3), (7, .iconst 0, 1), (8, .goto 10, 3), (11, .aload_n 0, 1), (12, .getfield 61, 3), (15, .getfield 65, 3), (18, .ireturn, 1)]
def M_227 : mI := (⟨"EdgeHouse$Message", "version", "()I"⟩, prog_5_method_3_code, 1, 0, (some FieldType.int), [(61, 9, 15, 1), (65, 13, 1, 1)], [], [], Kk_227)
def Kk_228 : List (Nat × Instr × Nat) := [(0, .iload_n 1, 1), (1, .tableswitch 84 0 6 #[43, 51, 56, 64, 69, 74, 79], 43), (44, .aload_n 0, 1), (45, .getfield 44, 3), (48, .invokevirtual 94, 3), (51, .ireturn, 1), (52, .aload_n 0, 1), (53, .getfield 154, 3), (56, .ireturn, 1), (57, .aload_n 0, 1), (58, .getfield 48, 3), (61, .invokevirtual 94, 3), (64, .ireturn, 1), (65, .aload_n 0, 1), (66, .getfield 261, 3), (69, .ireturn, 1), (70, .aload_n 0, 1), (71, .getfield 147, 3), (74, .ireturn, 1), (75, .aload_n 0, 1), (76, .getfield 157, 3), (79, .ireturn, 1), (80, .aload_n 0, 1), (81, .getfield 174, 3), (84, .ireturn, 1), (85, .iconst (-1), 1), (86, .ireturn, 1)]
def M_228 : mI := (⟨"EdgeHouse", "total", "(I)I"⟩, prog_1_method_20_code, 2, 1, (some FieldType.int), [(44, 0, 7, 0), (48, 0, 8, 0), (147, 0, 11, 1), (154, 0, 13, 1), (157, 0, 12, 1), (174, 0, 14, 1), (261, 0, 10, 1)], [(94, 1, 17, 2)], [], Kk_228)
def Kk_229 : List (Nat × Instr × Nat) := [(0, .aload_n 0, 1), (1, .getfield 10, 3), (4, .invokevirtual 69, 3), (7, .astore_n 1, 1), (8, .aload_n 0, 1), (9, .getfield 10, 3), (12, .invokevirtual 73, 3), (15, .aload_n 1, 1), (16, .ifnull 13, 3), (19, .aload_n 1, 1), (20, .getfield 76, 3), (23, .invokestatic 80, 3), (26, .ifCond .ne 13, 3), (29, .new 84, 3), (32, .dup, 1), (33, .ldc 86, 2), (35, .invokespecial 88, 3), (38, .athrow, 1), (39, .aload_n 0, 1), (40, .getfield 22, 3), (43, .aload_n 1, 1), (44, .getfield 76, 3), (47, .dup2, 1), (48, .iaload, 1), (49, .iconst 1, 1), (50, .iadd, 1), (51, .iastore, 1), (52, .aload_n 1, 1), (53, .aload_n 0, 1), (54, .getfield 22, 3), (57, .aload_n 1, 1), (58, .getfield 76, 3), (61, .iaload, 1), (62, .putfield 91, 3), (65, .aload_n 0, 1), (66, .getfield 18, 3), (69, .aload_n 1, 1), (70, .getfield 76, 3), (73, .aload_n 1, 1), (74, .aastore, 1), (75, .aload_n 1, 1), (76, .getfield 91, 3), (79, .ireturn, 1)]
def M_229 : mI := (⟨"EdgeHouse", "update", "()I"⟩, prog_1_method_3_code, 2, 0, (some FieldType.int), [(10, 0, 0, 0), (18, 0, 1, 0), (22, 0, 2, 0), (76, 13, 0, 1), (91, 13, 1, 1)], [(69, 1, 230, 1), (73, 1, 60, 1), (80, 2, 15, 0), (88, 0, 200, 0)], [(86, 5, 1, .null)], Kk_229)
def Kk_230 : List (Nat × Instr × Nat) := [(0, .aload_n 0, 1), (1, .invokevirtual 31, 3), (4, .aload_n 0, 1), (5, .new 34, 3), (8, .dup, 1), (9, .invokespecial 36, 3), (12, .putfield 37, 3), (15, .aload_n 0, 1), (16, .ldc 41, 2), (18, .invokevirtual 43, 3), (21, .ifCond .eq 15, 3), (24, .aload_n 0, 1), (25, .iconst 0, 1), (26, .invokevirtual 47, 3), (29, .ifCond .eq 7, 3), (32, .iconst 1, 1), (33, .goto 4, 3), (36, .iconst 0, 1), (37, .istore_n 1, 1), (38, .iconst 0, 1), (39, .istore_n 2, 1), (40, .iload_n 2, 1), (41, .sipush 300, 3), (44, .if_icmp .ge 51, 3), (47, .iload_n 1, 1), (48, .ifCond .eq 47, 3), (51, .aload_n 0, 1), (52, .invokevirtual 51, 3), (55, .bipush 10, 2), (57, .if_icmp .eq 38, 3), (60, .aload_n 0, 1), (61, .invokevirtual 55, 3), (64, .ifCond .eq 23, 3), (67, .aload_n 0, 1), (68, .invokevirtual 59, 3), (71, .ifCond .eq 16, 3), (74, .aload_n 0, 1), (75, .bipush 10, 2), (77, .invokevirtual 62, 3), (80, .ifCond .eq 7, 3), (83, .iconst 1, 1), (84, .goto 4, 3), (87, .iconst 0, 1), (88, .istore_n 1, 1), (89, .iinc 2 1, 3), (92, .goto (-52), 3), (95, .iload_n 1, 1), (96, .ifCond .eq 10, 3), (99, .aload_n 0, 1), (100, .invokevirtual 66, 3), (103, .ifCond .ne 5, 3), (106, .aconst_null, 1), (107, .areturn, 1), (108, .aload_n 0, 1), (109, .getfield 37, 3), (112, .aload_n 0, 1), (113, .getfield 69, 3), (116, .putfield 72, 3), (119, .aload_n 0, 1), (120, .getfield 37, 3), (123, .areturn, 1)]
def M_230 : mI := (⟨"EdgeHouse$Reader", "readThing", "()LEdgeHouse$Told;"⟩, prog_7_method_4_code, 3, 0, (some (FieldType.object "EdgeHouse$Told")), [(37, 1, 15, 1), (69, 1, 10, 1), (72, 13, 0, 1)], [(31, 1, 19, 1), (36, 3, 231, 0), (43, 1, 23, 1), (47, 1, 37, 1), (51, 1, 22, 1), (55, 1, 40, 1), (59, 1, 232, 1), (62, 1, 35, 1), (66, 1, 57, 1)], [(34, 0, 13, .null), (41, 5, 5, .null)], Kk_230)
def Kk_231 : List (Nat × Instr × Nat) := [(0, .aload_n 0, 1), (1, .invokespecial 1, 3), (4, .return_, 1)]
def M_231 : mI := (⟨"EdgeHouse$Told", "<init>", "()V"⟩, prog_11_method_1_code, 1, 0, none, [], [(1, 4, 0, 0)], [], Kk_231)
def Kk_232 : List (Nat × Instr × Nat) := [(0, .aload_n 0, 1), (1, .ldc 157, 2), (3, .invokevirtual 158, 3), (6, .ifCond .eq 24, 3), (9, .aload_n 0, 1), (10, .sipush 255, 3), (13, .invokevirtual 138, 3), (16, .istore_n 1, 1), (17, .aload_n 0, 1), (18, .getfield 37, 3), (21, .aload_n 0, 1), (22, .getfield 132, 3), (25, .putfield 161, 3), (28, .iload_n 1, 1), (29, .ireturn, 1), (30, .aload_n 0, 1), (31, .ldc 162, 2), (33, .invokevirtual 158, 3), (36, .ifCond .eq 9, 3), (39, .aload_n 0, 1), (40, .iconst 3, 1), (41, .invokevirtual 164, 3), (44, .ireturn, 1), (45, .aload_n 0, 1), (46, .ldc 167, 2), (48, .invokevirtual 158, 3), (51, .ifCond .eq 9, 3), (54, .aload_n 0, 1), (55, .iconst 4, 1), (56, .invokevirtual 164, 3), (59, .ireturn, 1), (60, .aload_n 0, 1), (61, .ldc 169, 2), (63, .invokevirtual 158, 3), (66, .ifCond .eq 8, 3), (69, .aload_n 0, 1), (70, .invokevirtual 171, 3), (73, .ireturn, 1), (74, .aload_n 0, 1), (75, .invokevirtual 174, 3), (78, .ireturn, 1)]
def M_232 : mI := (⟨"EdgeHouse$Reader", "readToldValue", "()Z"⟩, prog_7_method_21_code, 2, 0, (some FieldType.boolean), [(37, 1, 15, 1), (132, 1, 9, 1), (161, 13, 2, 1)], [(138, 1, 38, 1), (158, 1, 45, 1), (164, 1, 49, 1), (171, 1, 233, 1), (174, 1, 56, 1)], [(157, 5, 8, .null), (162, 5, 9, .null), (167, 5, 10, .null), (169, 5, 11, .null)], Kk_232)
def Kk_233 : List (Nat × Instr × Nat) := [(0, .iconst 0, 1), (1, .istore_n 1, 1), (2, .iload_n 1, 1), (3, .bipush 8, 2), (5, .if_icmp .ge 91, 3), (8, .aload_n 0, 1), (9, .invokevirtual 51, 3), (12, .istore_n 2, 1), (13, .iload_n 2, 1), (14, .bipush 97, 2), (16, .if_icmp .lt 9, 3), (19, .iload_n 2, 1), (20, .bipush 104, 2), (22, .if_icmp .le 12, 3), (25, .aload_n 0, 1), (26, .aload_n 0, 1), (27, .getfield 114, 3), (30, .invokevirtual 120, 3), (33, .ireturn, 1), (34, .aload_n 0, 1), (35, .getfield 37, 3), (38, .dup, 1), (39, .getfield 197, 3), (42, .iconst 1, 1), (43, .iload_n 2, 1), (44, .bipush 97, 2), (46, .isub, 1), (47, .ishl, 1), (48, .ior, 1), (49, .putfield 197, 3), (52, .aload_n 0, 1), (53, .dup, 1), (54, .getfield 114, 3), (57, .iconst 1, 1), (58, .iadd, 1), (59, .putfield 114, 3), (62, .iload_n 1, 1), (63, .bipush 7, 2), (65, .if_icmp .eq 31, 3), (68, .aload_n 0, 1), (69, .invokevirtual 51, 3), (72, .bipush 32, 2), (74, .if_icmp .eq 6, 3), (77, .goto 19, 3), (80, .aload_n 0, 1), (81, .dup, 1), (82, .getfield 114, 3), (85, .iconst 1, 1), (86, .iadd, 1), (87, .putfield 114, 3), (90, .iinc 1 1, 3), (93, .goto (-91), 3), (96, .iconst 1, 1), (97, .ireturn, 1)]
def M_233 : mI := (⟨"EdgeHouse$Reader", "readKeys", "()Z"⟩, prog_7_method_24_code, 3, 0, (some FieldType.boolean), [(37, 1, 15, 1), (114, 1, 2, 1), (197, 13, 8, 1)], [(51, 1, 22, 1), (120, 1, 36, 1)], [], Kk_233)
def Kk_234 : List (Nat × Instr × Nat) := [(0, .iload_n 1, 1), (1, .iconst 1, 1), (2, .if_icmp .lt 9, 3), (5, .iload_n 1, 1), (6, .bipush 100, 2), (8, .if_icmp .le 13, 3), (11, .new 84, 3), (14, .dup, 1), (15, .ldc 172, 2), (17, .invokespecial 88, 3), (20, .athrow, 1), (21, .iconst 0, 1), (22, .istore_n 2, 1), (23, .iload_n 2, 1), (24, .iload_n 1, 1), (25, .if_icmp .ge 43, 3), (28, .aload_n 0, 1), (29, .dup, 1), (30, .getfield 174, 3), (33, .iconst 1, 1), (34, .iadd, 1), (35, .putfield 174, 3), (38, .iconst 1, 1), (39, .istore_n 3, 1), (40, .iload_n 3, 1), (41, .bipush 6, 2), (43, .if_icmp .gt 19, 3), (46, .aload_n 0, 1), (47, .aload_n 0, 1), (48, .getfield 28, 3), (51, .iload_n 3, 1), (52, .aaload, 1), (53, .invokevirtual 177, 3), (56, .iinc 3 1, 3), (59, .goto (-19), 3), (62, .iinc 2 1, 3), (65, .goto (-42), 3), (68, .aload_n 0, 1), (69, .getfield 174, 3), (72, .ireturn, 1)]
def M_234 : mI := (⟨"EdgeHouse", "tick", "(I)I"⟩, prog_1_method_11_code, 4, 1, (some FieldType.int), [(28, 0, 3, 0), (174, 0, 14, 1)], [(88, 0, 200, 0), (177, 1, 235, 0)], [(172, 5, 2, .null)], Kk_234)
def Kk_235 : List (Nat × Instr × Nat) := [(0, .aload_n 1, 1), (1, .getfield 184, 3), (4, .invokevirtual 150, 3), (7, .ifCond .ne 73, 3), (10, .aload_n 0, 1), (11, .getfield 174, 3), (14, .aload_n 1, 1), (15, .getfield 184, 3), (18, .iconst 0, 1), (19, .invokevirtual 187, 3), (22, .checkcast 190, 3), (25, .getfield 499, 3), (28, .isub, 1), (29, .bipush 10, 2), (31, .if_icmp .lt 49, 3), (34, .aload_n 1, 1), (35, .getfield 184, 3), (38, .iconst 0, 1), (39, .invokevirtual 137, 3), (42, .checkcast 190, 3), (45, .astore_n 2, 1), (46, .aload_n 1, 1), (47, .getfield 339, 3), (50, .invokestatic 491, 3), (53, .ifCond .eq 15, 3), (56, .aload_n 1, 1), (57, .aload_n 2, 1), (58, .getfield 498, 3), (61, .aload_n 0, 1), (62, .getfield 174, 3), (65, .invokevirtual 513, 3), (68, .aload_n 0, 1), (69, .aload_n 1, 1), (70, .aload_n 2, 1), (71, .getfield 192, 3), (74, .invokevirtual 349, 3), (77, .goto (-77), 3), (80, .return_, 1)]
def M_235 : mI := (⟨"EdgeHouse", "endOverdue", "(LEdgeHouse$Node;)V"⟩, prog_1_method_37_code, 3, 1, none, [(174, 0, 14, 1), (184, 4, 2, 0), (192, 10, 12, 1), (339, 4, 0, 0), (498, 10, 8, 1), (499, 10, 10, 1)], [(137, 1, 95, 2), (150, 1, 101, 2), (187, 1, 77, 2), (349, 1, 122, 0), (491, 2, 112, 0), (513, 1, 236, 4)], [(190, 6, 10, .null)], Kk_235)
def Kk_236 : List (Nat × Instr × Nat) := [(0, .iload_n 1, 1), (1, .iconst 1, 1), (2, .if_icmp .lt 8, 3), (5, .iload_n 1, 1), (6, .iconst 2, 1), (7, .if_icmp .le 4, 3), (10, .return_, 1), (11, .aload_n 0, 1), (12, .getfield 29, 3), (15, .iload_n 1, 1), (16, .dup2, 1), (17, .iaload, 1), (18, .iconst 1, 1), (19, .iadd, 1), (20, .iastore, 1), (21, .aload_n 0, 1), (22, .getfield 29, 3), (25, .iload_n 1, 1), (26, .iaload, 1), (27, .iconst 2, 1), (28, .if_icmp .ne 20, 3), (31, .aload_n 0, 1), (32, .getfield 29, 3), (35, .iload_n 1, 1), (36, .iconst 0, 1), (37, .iastore, 1), (38, .aload_n 0, 1), (39, .getfield 33, 3), (42, .iload_n 1, 1), (43, .iload_n 2, 1), (44, .bipush 20, 2), (46, .iadd, 1), (47, .iastore, 1), (48, .return_, 1)]
def M_236 : mI := (⟨"EdgeHouse$Node", "strike", "(II)V"⟩, prog_6_method_6_code, 3, 2, none, [(29, 4, 4, 0), (33, 4, 5, 0)], [], [], Kk_236)
def Kk_237 : List (Nat × Instr × Nat) := [(0, .iload_n 1, 1), (1, .ifCond .lt 14, 3), (4, .iload_n 1, 1), (5, .aload_n 0, 1), (6, .getfield 48, 3), (9, .invokevirtual 94, 3), (12, .if_icmp .lt 13, 3), (15, .new 220, 3), (18, .dup, 1), (19, .ldc 222, 2), (21, .invokespecial 224, 3), (24, .athrow, 1), (25, .iload_n 2, 1), (26, .ifCond .lt 9, 3), (29, .iload_n 2, 1), (30, .bipush 8, 2), (32, .if_icmp .le 13, 3), (35, .new 225, 3), (38, .dup, 1), (39, .ldc 227, 2), (41, .invokespecial 229, 3), (44, .athrow, 1), (45, .aload_n 0, 1), (46, .getfield 48, 3), (49, .iload_n 1, 1), (50, .invokevirtual 187, 3), (53, .checkcast 102, 3), (56, .astore_n 3, 1), (57, .iload_n 2, 1), (58, .iconst 5, 1), (59, .if_icmp .ne 12, 3), (62, .aload_n 0, 1), (63, .aload_n 3, 1), (64, .invokevirtual 230, 3), (67, .invokevirtual 234, 3), (70, .ireturn, 1), (71, .aload_n 3, 1), (72, .iload_n 2, 1), (73, .invokevirtual 239, 3), (76, .ireturn, 1)]
def M_237 : mI := (⟨"EdgeHouse", "answer", "(II)I"⟩, prog_1_method_15_code, 4, 2, (some FieldType.int), [(48, 0, 8, 0)], [(94, 1, 17, 2), (187, 1, 77, 2), (224, 0, 238, 0), (229, 0, 207, 0), (230, 1, 158, 0), (234, 1, 24, 12), (239, 1, 239, 8)], [(102, 6, 8, .null), (222, 5, 3, .null), (227, 5, 4, .null)], Kk_237)
def Kk_238 : List (Nat × Instr × Nat) := [(0, .aload_n 0, 1), (1, .aload_n 1, 1), (2, .invokespecial 13, 3), (5, .return_, 1)]
def M_238 : mI := (⟨"java/util/NoSuchElementException", "<init>", "(Ljava/lang/String;)V"⟩, prog_38_method_4_code, 2, 1, none, [], [(13, 0, 201, 0)], [], Kk_238)
def Kk_239 : List (Nat × Instr × Nat) := [(0, .iload_n 1, 1), (1, .tableswitch 91 0 8 #[51, 56, 61, 66, 71, 91, 76, 81, 86], 51), (52, .aload_n 0, 1), (53, .getfield 84, 3), (56, .ireturn, 1), (57, .aload_n 0, 1), (58, .getfield 40, 3), (61, .ireturn, 1), (62, .aload_n 0, 1), (63, .getfield 90, 3), (66, .ireturn, 1), (67, .aload_n 0, 1), (68, .getfield 87, 3), (71, .ireturn, 1), (72, .aload_n 0, 1), (73, .getfield 93, 3), (76, .ireturn, 1), (77, .aload_n 0, 1), (78, .getfield 96, 3), (81, .ireturn, 1), (82, .aload_n 0, 1), (83, .getfield 99, 3), (86, .ireturn, 1), (87, .aload_n 0, 1), (88, .getfield 44, 3), (91, .ireturn, 1), (92, .iconst (-1), 1), (93, .ireturn, 1)]
def M_239 : mI := (⟨"EdgeHouse$Reply", "tell", "(I)I"⟩, prog_8_method_3_code, 2, 1, (some FieldType.int), [(40, 8, 3, 1), (44, 8, 4, 1), (84, 8, 1, 1), (87, 8, 10, 1), (90, 8, 6, 1), (93, 8, 7, 1), (96, 8, 12, 1), (99, 8, 0, 1)], [], [], Kk_239)
def Kk_240 : List (Nat × Instr × Nat) := [(0, .aload_n 0, 1), (1, .invokespecial 1, 3), (4, .aload_n 0, 1), (5, .sipush 300, 3), (8, .newarray .int, 2), (10, .putfield 7, 3), (13, .aload_n 0, 1), (14, .iconst (-1), 1), (15, .putfield 13, 3), (18, .aload_n 0, 1), (19, .iconst 5, 1), (20, .newarray .int, 2), (22, .putfield 17, 3), (25, .aload_n 0, 1), (26, .bipush 8, 2), (28, .newarray .int, 2), (30, .putfield 20, 3), (33, .aload_n 0, 1), (34, .sipush 150, 3), (37, .newarray .int, 2), (39, .putfield 23, 3), (42, .aload_n 0, 1), (43, .sipush 150, 3), (46, .newarray .int, 2), (48, .putfield 26, 3), (51, .aload_n 0, 1), (52, .sipush 288, 3), (55, .newarray .int, 2), (57, .putfield 29, 3), (60, .aload_n 0, 1), (61, .bipush 32, 2), (63, .newarray .int, 2), (65, .putfield 32, 3), (68, .aload_n 0, 1), (69, .bipush 7, 2), (71, .newarray .boolean, 2), (73, .putfield 35, 3), (76, .aload_n 0, 1), (77, .bipush 7, 2), (79, .newarray .int, 2), (81, .putfield 39, 3), (84, .aload_n 0, 1), (85, .bipush 7, 2), (87, .newarray .int, 2), (89, .putfield 42, 3), (92, .aload_n 0, 1), (93, .bipush 7, 2), (95, .newarray .int, 2), (97, .putfield 45, 3), (100, .aload_n 0, 1), (101, .bipush 7, 2), (103, .newarray .int, 2), (105, .putfield 48, 3), (108, .aload_n 0, 1), (109, .bipush 7, 2), (111, .newarray .int, 2), (113, .putfield 51, 3), (116, .aload_n 0, 1), (117, .bipush 7, 2), (119, .newarray .int, 2), (121, .putfield 54, 3), (124, .aload_n 0, 1), (125, .sipush 448, 3), (128, .newarray .int, 2), (130, .putfield 57, 3), (133, .aload_n 0, 1), (134, .sipush 448, 3), (137, .newarray .int, 2), (139, .putfield 60, 3), (142, .aload_n 0, 1), (143, .sipush 448, 3), (146, .newarray .int, 2), (148, .putfield 63, 3), (151, .aload_n 0, 1), (152, .sipush 7168, 3), (155, .newarray .boolean, 2), (157, .putfield 66, 3), (160, .aload_n 0, 1), (161, .sipush 7168, 3), (164, .newarray .boolean, 2), (166, .putfield 69, 3), (169, .aload_n 0, 1), (170, .ldc 72, 2), (172, .newarray .int, 2), (174, .putfield 73, 3), (177, .aload_n 0, 1), (178, .sipush 7168, 3), (181, .newarray .int, 2), (183, .putfield 76, 3), (186, .aload_n 0, 1), (187, .sipush 7168, 3), (190, .newarray .int, 2), (192, .putfield 79, 3), (195, .aload_n 0, 1), (196, .sipush 7168, 3), (199, .newarray .int, 2), (201, .putfield 82, 3), (204, .aload_n 0, 1), (205, .sipush 7168, 3), (208, .newarray .int, 2), (210, .putfield 85, 3), (213, .aload_n 0, 1), (214, .sipush 7168, 3), (217, .newarray .int, 2), (219, .putfield 88, 3), (222, .aload_n 0, 1), (223, .sipush 896, 3), (226, .newarray .boolean, 2), (228, .putfield 91, 3), (231, .aload_n 0, 1), (232, .sipush 896, 3), (235, .newarray .boolean, 2), (237, .putfield 94, 3), (240, .aload_n 0, 1), (241, .sipush 896, 3), (244, .newarray .int, 2), (246, .putfield 97, 3), (249, .aload_n 0, 1), (250, .sipush 896, 3), (253, .newarray .int, 2), (255, .putfield 100, 3), (258, .aload_n 0, 1), (259, .sipush 896, 3), (262, .newarray .int, 2), (264, .putfield 103, 3), (267, .aload_n 0, 1), (268, .sipush 896, 3), (271, .newarray .int, 2), (273, .putfield 106, 3), (276, .aload_n 0, 1), (277, .sipush 896, 3), (280, .newarray .int, 2), (282, .putfield 109, 3), (285, .aload_n 0, 1), (286, .sipush 896, 3), (289, .newarray .int, 2), (291, .putfield 112, 3), (294, .aload_n 0, 1), (295, .sipush 896, 3), (298, .newarray .int, 2), (300, .putfield 115, 3), (303, .aload_n 0, 1), (304, .bipush 14, 2), (306, .newarray .int, 2), (308, .putfield 118, 3), (311, .aload_n 0, 1), (312, .bipush 14, 2), (314, .newarray .int, 2), (316, .putfield 121, 3), (319, .aload_n 0, 1), (320, .sipush 6900, 3), (323, .newarray .int, 2), (325, .putfield 124, 3), (328, .aload_n 0, 1), (329, .sipush 300, 3), (332, .newarray .boolean, 2), (334, .putfield 127, 3), (337, .aload_n 0, 1), (338, .ldc 130, 2), (340, .newarray .int, 2), (342, .putfield 131, 3), (345, .aload_n 0, 1), (346, .ldc 130, 2), (348, .newarray .int, 2), (350, .putfield 134, 3), (353, .aload_n 0, 1), (354, .sipush 2200, 3), (357, .newarray .int, 2), (359, .putfield 137, 3), (362, .aload_n 0, 1), (363, .bipush 22, 2), (365, .newarray .int, 2), (367, .putfield 140, 3), (370, .aload_n 0, 1), (371, .bipush 9, 2), (373, .newarray .int, 2), (375, .putfield 143, 3), (378, .aload_n 0, 1), (379, .sipush 2700, 3), (382, .newarray .int, 2), (384, .putfield 146, 3), (387, .aload_n 0, 1), (388, .bipush 22, 2), (390, .newarray .int, 2), (392, .putfield 149, 3), (395, .aload_n 0, 1), (396, .sipush 700, 3), (399, .newarray .int, 2), (401, .putfield 152, 3), (404, .iconst 1, 1), (405, .istore_n 1, 1), (406, .iload_n 1, 1), (407, .bipush 7, 2), (409, .if_icmp .ge 25, 3), (412, .aload_n 0, 1), (413, .getfield 35, 3), (416, .iload_n 1, 1), (417, .iconst 1, 1), (418, .bastore, 1), (419, .aload_n 0, 1), (420, .getfield 39, 3), (423, .iload_n 1, 1), (424, .sipush 1000, 3), (427, .iastore, 1), (428, .iinc 1 1, 3), (431, .goto (-25), 3), (434, .return_, 1)]
def M_240 : mI := (⟨"EdgeHouseModel", "<init>", "()V"⟩, prog_13_method_1_code, 2, 0, none, [(7, 14, 1, 2), (13, 14, 3, 1), (17, 14, 21, 2), (20, 14, 22, 2), (23, 14, 32, 2), (26, 14, 33, 2), (29, 14, 34, 2), (32, 14, 35, 2), (35, 14, 40, 2), (39, 14, 41, 2), (42, 14, 42, 2), (45, 14, 43, 2), (48, 14, 44, 2), (51, 14, 45, 2), (54, 14, 46, 2), (57, 14, 47, 2), (60, 14, 48, 2), (63, 14, 49, 2), (66, 14, 50, 2), (69, 14, 51, 2), (73, 14, 52, 2), (76, 14, 53, 2), (79, 14, 54, 2), (82, 14, 55, 2), (85, 14, 56, 2), (88, 14, 57, 2), (91, 14, 59, 2), (94, 14, 60, 2), (97, 14, 61, 2), (100, 14, 62, 2), (103, 14, 63, 2), (106, 14, 64, 2), (109, 14, 65, 2), (112, 14, 66, 2), (115, 14, 67, 2), (118, 14, 68, 2), (121, 14, 69, 2), (124, 14, 72, 2), (127, 14, 73, 2), (131, 14, 75, 2), (134, 14, 76, 2), (137, 14, 78, 2), (140, 14, 79, 2), (143, 14, 83, 2), (146, 14, 88, 2), (149, 14, 89, 2), (152, 14, 90, 2)], [(1, 4, 0, 0)], [(72, 2, 0, .int (64512)), (130, 2, 0, .int (48000))], Kk_240)
def Kk_241 : List (Nat × Instr × Nat) := [(0, .aload_n 0, 1), (1, .getfield 155, 3), (4, .ireturn, 1)]
def M_241 : mI := (⟨"EdgeHouseModel", "thrown", "()I"⟩, prog_13_method_2_code, 1, 0, (some FieldType.int), [(155, 14, 0, 1)], [], [], Kk_241)
def Kk_242 : List (Nat × Instr × Nat) := [(0, .aload_n 0, 1), (1, .iconst 0, 1), (2, .putfield 155, 3), (5, .iload_n 3, 1), (6, .iconst 1, 1), (7, .if_icmp .lt 21, 3), (10, .iload_n 3, 1), (11, .bipush 8, 2), (13, .if_icmp .gt 15, 3), (16, .aload_n 0, 1), (17, .getfield 158, 3), (20, .iload_n 3, 1), (21, .iadd, 1), (22, .sipush 300, 3), (25, .if_icmp .le 5, 3), (28, .iconst 0, 1), (29, .ireturn, 1), (30, .iconst 0, 1), (31, .istore 4, 2), (33, .iload 4, 2), (35, .iload_n 3, 1), (36, .if_icmp .ge 46, 3), (39, .lload_n 1, 1), (40, .bipush 8, 2), (42, .iload 4, 2), (44, .imul, 1), (45, .lshr, 1), (46, .ldc2_w 161, 3), (49, .land, 1), (50, .l2i, 1), (51, .istore 5, 2), (53, .iload 5, 2), (55, .bipush 10, 2), (57, .if_icmp .eq 19, 3), (60, .iload 5, 2), (62, .bipush 32, 2), (64, .if_icmp .lt 10, 3), (67, .iload 5, 2), (69, .bipush 126, 2), (71, .if_icmp .le 5, 3), (74, .iconst 0, 1), (75, .ireturn, 1), (76, .iinc 4 1, 3), (79, .goto (-46), 3), (82, .iload_n 3, 1), (83, .iconst 1, 1), (84, .isub, 1), (85, .istore 4, 2), (87, .iload 4, 2), (89, .ifCond .lt 40, 3), (92, .aload_n 0, 1), (93, .getfield 7, 3), (96, .aload_n 0, 1), (97, .getfield 158, 3), (100, .lload_n 1, 1), (101, .bipush 8, 2), (103, .iload 4, 2), (105, .imul, 1), (106, .lshr, 1), (107, .ldc2_w 161, 3), (110, .land, 1), (111, .l2i, 1), (112, .iastore, 1), (113, .aload_n 0, 1), (114, .dup, 1), (115, .getfield 158, 3), (118, .iconst 1, 1), (119, .iadd, 1), (120, .putfield 158, 3), (123, .iinc 4 (-1), 3), (126, .goto (-39), 3), (129, .iconst 1, 1), (130, .ireturn, 1)]
def M_242 : mI := (⟨"EdgeHouseModel", "type", "(JI)Z"⟩, prog_13_method_3_code, 6, 2, (some FieldType.boolean), [(7, 14, 1, 0), (155, 14, 0, 1), (158, 14, 2, 1)], [], [(161, 3, 0, .long (255))], Kk_242)
def Kk_243 : List (Nat × Instr × Nat) := [(0, .aload_n 0, 1), (1, .iconst 0, 1), (2, .invokevirtual 608, 3), (5, .ifCond .ne 10, 3), (8, .aload_n 0, 1), (9, .iconst 1, 1), (10, .putfield 155, 3), (13, .iconst 0, 1), (14, .ireturn, 1), (15, .aload_n 0, 1), (16, .iconst 0, 1), (17, .putfield 155, 3), (20, .bipush 9, 2), (22, .aload_n 0, 1), (23, .getfield 200, 3), (26, .imul, 1), (27, .istore_n 1, 1), (28, .aload_n 0, 1), (29, .getfield 32, 3), (32, .aload_n 0, 1), (33, .getfield 200, 3), (36, .dup2, 1), (37, .iaload, 1), (38, .iconst 1, 1), (39, .iadd, 1), (40, .iastore, 1), (41, .aload_n 0, 1), (42, .getfield 29, 3), (45, .iload_n 1, 1), (46, .aload_n 0, 1), (47, .getfield 32, 3), (50, .aload_n 0, 1), (51, .getfield 200, 3), (54, .iaload, 1), (55, .iastore, 1), (56, .aload_n 0, 1), (57, .getfield 29, 3), (60, .iload_n 1, 1), (61, .iconst 1, 1), (62, .iadd, 1), (63, .aload_n 0, 1), (64, .getfield 332, 3), (67, .iastore, 1), (68, .aload_n 0, 1), (69, .getfield 29, 3), (72, .iload_n 1, 1), (73, .iconst 2, 1), (74, .iadd, 1), (75, .aload_n 0, 1), (76, .getfield 298, 3), (79, .iastore, 1), (80, .aload_n 0, 1), (81, .getfield 29, 3), (84, .iload_n 1, 1), (85, .iconst 3, 1), (86, .iadd, 1), (87, .aload_n 0, 1), (88, .getfield 303, 3), (91, .iastore, 1), (92, .aload_n 0, 1), (93, .getfield 29, 3), (96, .iload_n 1, 1), (97, .iconst 4, 1), (98, .iadd, 1), (99, .aload_n 0, 1), (100, .getfield 308, 3), (103, .iastore, 1), (104, .aload_n 0, 1), (105, .getfield 29, 3), (108, .iload_n 1, 1), (109, .iconst 5, 1), (110, .iadd, 1), (111, .aload_n 0, 1), (112, .getfield 292, 3), (115, .ifCond .eq 7, 3), (118, .iconst 1, 1), (119, .goto 4, 3), (122, .iconst 0, 1), (123, .iastore, 1), (124, .aload_n 0, 1), (125, .getfield 29, 3), (128, .iload_n 1, 1), (129, .bipush 6, 2), (131, .iadd, 1), (132, .aload_n 0, 1), (133, .getfield 295, 3), (136, .ifCond .eq 7, 3), (139, .iconst 1, 1), (140, .goto 4, 3), (143, .iconst 0, 1), (144, .iastore, 1), (145, .aload_n 0, 1), (146, .getfield 29, 3), (149, .iload_n 1, 1), (150, .bipush 7, 2), (152, .iadd, 1), (153, .aload_n 0, 1), (154, .getfield 326, 3), (157, .iastore, 1), (158, .aload_n 0, 1), (159, .getfield 29, 3), (162, .iload_n 1, 1), (163, .bipush 8, 2), (165, .iadd, 1), (166, .aload_n 0, 1), (167, .getfield 319, 3), (170, .iastore, 1), (171, .aload_n 0, 1), (172, .getfield 32, 3), (175, .aload_n 0, 1), (176, .getfield 200, 3), (179, .iaload, 1), (180, .ireturn, 1)]
def M_243 : mI := (⟨"EdgeHouseModel", "update", "()I"⟩, prog_13_method_82_code, 2, 0, (some FieldType.int), [(29, 14, 34, 0), (32, 14, 35, 0), (155, 14, 0, 1), (200, 14, 7, 1), (292, 14, 29, 1), (295, 14, 30, 1), (298, 14, 25, 1), (303, 14, 26, 1), (308, 14, 27, 1), (319, 14, 28, 1), (326, 14, 24, 1), (332, 14, 23, 1)], [(608, 1, 244, 14)], [], Kk_243)
def Kk_244 : List (Nat × Instr × Nat) := [(0, .aload_n 0, 1), (1, .iconst 0, 1), (2, .putfield 163, 3), (5, .aload_n 0, 1), (6, .iconst 0, 1), (7, .putfield 166, 3), (10, .aload_n 0, 1), (11, .iconst 0, 1), (12, .putfield 209, 3), (15, .aload_n 0, 1), (16, .iconst 0, 1), (17, .putfield 222, 3), (20, .aload_n 0, 1), (21, .iconst 0, 1), (22, .putfield 235, 3), (25, .aload_n 0, 1), (26, .iconst (-1), 1), (27, .putfield 276, 3), (30, .aload_n 0, 1), (31, .iconst (-1), 1), (32, .putfield 282, 3), (35, .aload_n 0, 1), (36, .iconst (-1), 1), (37, .putfield 287, 3), (40, .aload_n 0, 1), (41, .iconst 0, 1), (42, .putfield 232, 3), (45, .aload_n 0, 1), (46, .iconst 0, 1), (47, .putfield 266, 3), (50, .aload_n 0, 1), (51, .iconst 0, 1), (52, .putfield 271, 3), (55, .aload_n 0, 1), (56, .iconst 0, 1), (57, .putfield 329, 3), (60, .aload_n 0, 1), (61, .iconst 0, 1), (62, .putfield 332, 3), (65, .aload_n 0, 1), (66, .iconst 0, 1), (67, .putfield 326, 3), (70, .aload_n 0, 1), (71, .iconst 0, 1), (72, .putfield 298, 3), (75, .aload_n 0, 1), (76, .iconst 0, 1), (77, .putfield 303, 3), (80, .aload_n 0, 1), (81, .iconst 0, 1), (82, .putfield 308, 3), (85, .aload_n 0, 1), (86, .iconst 0, 1), (87, .putfield 292, 3), (90, .aload_n 0, 1), (91, .iconst 0, 1), (92, .putfield 295, 3), (95, .aload_n 0, 1), (96, .iconst 0, 1), (97, .putfield 319, 3), (100, .aload_n 0, 1), (101, .iconst (-1), 1), (102, .putfield 334, 3), (105, .iconst 0, 1), (106, .istore_n 2, 1), (107, .iload_n 2, 1), (108, .iconst 5, 1), (109, .if_icmp .ge 16, 3), (112, .aload_n 0, 1), (113, .getfield 17, 3), (116, .iload_n 2, 1), (117, .iconst 0, 1), (118, .iastore, 1), (119, .iinc 2 1, 3), (122, .goto (-15), 3), (125, .iload_n 1, 1), (126, .ifCond .eq 28, 3), (129, .aload_n 0, 1), (130, .invokevirtual 173, 3), (133, .bipush 72, 2), (135, .if_icmp .ne 19, 3), (138, .aload_n 0, 1), (139, .ldc_w 337, 3), (142, .invokevirtual 218, 3), (145, .pop, 1), (146, .aload_n 0, 1), (147, .iconst 1, 1), (148, .putfield 329, 3), (151, .goto 21, 3), (154, .aload_n 0, 1), (155, .iload_n 1, 1), (156, .ifCond .eq 9, 3), (159, .ldc_w 339, 3), (162, .goto 6, 3), (165, .ldc_w 341, 3), (168, .invokevirtual 218, 3), (171, .pop, 1), (172, .aload_n 0, 1), (173, .iload_n 1, 1), (174, .invokevirtual 343, 3), (177, .aload_n 0, 1), (178, .getfield 166, 3), (181, .ifCond .ne 20, 3), (184, .aload_n 0, 1), (185, .invokevirtual 173, 3), (188, .bipush 10, 2), (190, .if_icmp .eq 11, 3), (193, .aload_n 0, 1), (194, .iload_n 1, 1), (195, .invokevirtual 347, 3), (198, .goto (-21), 3), (201, .aload_n 0, 1), (202, .bipush 10, 2), (204, .invokevirtual 190, 3), (207, .pop, 1), (208, .aload_n 0, 1), (209, .getfield 166, 3), (212, .ifCond .ne 23, 3), (215, .aload_n 0, 1), (216, .getfield 163, 3), (219, .aload_n 0, 1), (220, .getfield 158, 3), (223, .if_icmp .ge 12, 3), (226, .aload_n 0, 1), (227, .aload_n 0, 1), (228, .getfield 163, 3), (231, .invokevirtual 177, 3), (234, .pop, 1), (235, .aload_n 0, 1), (236, .iconst 0, 1), (237, .putfield 158, 3), (240, .aload_n 0, 1), (241, .aload_n 0, 1), (242, .getfield 166, 3), (245, .ifCond .eq 10, 3), (248, .aload_n 0, 1), (249, .getfield 170, 3), (252, .goto 4, 3), (255, .iconst (-1), 1), (256, .putfield 13, 3), (259, .aload_n 0, 1), (260, .getfield 166, 3), (263, .ifCond .ne 7, 3), (266, .iconst 1, 1), (267, .goto 4, 3), (270, .iconst 0, 1), (271, .ireturn, 1)]
def M_244 : mI := (⟨"EdgeHouseModel", "readText", "(Z)Z"⟩, prog_13_method_27_code, 3, 1, (some FieldType.boolean), [(13, 14, 3, 1), (17, 14, 21, 0), (158, 14, 2, 1), (163, 14, 4, 1), (166, 14, 5, 1), (170, 14, 6, 1), (209, 14, 31, 1), (222, 14, 9, 1), (232, 14, 17, 1), (235, 14, 12, 1), (266, 14, 18, 1), (271, 14, 19, 1), (276, 14, 13, 1), (282, 14, 14, 1), (287, 14, 15, 1), (292, 14, 29, 1), (295, 14, 30, 1), (298, 14, 25, 1), (303, 14, 26, 1), (308, 14, 27, 1), (319, 14, 28, 1), (326, 14, 24, 1), (329, 14, 16, 1), (332, 14, 23, 1), (334, 14, 20, 1)], [(173, 1, 245, 14), (177, 1, 248, 14), (190, 1, 247, 14), (218, 1, 246, 14), (343, 1, 249, 14), (347, 1, 252, 14)], [(337, 5, 71, .null), (339, 5, 72, .null), (341, 5, 73, .null)], Kk_244)
def Kk_245 : List (Nat × Instr × Nat) := [(0, .aload_n 0, 1), (1, .getfield 163, 3), (4, .aload_n 0, 1), (5, .getfield 158, 3), (8, .if_icmp .ge 15, 3), (11, .aload_n 0, 1), (12, .getfield 7, 3), (15, .aload_n 0, 1), (16, .getfield 163, 3), (19, .iaload, 1), (20, .goto 4, 3), (23, .iconst (-1), 1), (24, .ireturn, 1)]
def M_245 : mI := (⟨"EdgeHouseModel", "see", "()I"⟩, prog_13_method_4_code, 1, 0, (some FieldType.int), [(7, 14, 1, 0), (158, 14, 2, 1), (163, 14, 4, 1)], [], [], Kk_245)
def Kk_246 : List (Nat × Instr × Nat) := [(0, .iconst 0, 1), (1, .istore_n 2, 1), (2, .iload_n 2, 1), (3, .aload_n 1, 1), (4, .invokevirtual 181, 3), (7, .if_icmp .ge 23, 3), (10, .aload_n 0, 1), (11, .aload_n 1, 1), (12, .iload_n 2, 1), (13, .invokevirtual 186, 3), (16, .invokevirtual 190, 3), (19, .ifCond .ne 5, 3), (22, .iconst 0, 1), (23, .ireturn, 1), (24, .iinc 2 1, 3), (27, .goto (-25), 3), (30, .iconst 1, 1), (31, .ireturn, 1)]
def M_246 : mI := (⟨"EdgeHouseModel", "expectWord", "(Ljava/lang/String;)Z"⟩, prog_13_method_7_code, 3, 1, (some FieldType.boolean), [], [(181, 1, 24, 12), (186, 1, 26, 12), (190, 1, 247, 14)], [], Kk_246)
def Kk_247 : List (Nat × Instr × Nat) := [(0, .aload_n 0, 1), (1, .getfield 166, 3), (4, .ifCond .eq 5, 3), (7, .iconst 0, 1), (8, .ireturn, 1), (9, .aload_n 0, 1), (10, .invokevirtual 173, 3), (13, .iload_n 1, 1), (14, .if_icmp .eq 12, 3), (17, .aload_n 0, 1), (18, .aload_n 0, 1), (19, .getfield 163, 3), (22, .invokevirtual 177, 3), (25, .ireturn, 1), (26, .aload_n 0, 1), (27, .dup, 1), (28, .getfield 163, 3), (31, .iconst 1, 1), (32, .iadd, 1), (33, .putfield 163, 3), (36, .iconst 1, 1), (37, .ireturn, 1)]
def M_247 : mI := (⟨"EdgeHouseModel", "expect", "(I)Z"⟩, prog_13_method_6_code, 2, 1, (some FieldType.boolean), [(163, 14, 4, 1), (166, 14, 5, 1)], [(173, 1, 245, 14), (177, 1, 248, 14)], [], Kk_247)
def Kk_248 : List (Nat × Instr × Nat) := [(0, .aload_n 0, 1), (1, .getfield 166, 3), (4, .ifCond .ne 13, 3), (7, .aload_n 0, 1), (8, .iconst 1, 1), (9, .putfield 166, 3), (12, .aload_n 0, 1), (13, .iload_n 1, 1), (14, .putfield 170, 3), (17, .iconst 0, 1), (18, .ireturn, 1)]
def M_248 : mI := (⟨"EdgeHouseModel", "wrong", "(I)Z"⟩, prog_13_method_5_code, 2, 1, (some FieldType.boolean), [(166, 14, 5, 1), (170, 14, 6, 1)], [], [], Kk_248)
def Kk_249 : List (Nat × Instr × Nat) := [(0, .aload_n 0, 1), (1, .bipush 32, 2), (3, .invokevirtual 190, 3), (6, .pop, 1), (7, .aload_n 0, 1), (8, .bipush 47, 2), (10, .invokevirtual 190, 3), (13, .pop, 1), (14, .aload_n 0, 1), (15, .aload_n 0, 1), (16, .bipush 31, 2), (18, .invokevirtual 196, 3), (21, .putfield 200, 3), (24, .aload_n 0, 1), (25, .iconst 0, 1), (26, .putfield 203, 3), (29, .aload_n 0, 1), (30, .getfield 166, 3), (33, .ifCond .ne 35, 3), (36, .iload_n 1, 1), (37, .ifCond .eq 31, 3), (40, .aload_n 0, 1), (41, .invokevirtual 173, 3), (44, .bipush 47, 2), (46, .if_icmp .ne 22, 3), (49, .aload_n 0, 1), (50, .dup, 1), (51, .getfield 163, 3), (54, .iconst 1, 1), (55, .iadd, 1), (56, .putfield 163, 3), (59, .aload_n 0, 1), (60, .aload_n 0, 1), (61, .iconst 3, 1), (62, .invokevirtual 196, 3), (65, .putfield 203, 3), (68, .aload_n 0, 1), (69, .bipush 10, 2), (71, .invokevirtual 190, 3), (74, .pop, 1), (75, .return_, 1)]
def M_249 : mI := (⟨"EdgeHouseModel", "target", "(Z)V"⟩, prog_13_method_11_code, 2, 1, none, [(163, 14, 4, 1), (166, 14, 5, 1), (200, 14, 7, 1), (203, 14, 8, 1)], [(173, 1, 245, 14), (190, 1, 247, 14), (196, 1, 250, 14)], [], Kk_249)
def Kk_250 : List (Nat × Instr × Nat) := [(0, .aload_n 0, 1), (1, .getfield 166, 3), (4, .ifCond .eq 5, 3), (7, .iconst (-1), 1), (8, .ireturn, 1), (9, .aload_n 0, 1), (10, .getfield 163, 3), (13, .istore_n 2, 1), (14, .iconst 0, 1), (15, .istore_n 3, 1), (16, .aload_n 0, 1), (17, .invokevirtual 173, 3), (20, .invokestatic 193, 3), (23, .ifCond .eq 39, 3), (26, .aload_n 0, 1), (27, .getfield 163, 3), (30, .iload_n 2, 1), (31, .isub, 1), (32, .iconst 5, 1), (33, .if_icmp .ge 29, 3), (36, .bipush 10, 2), (38, .iload_n 3, 1), (39, .imul, 1), (40, .aload_n 0, 1), (41, .invokevirtual 173, 3), (44, .iadd, 1), (45, .bipush 48, 2), (47, .isub, 1), (48, .istore_n 3, 1), (49, .aload_n 0, 1), (50, .dup, 1), (51, .getfield 163, 3), (54, .iconst 1, 1), (55, .iadd, 1), (56, .putfield 163, 3), (59, .goto (-43), 3), (62, .aload_n 0, 1), (63, .getfield 163, 3), (66, .iload_n 2, 1), (67, .if_icmp .ne 12, 3), (70, .aload_n 0, 1), (71, .aload_n 0, 1), (72, .getfield 163, 3), (75, .invokevirtual 177, 3), (78, .pop, 1), (79, .iload_n 3, 1), (80, .iload_n 1, 1), (81, .if_icmp .le 9, 3), (84, .aload_n 0, 1), (85, .iload_n 2, 1), (86, .invokevirtual 177, 3), (89, .pop, 1), (90, .aload_n 0, 1), (91, .getfield 166, 3), (94, .ifCond .eq 7, 3), (97, .iconst (-1), 1), (98, .goto 4, 3), (101, .iload_n 3, 1), (102, .ireturn, 1)]
def M_250 : mI := (⟨"EdgeHouseModel", "number", "(I)I"⟩, prog_13_method_10_code, 4, 1, (some FieldType.int), [(163, 14, 4, 1), (166, 14, 5, 1)], [(173, 1, 245, 14), (177, 1, 248, 14), (193, 2, 251, 0)], [], Kk_250)
def Kk_251 : List (Nat × Instr × Nat) := [(0, .iload_n 0, 1), (1, .bipush 48, 2), (3, .if_icmp .lt 13, 3), (6, .iload_n 0, 1), (7, .bipush 57, 2), (9, .if_icmp .gt 7, 3), (12, .iconst 1, 1), (13, .goto 4, 3), (16, .iconst 0, 1), (17, .ireturn, 1)]
def M_251 : mI := (⟨"EdgeHouseModel", "isDigit", "(I)Z"⟩, prog_13_method_8_code, 1, 1, (some FieldType.boolean), [], [], [], Kk_251)
def Kk_252 : List (Nat × Instr × Nat) := [(0, .aload_n 0, 1), (1, .getfield 163, 3), (4, .aload_n 0, 1), (5, .getfield 158, 3), (8, .if_icmp .lt 13, 3), (11, .aload_n 0, 1), (12, .aload_n 0, 1), (13, .getfield 158, 3), (16, .invokevirtual 177, 3), (19, .pop, 1), (20, .return_, 1), (21, .aload_n 0, 1), (22, .invokevirtual 350, 3), (25, .ifCond .ne 4, 3), (28, .return_, 1), (29, .iload_n 1, 1), (30, .ifCond .eq 20, 3), (33, .aload_n 0, 1), (34, .ldc_w 354, 3), (37, .invokevirtual 356, 3), (40, .ifCond .eq 10, 3), (43, .aload_n 0, 1), (44, .invokevirtual 359, 3), (47, .goto 194, 3), (50, .iload_n 1, 1), (51, .ifCond .eq 20, 3), (54, .aload_n 0, 1), (55, .ldc_w 361, 3), (58, .invokevirtual 356, 3), (61, .ifCond .eq 10, 3), (64, .aload_n 0, 1), (65, .invokevirtual 363, 3), (68, .goto 173, 3), (71, .iload_n 1, 1), (72, .ifCond .eq 24, 3), (75, .aload_n 0, 1), (76, .ldc_w 366, 3), (79, .invokevirtual 356, 3), (82, .ifCond .eq 14, 3), (85, .aload_n 0, 1), (86, .aload_n 0, 1), (87, .invokevirtual 368, 3), (90, .putfield 334, 3), (93, .goto 148, 3), (96, .iload_n 1, 1), (97, .ifCond .eq 21, 3), (100, .aload_n 0, 1), (101, .ldc_w 322, 3), (104, .invokevirtual 356, 3), (107, .ifCond .eq 11, 3), (110, .aload_n 0, 1), (111, .iconst 2, 1), (112, .invokevirtual 371, 3), (115, .goto 126, 3), (118, .iload_n 1, 1), (119, .ifCond .eq 21, 3), (122, .aload_n 0, 1), (123, .ldc_w 324, 3), (126, .invokevirtual 356, 3), (129, .ifCond .eq 11, 3), (132, .aload_n 0, 1), (133, .iconst 3, 1), (134, .invokevirtual 371, 3), (137, .goto 104, 3), (140, .iload_n 1, 1), (141, .ifCond .ne 21, 3), (144, .aload_n 0, 1), (145, .ldc_w 375, 3), (148, .invokevirtual 356, 3), (151, .ifCond .eq 11, 3), (154, .aload_n 0, 1), (155, .iconst 4, 1), (156, .invokevirtual 371, 3), (159, .goto 82, 3), (162, .aload_n 0, 1), (163, .ldc_w 376, 3), (166, .invokevirtual 356, 3), (169, .ifCond .eq 19, 3), (172, .aload_n 0, 1), (173, .iload_n 1, 1), (174, .ifCond .eq 7, 3), (177, .iconst 0, 1), (178, .goto 4, 3), (181, .iconst 1, 1), (182, .invokevirtual 371, 3), (185, .goto 56, 3), (188, .iload_n 1, 1), (189, .ifCond .ne 27, 3), (192, .aload_n 0, 1), (193, .ldc_w 378, 3), (196, .invokevirtual 356, 3), (199, .ifCond .eq 17, 3), (202, .aload_n 0, 1), (203, .aload_n 0, 1), (204, .sipush 255, 3), (207, .invokevirtual 196, 3), (210, .putfield 332, 3), (213, .goto 28, 3), (216, .iload_n 1, 1), (217, .ifCond .ne 20, 3), (220, .aload_n 0, 1), (221, .ldc_w 379, 3), (224, .invokevirtual 356, 3), (227, .ifCond .eq 10, 3), (230, .aload_n 0, 1), (231, .invokevirtual 381, 3), (234, .goto 7, 3), (237, .aload_n 0, 1), (238, .invokevirtual 384, 3), (241, .aload_n 0, 1), (242, .bipush 10, 2), (244, .invokevirtual 190, 3), (247, .pop, 1), (248, .return_, 1)]
def M_252 : mI := (⟨"EdgeHouseModel", "line", "(Z)V"⟩, prog_13_method_28_code, 2, 1, none, [(158, 14, 2, 1), (163, 14, 4, 1), (332, 14, 23, 1), (334, 14, 20, 1)], [(177, 1, 248, 14), (190, 1, 247, 14), (196, 1, 250, 14), (350, 1, 253, 14), (356, 1, 256, 14), (359, 1, 257, 14), (363, 1, 258, 14), (368, 1, 259, 14), (371, 1, 260, 14), (381, 1, 266, 14), (384, 1, 267, 14)], [(322, 5, 69, .null), (324, 5, 70, .null), (354, 5, 74, .null), (361, 5, 75, .null), (366, 5, 76, .null), (375, 5, 77, .null), (376, 5, 78, .null), (378, 5, 79, .null), (379, 5, 80, .null)], Kk_252)
def Kk_253 : List (Nat × Instr × Nat) := [(0, .aload_n 0, 1), (1, .getfield 163, 3), (4, .istore_n 1, 1), (5, .aload_n 0, 1), (6, .invokevirtual 173, 3), (9, .invokestatic 206, 3), (12, .ifCond .eq 16, 3), (15, .aload_n 0, 1), (16, .dup, 1), (17, .getfield 163, 3), (20, .iconst 1, 1), (21, .iadd, 1), (22, .putfield 163, 3), (25, .goto (-20), 3), (28, .aload_n 0, 1), (29, .getfield 163, 3), (32, .iload_n 1, 1), (33, .if_icmp .ne 12, 3), (36, .aload_n 0, 1), (37, .aload_n 0, 1), (38, .getfield 163, 3), (41, .invokevirtual 177, 3), (44, .ireturn, 1), (45, .aload_n 0, 1), (46, .getfield 163, 3), (49, .iload_n 1, 1), (50, .isub, 1), (51, .bipush 20, 2), (53, .if_icmp .le 9, 3), (56, .aload_n 0, 1), (57, .iload_n 1, 1), (58, .invokevirtual 177, 3), (61, .ireturn, 1), (62, .aload_n 0, 1), (63, .invokevirtual 173, 3), (66, .bipush 58, 2), (68, .if_icmp .eq 12, 3), (71, .aload_n 0, 1), (72, .aload_n 0, 1), (73, .getfield 163, 3), (76, .invokevirtual 177, 3), (79, .ireturn, 1), (80, .iconst 0, 1), (81, .istore_n 2, 1), (82, .iload_n 2, 1), (83, .aload_n 0, 1), (84, .getfield 209, 3), (87, .if_icmp .ge 39, 3), (90, .aload_n 0, 1), (91, .aload_n 0, 1), (92, .getfield 23, 3), (95, .iload_n 2, 1), (96, .iaload, 1), (97, .aload_n 0, 1), (98, .getfield 26, 3), (101, .iload_n 2, 1), (102, .iaload, 1), (103, .iload_n 1, 1), (104, .aload_n 0, 1), (105, .getfield 163, 3), (108, .invokevirtual 212, 3), (111, .ifCond .eq 9, 3), (114, .aload_n 0, 1), (115, .iload_n 1, 1), (116, .invokevirtual 177, 3), (119, .ireturn, 1), (120, .iinc 2 1, 3), (123, .goto (-41), 3), (126, .aload_n 0, 1), (127, .getfield 23, 3), (130, .aload_n 0, 1), (131, .getfield 209, 3), (134, .iload_n 1, 1), (135, .iastore, 1), (136, .aload_n 0, 1), (137, .getfield 26, 3), (140, .aload_n 0, 1), (141, .getfield 209, 3), (144, .aload_n 0, 1), (145, .getfield 163, 3), (148, .iastore, 1), (149, .aload_n 0, 1), (150, .dup, 1), (151, .getfield 209, 3), (154, .iconst 1, 1), (155, .iadd, 1), (156, .putfield 209, 3), (159, .aload_n 0, 1), (160, .dup, 1), (161, .getfield 163, 3), (164, .iconst 1, 1), (165, .iadd, 1), (166, .putfield 163, 3), (169, .aload_n 0, 1), (170, .invokevirtual 173, 3), (173, .bipush 32, 2), (175, .if_icmp .ne 13, 3), (178, .aload_n 0, 1), (179, .dup, 1), (180, .getfield 163, 3), (183, .iconst 1, 1), (184, .iadd, 1), (185, .putfield 163, 3), (188, .iconst 1, 1), (189, .ireturn, 1)]
def M_253 : mI := (⟨"EdgeHouseModel", "name", "()Z"⟩, prog_13_method_12_code, 3, 0, (some FieldType.boolean), [(23, 14, 32, 0), (26, 14, 33, 0), (163, 14, 4, 1), (209, 14, 31, 1)], [(173, 1, 245, 14), (177, 1, 248, 14), (206, 2, 254, 0), (212, 1, 255, 14)], [], Kk_253)
def Kk_254 : List (Nat × Instr × Nat) := [(0, .iload_n 0, 1), (1, .bipush 97, 2), (3, .if_icmp .lt 9, 3), (6, .iload_n 0, 1), (7, .bipush 122, 2), (9, .if_icmp .le 9, 3), (12, .iload_n 0, 1), (13, .bipush 45, 2), (15, .if_icmp .ne 7, 3), (18, .iconst 1, 1), (19, .goto 4, 3), (22, .iconst 0, 1), (23, .ireturn, 1)]
def M_254 : mI := (⟨"EdgeHouseModel", "isSmall", "(I)Z"⟩, prog_13_method_9_code, 1, 1, (some FieldType.boolean), [], [], [], Kk_254)
def Kk_255 : List (Nat × Instr × Nat) := [(0, .iload_n 2, 1), (1, .iload_n 1, 1), (2, .isub, 1), (3, .iload 4, 2), (5, .iload_n 3, 1), (6, .isub, 1), (7, .if_icmp .ne 7, 3), (10, .iconst 1, 1), (11, .goto 4, 3), (14, .iconst 0, 1), (15, .istore 5, 2), (17, .iconst 0, 1), (18, .istore 6, 2), (20, .iload 5, 2), (22, .ifCond .eq 45, 3), (25, .iload 6, 2), (27, .iload_n 2, 1), (28, .iload_n 1, 1), (29, .isub, 1), (30, .if_icmp .ge 37, 3), (33, .aload_n 0, 1), (34, .getfield 7, 3), (37, .iload_n 1, 1), (38, .iload 6, 2), (40, .iadd, 1), (41, .iaload, 1), (42, .aload_n 0, 1), (43, .getfield 7, 3), (46, .iload_n 3, 1), (47, .iload 6, 2), (49, .iadd, 1), (50, .iaload, 1), (51, .if_icmp .ne 7, 3), (54, .iconst 1, 1), (55, .goto 4, 3), (58, .iconst 0, 1), (59, .istore 5, 2), (61, .iinc 6 1, 3), (64, .goto (-44), 3), (67, .iload 5, 2), (69, .ireturn, 1)]
def M_255 : mI := (⟨"EdgeHouseModel", "isSame", "(IIII)Z"⟩, prog_13_method_13_code, 7, 4, (some FieldType.boolean), [(7, 14, 1, 0)], [], [], Kk_255)
def Kk_256 : List (Nat × Instr × Nat) := [(0, .aload_n 0, 1), (1, .getfield 23, 3), (4, .aload_n 0, 1), (5, .getfield 209, 3), (8, .iconst 1, 1), (9, .isub, 1), (10, .iaload, 1), (11, .istore_n 2, 1), (12, .aload_n 0, 1), (13, .getfield 26, 3), (16, .aload_n 0, 1), (17, .getfield 209, 3), (20, .iconst 1, 1), (21, .isub, 1), (22, .iaload, 1), (23, .iload_n 2, 1), (24, .isub, 1), (25, .aload_n 1, 1), (26, .invokevirtual 181, 3), (29, .if_icmp .ne 7, 3), (32, .iconst 1, 1), (33, .goto 4, 3), (36, .iconst 0, 1), (37, .istore_n 3, 1), (38, .iconst 0, 1), (39, .istore 4, 2), (41, .iload_n 3, 1), (42, .ifCond .eq 42, 3), (45, .iload 4, 2), (47, .aload_n 1, 1), (48, .invokevirtual 181, 3), (51, .if_icmp .ge 33, 3), (54, .aload_n 0, 1), (55, .getfield 7, 3), (58, .iload_n 2, 1), (59, .iload 4, 2), (61, .iadd, 1), (62, .iaload, 1), (63, .aload_n 1, 1), (64, .iload 4, 2), (66, .invokevirtual 186, 3), (69, .if_icmp .ne 7, 3), (72, .iconst 1, 1), (73, .goto 4, 3), (76, .iconst 0, 1), (77, .istore_n 3, 1), (78, .iinc 4 1, 3), (81, .goto (-40), 3), (84, .iload_n 3, 1), (85, .ireturn, 1)]
def M_256 : mI := (⟨"EdgeHouseModel", "isNamed", "(Ljava/lang/String;)Z"⟩, prog_13_method_14_code, 5, 1, (some FieldType.boolean), [(7, 14, 1, 0), (23, 14, 32, 0), (26, 14, 33, 0), (209, 14, 31, 1)], [(181, 1, 24, 12), (186, 1, 26, 12)], [], Kk_256)
def Kk_257 : List (Nat × Instr × Nat) := [(0, .aload_n 0, 1), (1, .ldc 216, 2), (3, .invokevirtual 218, 3), (6, .pop, 1), (7, .aload_n 0, 1), (8, .getfield 166, 3), (11, .ifCond .eq 4, 3), (14, .return_, 1), (15, .aload_n 0, 1), (16, .invokevirtual 173, 3), (19, .bipush 45, 2), (21, .if_icmp .ne 29, 3), (24, .aload_n 0, 1), (25, .dup, 1), (26, .getfield 163, 3), (29, .iconst 1, 1), (30, .iadd, 1), (31, .putfield 163, 3), (34, .aload_n 0, 1), (35, .iconst 3, 1), (36, .putfield 222, 3), (39, .aload_n 0, 1), (40, .aload_n 0, 1), (41, .ldc 225, 2), (43, .invokevirtual 196, 3), (46, .putfield 226, 3), (49, .return_, 1), (50, .aload_n 0, 1), (51, .aload_n 0, 1), (52, .ldc 225, 2), (54, .invokevirtual 196, 3), (57, .putfield 226, 3), (60, .aload_n 0, 1), (61, .bipush 45, 2), (63, .invokevirtual 190, 3), (66, .pop, 1), (67, .aload_n 0, 1), (68, .getfield 166, 3), (71, .ifCond .eq 4, 3), (74, .return_, 1), (75, .aload_n 0, 1), (76, .iconst 2, 1), (77, .putfield 222, 3), (80, .aload_n 0, 1), (81, .invokevirtual 173, 3), (84, .invokestatic 193, 3), (87, .ifCond .ne 4, 3), (90, .return_, 1), (91, .aload_n 0, 1), (92, .aload_n 0, 1), (93, .ldc 225, 2), (95, .invokevirtual 196, 3), (98, .putfield 229, 3), (101, .aload_n 0, 1), (102, .aload_n 0, 1), (103, .getfield 226, 3), (106, .aload_n 0, 1), (107, .getfield 229, 3), (110, .if_icmp .le 7, 3), (113, .iconst 0, 1), (114, .goto 4, 3), (117, .iconst 1, 1), (118, .putfield 222, 3), (121, .return_, 1)]
def M_257 : mI := (⟨"EdgeHouseModel", "range", "()V"⟩, prog_13_method_16_code, 1, 0, none, [(163, 14, 4, 1), (166, 14, 5, 1), (222, 14, 9, 1), (226, 14, 10, 1), (229, 14, 11, 1)], [(173, 1, 245, 14), (190, 1, 247, 14), (193, 2, 251, 0), (196, 1, 250, 14), (218, 1, 246, 14)], [(216, 5, 55, .null), (225, 2, 0, .int (99999))], Kk_257)
def Kk_258 : List (Nat × Instr × Nat) := [(0, .aload_n 0, 1), (1, .invokevirtual 173, 3), (4, .bipush 42, 2), (6, .if_icmp .ne 19, 3), (9, .aload_n 0, 1), (10, .dup, 1), (11, .getfield 163, 3), (14, .iconst 1, 1), (15, .iadd, 1), (16, .putfield 163, 3), (19, .aload_n 0, 1), (20, .iconst 1, 1), (21, .putfield 232, 3), (24, .return_, 1), (25, .iconst 1, 1), (26, .istore_n 1, 1), (27, .iload_n 1, 1), (28, .ifCond .eq 107, 3), (31, .aload_n 0, 1), (32, .getfield 166, 3), (35, .ifCond .ne 100, 3), (38, .aload_n 0, 1), (39, .bipush 34, 2), (41, .invokevirtual 190, 3), (44, .pop, 1), (45, .aload_n 0, 1), (46, .ldc 225, 2), (48, .invokevirtual 196, 3), (51, .istore_n 2, 1), (52, .aload_n 0, 1), (53, .bipush 34, 2), (55, .invokevirtual 190, 3), (58, .pop, 1), (59, .aload_n 0, 1), (60, .getfield 166, 3), (63, .ifCond .eq 4, 3), (66, .return_, 1), (67, .aload_n 0, 1), (68, .getfield 20, 3), (71, .aload_n 0, 1), (72, .getfield 235, 3), (75, .iload_n 2, 1), (76, .iastore, 1), (77, .aload_n 0, 1), (78, .dup, 1), (79, .getfield 235, 3), (82, .iconst 1, 1), (83, .iadd, 1), (84, .putfield 235, 3), (87, .aload_n 0, 1), (88, .invokevirtual 173, 3), (91, .bipush 44, 2), (93, .if_icmp .ne 16, 3), (96, .aload_n 0, 1), (97, .getfield 235, 3), (100, .bipush 8, 2), (102, .if_icmp .ge 7, 3), (105, .iconst 1, 1), (106, .goto 4, 3), (109, .iconst 0, 1), (110, .istore_n 1, 1), (111, .iload_n 1, 1), (112, .ifCond .eq 20, 3), (115, .aload_n 0, 1), (116, .dup, 1), (117, .getfield 163, 3), (120, .iconst 1, 1), (121, .iadd, 1), (122, .putfield 163, 3), (125, .aload_n 0, 1), (126, .bipush 32, 2), (128, .invokevirtual 190, 3), (131, .pop, 1), (132, .goto (-105), 3), (135, .return_, 1)]
def M_258 : mI := (⟨"EdgeHouseModel", "matching", "()V"⟩, prog_13_method_17_code, 3, 0, none, [(20, 14, 22, 0), (163, 14, 4, 1), (166, 14, 5, 1), (232, 14, 17, 1), (235, 14, 12, 1)], [(173, 1, 245, 14), (190, 1, 247, 14), (196, 1, 250, 14)], [(225, 2, 0, .int (99999))], Kk_258)
def Kk_259 : List (Nat × Instr × Nat) := [(0, .aload_n 0, 1), (1, .bipush 34, 2), (3, .invokevirtual 190, 3), (6, .pop, 1), (7, .aload_n 0, 1), (8, .ldc 225, 2), (10, .invokevirtual 196, 3), (13, .istore_n 1, 1), (14, .aload_n 0, 1), (15, .bipush 34, 2), (17, .invokevirtual 190, 3), (20, .pop, 1), (21, .iload_n 1, 1), (22, .ireturn, 1)]
def M_259 : mI := (⟨"EdgeHouseModel", "tag", "()I"⟩, prog_13_method_25_code, 2, 0, (some FieldType.int), [], [(190, 1, 247, 14), (196, 1, 250, 14)], [(225, 2, 0, .int (99999))], Kk_259)
def Kk_260 : List (Nat × Instr × Nat) := [(0, .iconst 1, 1), (1, .istore_n 2, 1), (2, .iload_n 2, 1), (3, .ifCond .eq 277, 3), (6, .aload_n 0, 1), (7, .getfield 166, 3), (10, .ifCond .ne 270, 3), (13, .aload_n 0, 1), (14, .aload_n 0, 1), (15, .getfield 163, 3), (18, .putfield 238, 3), (21, .aload_n 0, 1), (22, .invokevirtual 173, 3), (25, .invokestatic 206, 3), (28, .ifCond .eq 16, 3), (31, .aload_n 0, 1), (32, .dup, 1), (33, .getfield 163, 3), (36, .iconst 1, 1), (37, .iadd, 1), (38, .putfield 163, 3), (41, .goto (-20), 3), (44, .aload_n 0, 1), (45, .aload_n 0, 1), (46, .getfield 163, 3), (49, .putfield 241, 3), (52, .aload_n 0, 1), (53, .getfield 163, 3), (56, .aload_n 0, 1), (57, .getfield 238, 3), (60, .if_icmp .ne 15, 3), (63, .aload_n 0, 1), (64, .aload_n 0, 1), (65, .getfield 163, 3), (68, .invokevirtual 177, 3), (71, .pop, 1), (72, .goto 26, 3), (75, .aload_n 0, 1), (76, .getfield 163, 3), (79, .aload_n 0, 1), (80, .getfield 238, 3), (83, .isub, 1), (84, .bipush 30, 2), (86, .if_icmp .le 12, 3), (89, .aload_n 0, 1), (90, .aload_n 0, 1), (91, .getfield 238, 3), (94, .invokevirtual 177, 3), (97, .pop, 1), (98, .aload_n 0, 1), (99, .iconst (-1), 1), (100, .putfield 244, 3), (103, .aload_n 0, 1), (104, .getfield 166, 3), (107, .ifCond .ne 32, 3), (110, .aload_n 0, 1), (111, .invokevirtual 173, 3), (114, .bipush 61, 2), (116, .if_icmp .ne 23, 3), (119, .aload_n 0, 1), (120, .dup, 1), (121, .getfield 163, 3), (124, .iconst 1, 1), (125, .iadd, 1), (126, .putfield 163, 3), (129, .aload_n 0, 1), (130, .aload_n 0, 1), (131, .ldc 225, 2), (133, .invokevirtual 196, 3), (136, .putfield 244, 3), (139, .aload_n 0, 1), (140, .getfield 166, 3), (143, .ifCond .eq 4, 3), (146, .return_, 1), (147, .iload_n 1, 1), (148, .tableswitch 89 0 3 #[32, 39, 46, 53], 32), (180, .aload_n 0, 1), (181, .invokevirtual 247, 3), (184, .goto 57, 3), (187, .aload_n 0, 1), (188, .invokevirtual 250, 3), (191, .goto 50, 3), (194, .aload_n 0, 1), (195, .invokevirtual 253, 3), (198, .goto 43, 3), (201, .aload_n 0, 1), (202, .ldc_w 256, 3), (205, .invokevirtual 258, 3), (208, .ifCond .eq 33, 3), (211, .aload_n 0, 1), (212, .getfield 17, 3), (215, .iconst 4, 1), (216, .aload_n 0, 1), (217, .getfield 244, 3), (220, .iconst (-1), 1), (221, .if_icmp .ne 8, 3), (224, .bipush 9, 2), (226, .goto 7, 3), (229, .aload_n 0, 1), (230, .getfield 244, 3), (233, .iastore, 1), (234, .goto 7, 3), (237, .aload_n 0, 1), (238, .invokevirtual 261, 3), (241, .aload_n 0, 1), (242, .invokevirtual 173, 3), (245, .bipush 44, 2), (247, .if_icmp .ne 7, 3), (250, .iconst 1, 1), (251, .goto 4, 3), (254, .iconst 0, 1), (255, .istore_n 2, 1), (256, .iload_n 2, 1), (257, .ifCond .eq (-255), 3), (260, .aload_n 0, 1), (261, .dup, 1), (262, .getfield 163, 3), (265, .iconst 1, 1), (266, .iadd, 1), (267, .putfield 163, 3), (270, .aload_n 0, 1), (271, .bipush 32, 2), (273, .invokevirtual 190, 3), (276, .pop, 1), (277, .goto (-275), 3), (280, .return_, 1)]
def M_260 : mI := (⟨"EdgeHouseModel", "list", "(I)V"⟩, prog_13_method_18_code, 3, 1, none, [(17, 14, 21, 0), (163, 14, 4, 1), (166, 14, 5, 1), (238, 14, 80, 1), (241, 14, 81, 1), (244, 14, 82, 1)], [(173, 1, 245, 14), (177, 1, 248, 14), (190, 1, 247, 14), (196, 1, 250, 14), (206, 2, 254, 0), (247, 1, 261, 14), (250, 1, 263, 14), (253, 1, 264, 14), (258, 1, 262, 14), (261, 1, 265, 14)], [(225, 2, 0, .int (99999)), (256, 5, 56, .null)], Kk_260)
def Kk_261 : List (Nat × Instr × Nat) := [(0, .aload_n 0, 1), (1, .getfield 244, 3), (4, .iconst (-1), 1), (5, .if_icmp .eq 7, 3), (8, .iconst 1, 1), (9, .goto 4, 3), (12, .iconst 0, 1), (13, .istore_n 1, 1), (14, .iload_n 1, 1), (15, .ifCond .ne 18, 3), (18, .aload_n 0, 1), (19, .ldc_w 264, 3), (22, .invokevirtual 258, 3), (25, .ifCond .eq 8, 3), (28, .aload_n 0, 1), (29, .iconst 1, 1), (30, .putfield 266, 3), (33, .iload_n 1, 1), (34, .ifCond .ne 18, 3), (37, .aload_n 0, 1), (38, .ldc_w 269, 3), (41, .invokevirtual 258, 3), (44, .ifCond .eq 8, 3), (47, .aload_n 0, 1), (48, .iconst 1, 1), (49, .putfield 271, 3), (52, .iload_n 1, 1), (53, .ifCond .eq 21, 3), (56, .aload_n 0, 1), (57, .ldc_w 274, 3), (60, .invokevirtual 258, 3), (63, .ifCond .eq 11, 3), (66, .aload_n 0, 1), (67, .aload_n 0, 1), (68, .getfield 244, 3), (71, .putfield 276, 3), (74, .aload_n 0, 1), (75, .ldc_w 279, 3), (78, .invokevirtual 258, 3), (81, .ifCond .eq 21, 3), (84, .aload_n 0, 1), (85, .iload_n 1, 1), (86, .ifCond .eq 10, 3), (89, .aload_n 0, 1), (90, .getfield 244, 3), (93, .goto 6, 3), (96, .ldc_w 281, 3), (99, .putfield 282, 3), (102, .iload_n 1, 1), (103, .ifCond .eq 21, 3), (106, .aload_n 0, 1), (107, .ldc_w 285, 3), (110, .invokevirtual 258, 3), (113, .ifCond .eq 11, 3), (116, .aload_n 0, 1), (117, .aload_n 0, 1), (118, .getfield 244, 3), (121, .putfield 287, 3), (124, .return_, 1)]
def M_261 : mI := (⟨"EdgeHouseModel", "requestWord", "()V"⟩, prog_13_method_20_code, 2, 0, none, [(244, 14, 82, 1), (266, 14, 18, 1), (271, 14, 19, 1), (276, 14, 13, 1), (282, 14, 14, 1), (287, 14, 15, 1)], [(258, 1, 262, 14)], [(264, 5, 57, .null), (269, 5, 58, .null), (274, 5, 59, .null), (279, 5, 60, .null), (281, 2, 0, .int (1000000000)), (285, 5, 61, .null)], Kk_261)
def Kk_262 : List (Nat × Instr × Nat) := [(0, .aload_n 0, 1), (1, .getfield 241, 3), (4, .aload_n 0, 1), (5, .getfield 238, 3), (8, .isub, 1), (9, .aload_n 1, 1), (10, .invokevirtual 181, 3), (13, .if_icmp .ne 7, 3), (16, .iconst 1, 1), (17, .goto 4, 3), (20, .iconst 0, 1), (21, .istore_n 2, 1), (22, .iconst 0, 1), (23, .istore_n 3, 1), (24, .iload_n 2, 1), (25, .ifCond .eq 42, 3), (28, .iload_n 3, 1), (29, .aload_n 1, 1), (30, .invokevirtual 181, 3), (33, .if_icmp .ge 34, 3), (36, .aload_n 0, 1), (37, .getfield 7, 3), (40, .aload_n 0, 1), (41, .getfield 238, 3), (44, .iload_n 3, 1), (45, .iadd, 1), (46, .iaload, 1), (47, .aload_n 1, 1), (48, .iload_n 3, 1), (49, .invokevirtual 186, 3), (52, .if_icmp .ne 7, 3), (55, .iconst 1, 1), (56, .goto 4, 3), (59, .iconst 0, 1), (60, .istore_n 2, 1), (61, .iinc 3 1, 3), (64, .goto (-40), 3), (67, .iload_n 2, 1), (68, .ireturn, 1)]
def M_262 : mI := (⟨"EdgeHouseModel", "isWord", "(Ljava/lang/String;)Z"⟩, prog_13_method_19_code, 4, 1, (some FieldType.boolean), [(7, 14, 1, 0), (238, 14, 80, 1), (241, 14, 81, 1)], [(181, 1, 24, 12), (186, 1, 26, 12)], [], Kk_262)
def Kk_263 : List (Nat × Instr × Nat) := [(0, .aload_n 0, 1), (1, .getfield 244, 3), (4, .iconst (-1), 1), (5, .if_icmp .eq 7, 3), (8, .iconst 1, 1), (9, .goto 4, 3), (12, .iconst 0, 1), (13, .istore_n 1, 1), (14, .iload_n 1, 1), (15, .ifCond .ne 18, 3), (18, .aload_n 0, 1), (19, .ldc_w 290, 3), (22, .invokevirtual 258, 3), (25, .ifCond .eq 8, 3), (28, .aload_n 0, 1), (29, .iconst 1, 1), (30, .putfield 292, 3), (33, .iload_n 1, 1), (34, .ifCond .ne 18, 3), (37, .aload_n 0, 1), (38, .ldc_w 264, 3), (41, .invokevirtual 258, 3), (44, .ifCond .eq 8, 3), (47, .aload_n 0, 1), (48, .iconst 1, 1), (49, .putfield 295, 3), (52, .iload_n 1, 1), (53, .ifCond .eq 21, 3), (56, .aload_n 0, 1), (57, .ldc_w 274, 3), (60, .invokevirtual 258, 3), (63, .ifCond .eq 11, 3), (66, .aload_n 0, 1), (67, .aload_n 0, 1), (68, .getfield 244, 3), (71, .putfield 298, 3), (74, .iload_n 1, 1), (75, .ifCond .eq 21, 3), (78, .aload_n 0, 1), (79, .ldc_w 301, 3), (82, .invokevirtual 258, 3), (85, .ifCond .eq 11, 3), (88, .aload_n 0, 1), (89, .aload_n 0, 1), (90, .getfield 244, 3), (93, .putfield 303, 3), (96, .iload_n 1, 1), (97, .ifCond .eq 21, 3), (100, .aload_n 0, 1), (101, .ldc_w 306, 3), (104, .invokevirtual 258, 3), (107, .ifCond .eq 11, 3), (110, .aload_n 0, 1), (111, .aload_n 0, 1), (112, .getfield 244, 3), (115, .putfield 308, 3), (118, .return_, 1)]
def M_263 : mI := (⟨"EdgeHouseModel", "thingWord", "()V"⟩, prog_13_method_21_code, 2, 0, none, [(244, 14, 82, 1), (292, 14, 29, 1), (295, 14, 30, 1), (298, 14, 25, 1), (303, 14, 26, 1), (308, 14, 27, 1)], [(258, 1, 262, 14)], [(264, 5, 57, .null), (274, 5, 59, .null), (290, 5, 62, .null), (301, 5, 63, .null), (306, 5, 64, .null)], Kk_263)
def Kk_264 : List (Nat × Instr × Nat) := [(0, .aload_n 0, 1), (1, .ldc_w 311, 3), (4, .invokevirtual 258, 3), (7, .ifCond .eq 7, 3), (10, .iconst 0, 1), (11, .goto 46, 3), (14, .aload_n 0, 1), (15, .ldc_w 313, 3), (18, .invokevirtual 258, 3), (21, .ifCond .eq 7, 3), (24, .iconst 1, 1), (25, .goto 32, 3), (28, .aload_n 0, 1), (29, .ldc_w 315, 3), (32, .invokevirtual 258, 3), (35, .ifCond .eq 7, 3), (38, .iconst 2, 1), (39, .goto 18, 3), (42, .aload_n 0, 1), (43, .ldc_w 317, 3), (46, .invokevirtual 258, 3), (49, .ifCond .eq 7, 3), (52, .iconst 3, 1), (53, .goto 4, 3), (56, .iconst (-1), 1), (57, .istore_n 1, 1), (58, .iload_n 1, 1), (59, .iconst (-1), 1), (60, .if_icmp .eq 26, 3), (63, .aload_n 0, 1), (64, .getfield 17, 3), (67, .iload_n 1, 1), (68, .aload_n 0, 1), (69, .getfield 244, 3), (72, .iconst (-1), 1), (73, .if_icmp .ne 8, 3), (76, .bipush 9, 2), (78, .goto 7, 3), (81, .aload_n 0, 1), (82, .getfield 244, 3), (85, .iastore, 1), (86, .return_, 1)]
def M_264 : mI := (⟨"EdgeHouseModel", "weighWord", "()V"⟩, prog_13_method_22_code, 2, 0, none, [(17, 14, 21, 0), (244, 14, 82, 1)], [(258, 1, 262, 14)], [(311, 5, 65, .null), (313, 5, 66, .null), (315, 5, 67, .null), (317, 5, 68, .null)], Kk_264)
def Kk_265 : List (Nat × Instr × Nat) := [(0, .aload_n 0, 1), (1, .getfield 244, 3), (4, .iconst (-1), 1), (5, .if_icmp .eq 4, 3), (8, .return_, 1), (9, .aload_n 0, 1), (10, .dup, 1), (11, .getfield 319, 3), (14, .aload_n 0, 1), (15, .ldc_w 322, 3), (18, .invokevirtual 258, 3), (21, .ifCond .eq 7, 3), (24, .iconst 1, 1), (25, .goto 18, 3), (28, .aload_n 0, 1), (29, .ldc_w 324, 3), (32, .invokevirtual 258, 3), (35, .ifCond .eq 7, 3), (38, .iconst 2, 1), (39, .goto 4, 3), (42, .iconst 0, 1), (43, .ior, 1), (44, .putfield 319, 3), (47, .return_, 1)]
def M_265 : mI := (⟨"EdgeHouseModel", "varyWord", "()V"⟩, prog_13_method_23_code, 1, 0, none, [(244, 14, 82, 1), (319, 14, 28, 1)], [(258, 1, 262, 14)], [(322, 5, 69, .null), (324, 5, 70, .null)], Kk_265)
def Kk_266 : List (Nat × Instr × Nat) := [(0, .iconst 0, 1), (1, .istore_n 1, 1), (2, .iconst 1, 1), (3, .istore_n 2, 1), (4, .iload_n 2, 1), (5, .ifCond .eq 107, 3), (8, .aload_n 0, 1), (9, .getfield 166, 3), (12, .ifCond .ne 100, 3), (15, .aload_n 0, 1), (16, .invokevirtual 173, 3), (19, .bipush 97, 2), (21, .if_icmp .lt 12, 3), (24, .aload_n 0, 1), (25, .invokevirtual 173, 3), (28, .bipush 104, 2), (30, .if_icmp .le 13, 3), (33, .aload_n 0, 1), (34, .aload_n 0, 1), (35, .getfield 163, 3), (38, .invokevirtual 177, 3), (41, .pop, 1), (42, .return_, 1), (43, .aload_n 0, 1), (44, .dup, 1), (45, .getfield 326, 3), (48, .iconst 1, 1), (49, .aload_n 0, 1), (50, .invokevirtual 173, 3), (53, .bipush 97, 2), (55, .isub, 1), (56, .ishl, 1), (57, .ior, 1), (58, .putfield 326, 3), (61, .aload_n 0, 1), (62, .dup, 1), (63, .getfield 163, 3), (66, .iconst 1, 1), (67, .iadd, 1), (68, .putfield 163, 3), (71, .iinc 1 1, 3), (74, .aload_n 0, 1), (75, .invokevirtual 173, 3), (78, .bipush 32, 2), (80, .if_icmp .ne 13, 3), (83, .iload_n 1, 1), (84, .bipush 8, 2), (86, .if_icmp .ge 7, 3), (89, .iconst 1, 1), (90, .goto 4, 3), (93, .iconst 0, 1), (94, .istore_n 2, 1), (95, .iload_n 2, 1), (96, .ifCond .eq (-92), 3), (99, .aload_n 0, 1), (100, .dup, 1), (101, .getfield 163, 3), (104, .iconst 1, 1), (105, .iadd, 1), (106, .putfield 163, 3), (109, .goto (-105), 3), (112, .return_, 1)]
def M_266 : mI := (⟨"EdgeHouseModel", "keyLetters", "()V"⟩, prog_13_method_26_code, 3, 0, none, [(163, 14, 4, 1), (166, 14, 5, 1), (326, 14, 24, 1)], [(173, 1, 245, 14), (177, 1, 248, 14)], [], Kk_266)
def Kk_267 : List (Nat × Instr × Nat) := [(0, .aload_n 0, 1), (1, .invokevirtual 173, 3), (4, .bipush 10, 2), (6, .if_icmp .eq 27, 3), (9, .aload_n 0, 1), (10, .getfield 163, 3), (13, .aload_n 0, 1), (14, .getfield 158, 3), (17, .if_icmp .ge 16, 3), (20, .aload_n 0, 1), (21, .dup, 1), (22, .getfield 163, 3), (25, .iconst 1, 1), (26, .iadd, 1), (27, .putfield 163, 3), (30, .goto (-30), 3), (33, .return_, 1)]
def M_267 : mI := (⟨"EdgeHouseModel", "anyValue", "()V"⟩, prog_13_method_15_code, 1, 0, none, [(158, 14, 2, 1), (163, 14, 4, 1)], [(173, 1, 245, 14)], [], Kk_267)
def Kk_268 : List (Nat × Instr × Nat) := [(0, .aload_n 0, 1), (1, .iconst 0, 1), (2, .putfield 155, 3), (5, .iload_n 1, 1), (6, .ifCond .lt 21, 3), (9, .iload_n 1, 1), (10, .bipush 31, 2), (12, .if_icmp .gt 15, 3), (15, .aload_n 0, 1), (16, .getfield 29, 3), (19, .bipush 9, 2), (21, .iload_n 1, 1), (22, .imul, 1), (23, .iaload, 1), (24, .ifCond .ne 5, 3), (27, .iconst 0, 1), (28, .ireturn, 1), (29, .aload_n 0, 1), (30, .getfield 29, 3), (33, .bipush 9, 2), (35, .iload_n 1, 1), (36, .imul, 1), (37, .iconst 0, 1), (38, .iastore, 1), (39, .iconst 1, 1), (40, .ireturn, 1)]
def M_268 : mI := (⟨"EdgeHouseModel", "drop", "(I)Z"⟩, prog_13_method_83_code, 2, 1, (some FieldType.boolean), [(29, 14, 34, 0), (155, 14, 0, 1)], [], [], Kk_268)
def Kk_269 : List (Nat × Instr × Nat) := [(0, .aload_n 0, 1), (1, .iconst 0, 1), (2, .putfield 155, 3), (5, .aload_n 0, 1), (6, .getfield 612, 3), (9, .sipush 300, 3), (12, .if_icmp .ne 5, 3), (15, .iconst (-1), 1), (16, .ireturn, 1), (17, .aload_n 0, 1), (18, .getfield 612, 3), (21, .istore_n 1, 1), (22, .aload_n 0, 1), (23, .dup, 1), (24, .getfield 612, 3), (27, .iconst 1, 1), (28, .iadd, 1), (29, .putfield 612, 3), (32, .aload_n 0, 1), (33, .getfield 127, 3), (36, .iload_n 1, 1), (37, .iconst 1, 1), (38, .bastore, 1), (39, .aload_n 0, 1), (40, .iconst 1, 1), (41, .invokevirtual 608, 3), (44, .ifCond .ne 15, 3), (47, .aload_n 0, 1), (48, .iload_n 1, 1), (49, .sipush 400, 3), (52, .iconst 0, 1), (53, .iconst 0, 1), (54, .invokevirtual 497, 3), (57, .iload_n 1, 1), (58, .ireturn, 1), (59, .bipush 23, 2), (61, .iload_n 1, 1), (62, .imul, 1), (63, .istore_n 2, 1), (64, .aload_n 0, 1), (65, .getfield 124, 3), (68, .iload_n 2, 1), (69, .aload_n 0, 1), (70, .getfield 200, 3), (73, .iastore, 1), (74, .aload_n 0, 1), (75, .getfield 124, 3), (78, .iload_n 2, 1), (79, .iconst 1, 1), (80, .iadd, 1), (81, .aload_n 0, 1), (82, .getfield 203, 3), (85, .iastore, 1), (86, .aload_n 0, 1), (87, .getfield 124, 3), (90, .iload_n 2, 1), (91, .iconst 2, 1), (92, .iadd, 1), (93, .aload_n 0, 1), (94, .getfield 329, 3), (97, .ifCond .eq 7, 3), (100, .iconst 1, 1), (101, .goto 4, 3), (104, .iconst 0, 1), (105, .iastore, 1), (106, .aload_n 0, 1), (107, .getfield 124, 3), (110, .iload_n 2, 1), (111, .iconst 3, 1), (112, .iadd, 1), (113, .aload_n 0, 1), (114, .getfield 222, 3), (117, .iastore, 1), (118, .aload_n 0, 1), (119, .getfield 124, 3), (122, .iload_n 2, 1), (123, .iconst 4, 1), (124, .iadd, 1), (125, .aload_n 0, 1), (126, .getfield 226, 3), (129, .iastore, 1), (130, .aload_n 0, 1), (131, .getfield 124, 3), (134, .iload_n 2, 1), (135, .iconst 5, 1), (136, .iadd, 1), (137, .aload_n 0, 1), (138, .getfield 229, 3), (141, .iastore, 1), (142, .aload_n 0, 1), (143, .getfield 124, 3), (146, .iload_n 2, 1), (147, .bipush 6, 2), (149, .iadd, 1), (150, .aload_n 0, 1), (151, .getfield 232, 3), (154, .ifCond .eq 7, 3), (157, .iconst 1, 1), (158, .goto 4, 3), (161, .iconst 0, 1), (162, .iastore, 1), (163, .aload_n 0, 1), (164, .getfield 124, 3), (167, .iload_n 2, 1), (168, .bipush 7, 2), (170, .iadd, 1), (171, .aload_n 0, 1), (172, .getfield 235, 3), (175, .iastore, 1), (176, .iconst 0, 1), (177, .istore_n 3, 1), (178, .iload_n 3, 1), (179, .bipush 8, 2), (181, .if_icmp .ge 26, 3), (184, .aload_n 0, 1), (185, .getfield 124, 3), (188, .iload_n 2, 1), (189, .bipush 8, 2), (191, .iadd, 1), (192, .iload_n 3, 1), (193, .iadd, 1), (194, .aload_n 0, 1), (195, .getfield 20, 3), (198, .iload_n 3, 1), (199, .iaload, 1), (200, .iastore, 1), (201, .iinc 3 1, 3), (204, .goto (-26), 3), (207, .aload_n 0, 1), (208, .getfield 124, 3), (211, .iload_n 2, 1), (212, .bipush 16, 2), (214, .iadd, 1), (215, .aload_n 0, 1), (216, .getfield 266, 3), (219, .ifCond .eq 7, 3), (222, .iconst 1, 1), (223, .goto 4, 3), (226, .iconst 0, 1), (227, .iastore, 1), (228, .aload_n 0, 1), (229, .getfield 124, 3), (232, .iload_n 2, 1), (233, .bipush 17, 2), (235, .iadd, 1), (236, .aload_n 0, 1), (237, .getfield 271, 3), (240, .ifCond .eq 7, 3), (243, .iconst 1, 1), (244, .goto 4, 3), (247, .iconst 0, 1), (248, .iastore, 1), (249, .aload_n 0, 1), (250, .getfield 124, 3), (253, .iload_n 2, 1), (254, .bipush 18, 2), (256, .iadd, 1), (257, .aload_n 0, 1), (258, .getfield 276, 3), (261, .iastore, 1), (262, .aload_n 0, 1), (263, .getfield 124, 3), (266, .iload_n 2, 1), (267, .bipush 19, 2), (269, .iadd, 1), (270, .aload_n 0, 1), (271, .getfield 282, 3), (274, .iastore, 1), (275, .aload_n 0, 1), (276, .getfield 124, 3), (279, .iload_n 2, 1), (280, .bipush 20, 2), (282, .iadd, 1), (283, .aload_n 0, 1), (284, .getfield 287, 3), (287, .iastore, 1), (288, .aload_n 0, 1), (289, .getfield 124, 3), (292, .iload_n 2, 1), (293, .bipush 21, 2), (295, .iadd, 1), (296, .aload_n 0, 1), (297, .getfield 334, 3), (300, .iastore, 1), (301, .aload_n 0, 1), (302, .getfield 124, 3), (305, .iload_n 2, 1), (306, .bipush 22, 2), (308, .iadd, 1), (309, .aload_n 0, 1), (310, .invokevirtual 615, 3), (313, .iastore, 1), (314, .iconst 4, 1), (315, .aload_n 0, 1), (316, .getfield 200, 3), (319, .imul, 1), (320, .aload_n 0, 1), (321, .getfield 203, 3), (324, .iadd, 1), (325, .istore_n 3, 1), (326, .aload_n 0, 1), (327, .iconst 3, 1), (328, .bipush 6, 2), (330, .iload_n 3, 1), (331, .iconst 0, 1), (332, .invokevirtual 510, 3), (335, .istore 4, 2), (337, .iload 4, 2), (339, .iconst (-1), 1), (340, .if_icmp .ne 15, 3), (343, .aload_n 0, 1), (344, .iload_n 1, 1), (345, .sipush 503, 3), (348, .iconst 0, 1), (349, .iconst 0, 1), (350, .invokevirtual 497, 3), (353, .iload_n 1, 1), (354, .ireturn, 1), (355, .aload_n 0, 1), (356, .getfield 146, 3), (359, .bipush 9, 2), (361, .iload_n 1, 1), (362, .imul, 1), (363, .bipush 6, 2), (365, .iadd, 1), (366, .iload 4, 2), (368, .iastore, 1), (369, .aload_n 0, 1), (370, .invokevirtual 584, 3), (373, .istore 5, 2), (375, .iconst 0, 1), (376, .istore 6, 2), (378, .iload 6, 2), (380, .bipush 12, 2), (382, .if_icmp .ge 20, 3), (385, .aload_n 0, 1), (386, .getfield 131, 3), (389, .iload 5, 2), (391, .iload 6, 2), (393, .iadd, 1), (394, .iconst 0, 1), (395, .iastore, 1), (396, .iinc 6 1, 3), (399, .goto (-21), 3), (402, .aload_n 0, 1), (403, .getfield 131, 3), (406, .iload 5, 2), (408, .iload 4, 2), (410, .iastore, 1), (411, .aload_n 0, 1), (412, .getfield 131, 3), (415, .iload 5, 2), (417, .iconst 1, 1), (418, .iadd, 1), (419, .iload_n 3, 1), (420, .iastore, 1), (421, .aload_n 0, 1), (422, .getfield 131, 3), (425, .iload 5, 2), (427, .iconst 2, 1), (428, .iadd, 1), (429, .iload_n 1, 1), (430, .iastore, 1), (431, .aload_n 0, 1), (432, .getfield 131, 3), (435, .iload 5, 2), (437, .bipush 11, 2), (439, .iadd, 1), (440, .aload_n 0, 1), (441, .getfield 124, 3), (444, .iload_n 2, 1), (445, .bipush 22, 2), (447, .iadd, 1), (448, .iaload, 1), (449, .iastore, 1), (450, .aload_n 0, 1), (451, .iload 5, 2), (453, .invokevirtual 587, 3), (456, .iload_n 1, 1), (457, .ireturn, 1)]
def M_269 : mI := (⟨"EdgeHouseModel", "ask", "()I"⟩, prog_13_method_84_code, 7, 0, (some FieldType.int), [(20, 14, 22, 0), (124, 14, 72, 0), (127, 14, 73, 0), (131, 14, 75, 0), (146, 14, 88, 0), (155, 14, 0, 1), (200, 14, 7, 1), (203, 14, 8, 1), (222, 14, 9, 1), (226, 14, 10, 1), (229, 14, 11, 1), (232, 14, 17, 1), (235, 14, 12, 1), (266, 14, 18, 1), (271, 14, 19, 1), (276, 14, 13, 1), (282, 14, 14, 1), (287, 14, 15, 1), (329, 14, 16, 1), (334, 14, 20, 1), (612, 14, 70, 1)], [(497, 1, 270, 14), (510, 1, 272, 14), (584, 1, 275, 14), (587, 1, 276, 14), (608, 1, 244, 14), (615, 1, 271, 14)], [], Kk_269)
def Kk_270 : List (Nat × Instr × Nat) := [(0, .bipush 9, 2), (2, .iload_n 1, 1), (3, .imul, 1), (4, .istore 5, 2), (6, .aload_n 0, 1), (7, .getfield 127, 3), (10, .iload_n 1, 1), (11, .iconst 0, 1), (12, .bastore, 1), (13, .aload_n 0, 1), (14, .dup, 1), (15, .getfield 563, 3), (18, .iconst 1, 1), (19, .iadd, 1), (20, .putfield 563, 3), (23, .aload_n 0, 1), (24, .getfield 146, 3), (27, .iload 5, 2), (29, .iload_n 2, 1), (30, .iastore, 1), (31, .aload_n 0, 1), (32, .getfield 146, 3), (35, .iload 5, 2), (37, .iconst 1, 1), (38, .iadd, 1), (39, .iload 4, 2), (41, .iconst 1, 1), (42, .if_icmp .ne 12, 3), (45, .aload_n 0, 1), (46, .getfield 143, 3), (49, .iconst 0, 1), (50, .iaload, 1), (51, .goto 4, 3), (54, .iconst 0, 1), (55, .iastore, 1), (56, .aload_n 0, 1), (57, .getfield 146, 3), (60, .iload 5, 2), (62, .iconst 2, 1), (63, .iadd, 1), (64, .iload 4, 2), (66, .iconst 1, 1), (67, .if_icmp .ne 10, 3), (70, .aload_n 0, 1), (71, .getfield 548, 3), (74, .goto 4, 3), (77, .iconst 0, 1), (78, .iastore, 1), (79, .aload_n 0, 1), (80, .getfield 146, 3), (83, .iload 5, 2), (85, .iconst 3, 1), (86, .iadd, 1), (87, .iload 4, 2), (89, .iconst 1, 1), (90, .if_icmp .ne 12, 3), (93, .aload_n 0, 1), (94, .getfield 143, 3), (97, .iconst 1, 1), (98, .iaload, 1), (99, .goto 4, 3), (102, .iconst 0, 1), (103, .iastore, 1), (104, .aload_n 0, 1), (105, .getfield 146, 3), (108, .iload 5, 2), (110, .iconst 4, 1), (111, .iadd, 1), (112, .iload 4, 2), (114, .iconst 1, 1), (115, .if_icmp .ne 7, 3), (118, .iload_n 3, 1), (119, .goto 4, 3), (122, .iconst 0, 1), (123, .iastore, 1), (124, .aload_n 0, 1), (125, .getfield 146, 3), (128, .iload 5, 2), (130, .iconst 5, 1), (131, .iadd, 1), (132, .aload_n 0, 1), (133, .getfield 390, 3), (136, .iastore, 1), (137, .aload_n 0, 1), (138, .getfield 146, 3), (141, .iload 5, 2), (143, .bipush 7, 2), (145, .iadd, 1), (146, .iload 4, 2), (148, .iconst 1, 1), (149, .if_icmp .ne 10, 3), (152, .aload_n 0, 1), (153, .getfield 542, 3), (156, .goto 4, 3), (159, .iconst 0, 1), (160, .iastore, 1), (161, .aload_n 0, 1), (162, .getfield 146, 3), (165, .iload 5, 2), (167, .bipush 8, 2), (169, .iadd, 1), (170, .iload 4, 2), (172, .iconst 1, 1), (173, .if_icmp .ne 13, 3), (176, .aload_n 0, 1), (177, .getfield 143, 3), (180, .bipush 8, 2), (182, .iaload, 1), (183, .goto 4, 3), (186, .iconst 0, 1), (187, .iastore, 1), (188, .return_, 1)]
def M_270 : mI := (⟨"EdgeHouseModel", "close", "(IIII)V"⟩, prog_13_method_70_code, 6, 4, none, [(127, 14, 73, 0), (143, 14, 83, 0), (146, 14, 88, 0), (390, 14, 36, 1), (542, 14, 87, 1), (548, 14, 85, 1), (563, 14, 71, 1)], [], [], Kk_270)
def Kk_271 : List (Nat × Instr × Nat) := [(0, .iconst 0, 1), (1, .istore_n 1, 1), (2, .iconst 1, 1), (3, .istore_n 2, 1), (4, .iload_n 2, 1), (5, .iconst 4, 1), (6, .if_icmp .ge 30, 3), (9, .aload_n 0, 1), (10, .getfield 17, 3), (13, .iload_n 2, 1), (14, .iaload, 1), (15, .aload_n 0, 1), (16, .getfield 17, 3), (19, .iload_n 1, 1), (20, .iaload, 1), (21, .if_icmp .le 7, 3), (24, .iload_n 2, 1), (25, .goto 4, 3), (28, .iload_n 1, 1), (29, .istore_n 1, 1), (30, .iinc 2 1, 3), (33, .goto (-29), 3), (36, .aload_n 0, 1), (37, .getfield 17, 3), (40, .iload_n 1, 1), (41, .iaload, 1), (42, .ifCond .le 7, 3), (45, .iload_n 1, 1), (46, .goto 4, 3), (49, .iconst 0, 1), (50, .aload_n 0, 1), (51, .getfield 17, 3), (54, .iconst 4, 1), (55, .iaload, 1), (56, .ifCond .le 7, 3), (59, .iconst 4, 1), (60, .goto 4, 3), (63, .iconst 0, 1), (64, .iadd, 1), (65, .ireturn, 1)]
def M_271 : mI := (⟨"EdgeHouseModel", "wanted", "()I"⟩, prog_13_method_24_code, 3, 0, (some FieldType.int), [(17, 14, 21, 0)], [], [], Kk_271)
def Kk_272 : List (Nat × Instr × Nat) := [(0, .bipush 64, 2), (2, .iload_n 3, 1), (3, .iconst 4, 1), (4, .idiv, 1), (5, .iadd, 1), (6, .iload_n 3, 1), (7, .iconst 4, 1), (8, .irem, 1), (9, .invokestatic 393, 3), (12, .istore 5, 2), (14, .iconst (-1), 1), (15, .istore 6, 2), (17, .ldc2_w 399, 3), (20, .lstore 7, 2), (22, .iload_n 1, 1), (23, .istore 9, 2), (25, .iload 9, 2), (27, .iload_n 2, 1), (28, .if_icmp .gt 100, 3), (31, .aload_n 0, 1), (32, .getfield 35, 3), (35, .iload 9, 2), (37, .baload, 1), (38, .ifCond .eq 84, 3), (41, .iload 4, 2), (43, .ifCond .le 17, 3), (46, .aload_n 0, 1), (47, .iload 4, 2), (49, .iload 9, 2), (51, .invokevirtual 401, 3), (54, .ifCond .eq 6, 3), (57, .goto 65, 3), (60, .iconst 0, 1), (61, .istore 10, 2), (63, .iload 10, 2), (65, .iconst 4, 1), (66, .if_icmp .ge 56, 3), (69, .iload 9, 2), (71, .iload 10, 2), (73, .invokestatic 393, 3), (76, .istore 11, 2), (78, .iload 11, 2), (80, .iload 5, 2), (82, .if_icmp .lt 9, 3), (85, .iload 11, 2), (87, .i2l, 1), (88, .goto 10, 3), (91, .iload 11, 2), (93, .i2l, 1), (94, .ldc2_w 405, 3), (97, .ladd, 1), (98, .lstore 12, 2), (100, .lload 12, 2), (102, .lload 7, 2), (104, .lcmp, 1), (105, .ifCond .ge 11, 3), (108, .lload 12, 2), (110, .lstore 7, 2), (112, .iload 9, 2), (114, .istore 6, 2), (116, .iinc 10 1, 3), (119, .goto (-56), 3), (122, .iinc 9 1, 3), (125, .goto (-100), 3), (128, .iload 6, 2), (130, .ireturn, 1)]
def M_272 : mI := (⟨"EdgeHouseModel", "ring", "(IIII)I"⟩, prog_13_method_31_code, 14, 4, (some FieldType.int), [(35, 14, 40, 0)], [(393, 2, 273, 0), (401, 1, 274, 14)], [(399, 3, 0, .long (9223372036854775807)), (405, 3, 0, .long (65536))], Kk_272)
def Kk_273 : List (Nat × Instr × Nat) := [(0, .iload_n 0, 1), (1, .ldc_w 387, 3), (4, .imul, 1), (5, .iload_n 1, 1), (6, .ldc_w 388, 3), (9, .imul, 1), (10, .iadd, 1), (11, .istore_n 2, 1), (12, .iload_n 2, 1), (13, .iload_n 2, 1), (14, .bipush 15, 2), (16, .iushr, 1), (17, .ixor, 1), (18, .istore_n 2, 1), (19, .iload_n 2, 1), (20, .ldc_w 389, 3), (23, .imul, 1), (24, .istore_n 2, 1), (25, .iload_n 2, 1), (26, .iload_n 2, 1), (27, .bipush 12, 2), (29, .iushr, 1), (30, .ixor, 1), (31, .istore_n 2, 1), (32, .iload_n 2, 1), (33, .bipush 16, 2), (35, .iushr, 1), (36, .ireturn, 1)]
def M_273 : mI := (⟨"EdgeHouseModel", "point", "(II)I"⟩, prog_13_method_29_code, 3, 2, (some FieldType.int), [], [], [(387, 2, 0, .int (-1640531535)), (388, 2, 0, .int (-2048144789)), (389, 2, 0, .int (739982445))], Kk_273)
def Kk_274 : List (Nat × Instr × Nat) := [(0, .aload_n 0, 1), (1, .getfield 390, 3), (4, .aload_n 0, 1), (5, .getfield 121, 3), (8, .iconst 2, 1), (9, .iload_n 1, 1), (10, .imul, 1), (11, .iload_n 2, 1), (12, .iadd, 1), (13, .iconst 1, 1), (14, .isub, 1), (15, .iaload, 1), (16, .if_icmp .ge 7, 3), (19, .iconst 1, 1), (20, .goto 4, 3), (23, .iconst 0, 1), (24, .ireturn, 1)]
def M_274 : mI := (⟨"EdgeHouseModel", "isShunned", "(II)Z"⟩, prog_13_method_30_code, 3, 2, (some FieldType.boolean), [(121, 14, 69, 0), (390, 14, 36, 1)], [], [], Kk_274)
def Kk_275 : List (Nat × Instr × Nat) := [(0, .bipush 12, 2), (2, .aload_n 0, 1), (3, .getfield 507, 3), (6, .iconst 1, 1), (7, .iadd, 1), (8, .imul, 1), (9, .ireturn, 1)]
def M_275 : mI := (⟨"EdgeHouseModel", "spare", "()I"⟩, prog_13_method_58_code, 1, 0, (some FieldType.int), [(507, 14, 74, 1)], [], [], Kk_275)
def Kk_276 : List (Nat × Instr × Nat) := [(0, .aload_n 0, 1), (1, .getfield 131, 3), (4, .iload_n 1, 1), (5, .iaload, 1), (6, .istore_n 2, 1), (7, .sipush 128, 3), (10, .iload_n 2, 1), (11, .imul, 1), (12, .aload_n 0, 1), (13, .getfield 131, 3), (16, .iload_n 1, 1), (17, .iconst 1, 1), (18, .iadd, 1), (19, .iaload, 1), (20, .iadd, 1), (21, .istore_n 3, 1), (22, .aload_n 0, 1), (23, .iload_n 3, 1), (24, .aload_n 0, 1), (25, .getfield 131, 3), (28, .iload_n 1, 1), (29, .bipush 11, 2), (31, .iadd, 1), (32, .iaload, 1), (33, .invokevirtual 468, 3), (36, .istore 4, 2), (38, .aload_n 0, 1), (39, .getfield 131, 3), (42, .iload_n 1, 1), (43, .iconst 2, 1), (44, .iadd, 1), (45, .iaload, 1), (46, .istore 5, 2), (48, .aload_n 0, 1), (49, .iload_n 1, 1), (50, .iload 4, 2), (52, .invokevirtual 471, 3), (55, .ifCond .eq 25, 3), (58, .aload_n 0, 1), (59, .iload_n 1, 1), (60, .invokevirtual 474, 3), (63, .ifCond .ne 17, 3), (66, .aload_n 0, 1), (67, .iload_n 1, 1), (68, .iload 4, 2), (70, .invokevirtual 477, 3), (73, .ifCond .eq 7, 3), (76, .iconst 1, 1), (77, .goto 4, 3), (80, .iconst 0, 1), (81, .istore 6, 2), (83, .iload 6, 2), (85, .ifCond .eq 41, 3), (88, .aload_n 0, 1), (89, .iload_n 1, 1), (90, .iload 4, 2), (92, .invokevirtual 480, 3), (95, .ifCond .eq 31, 3), (98, .aload_n 0, 1), (99, .getfield 45, 3), (102, .iload_n 2, 1), (103, .dup2, 1), (104, .iaload, 1), (105, .iconst 1, 1), (106, .iadd, 1), (107, .iastore, 1), (108, .aload_n 0, 1), (109, .iload_n 2, 1), (110, .iload 4, 2), (112, .invokevirtual 483, 3), (115, .aload_n 0, 1), (116, .iload_n 1, 1), (117, .iload 4, 2), (119, .iconst 1, 1), (120, .invokevirtual 487, 3), (123, .goto 126, 3), (126, .iload 6, 2), (128, .ifCond .eq 40, 3), (131, .aload_n 0, 1), (132, .iload_n 1, 1), (133, .iload 4, 2), (135, .invokevirtual 491, 3), (138, .ifCond .eq 30, 3), (141, .aload_n 0, 1), (142, .iload_n 1, 1), (143, .iload 4, 2), (145, .iconst 2, 1), (146, .invokevirtual 487, 3), (149, .aload_n 0, 1), (150, .getfield 91, 3), (153, .iload_n 3, 1), (154, .baload, 1), (155, .ifCond .ne 94, 3), (158, .aload_n 0, 1), (159, .iload_n 1, 1), (160, .iload_n 3, 1), (161, .invokevirtual 494, 3), (164, .pop, 1), (165, .goto 84, 3), (168, .iload 5, 2), (170, .iconst (-1), 1), (171, .if_icmp .eq 29, 3), (174, .aload_n 0, 1), (175, .iload 5, 2), (177, .bipush 17, 2), (179, .invokevirtual 436, 3), (182, .iconst 1, 1), (183, .if_icmp .ne 17, 3), (186, .aload_n 0, 1), (187, .iload 5, 2), (189, .sipush 504, 3), (192, .iconst (-1), 1), (193, .iconst 0, 1), (194, .invokevirtual 497, 3), (197, .goto 52, 3), (200, .aload_n 0, 1), (201, .getfield 91, 3), (204, .iload_n 3, 1), (205, .baload, 1), (206, .ifCond .eq 11, 3), (209, .aload_n 0, 1), (210, .iload_n 1, 1), (211, .invokevirtual 501, 3), (214, .goto 35, 3), (217, .aload_n 0, 1), (218, .getfield 48, 3), (221, .iload_n 2, 1), (222, .dup2, 1), (223, .iaload, 1), (224, .iconst 1, 1), (225, .iadd, 1), (226, .iastore, 1), (227, .aload_n 0, 1), (228, .iload_n 1, 1), (229, .iload_n 3, 1), (230, .invokevirtual 494, 3), (233, .ifCond .eq 11, 3), (236, .aload_n 0, 1), (237, .iload_n 1, 1), (238, .invokevirtual 501, 3), (241, .goto 8, 3), (244, .aload_n 0, 1), (245, .iload_n 1, 1), (246, .invokevirtual 504, 3), (249, .return_, 1)]
def M_276 : mI := (⟨"EdgeHouseModel", "look", "(I)V"⟩, prog_13_method_56_code, 7, 1, none, [(45, 14, 43, 0), (48, 14, 44, 0), (91, 14, 59, 0), (131, 14, 75, 0)], [(436, 1, 282, 14), (468, 1, 277, 14), (471, 1, 280, 14), (474, 1, 281, 14), (477, 1, 283, 14), (480, 1, 291, 14), (483, 1, 294, 14), (487, 1, 300, 14), (491, 1, 306, 14), (494, 1, 307, 14), (497, 1, 270, 14), (501, 1, 310, 14), (504, 1, 311, 14)], [], Kk_276)
def Kk_277 : List (Nat × Instr × Nat) := [(0, .iconst 0, 1), (1, .istore_n 3, 1), (2, .iload_n 3, 1), (3, .bipush 8, 2), (5, .if_icmp .ge 50, 3), (8, .aload_n 0, 1), (9, .getfield 66, 3), (12, .bipush 8, 2), (14, .iload_n 1, 1), (15, .imul, 1), (16, .iload_n 3, 1), (17, .iadd, 1), (18, .baload, 1), (19, .ifCond .eq 30, 3), (22, .aload_n 0, 1), (23, .bipush 8, 2), (25, .iload_n 1, 1), (26, .imul, 1), (27, .iload_n 3, 1), (28, .iadd, 1), (29, .bipush 8, 2), (31, .invokevirtual 431, 3), (34, .iload_n 2, 1), (35, .invokestatic 433, 3), (38, .iload_n 3, 1), (39, .if_icmp .ne 10, 3), (42, .bipush 8, 2), (44, .iload_n 1, 1), (45, .imul, 1), (46, .iload_n 3, 1), (47, .iadd, 1), (48, .ireturn, 1), (49, .iinc 3 1, 3), (52, .goto (-50), 3), (55, .iconst (-1), 1), (56, .ireturn, 1)]
def M_277 : mI := (⟨"EdgeHouseModel", "suits", "(II)I"⟩, prog_13_method_41_code, 4, 2, (some FieldType.int), [(66, 14, 50, 0)], [(431, 1, 278, 14), (433, 2, 279, 0)], [], Kk_277)
def Kk_278 : List (Nat × Instr × Nat) := [(0, .aload_n 0, 1), (1, .getfield 73, 3), (4, .bipush 9, 2), (6, .iload_n 1, 1), (7, .imul, 1), (8, .iload_n 2, 1), (9, .iadd, 1), (10, .iaload, 1), (11, .ireturn, 1)]
def M_278 : mI := (⟨"EdgeHouseModel", "told", "(II)I"⟩, prog_13_method_39_code, 3, 2, (some FieldType.int), [(73, 14, 52, 0)], [], [], Kk_278)
def Kk_279 : List (Nat × Instr × Nat) := [(0, .iload_n 0, 1), (1, .iconst 1, 1), (2, .iand, 1), (3, .iconst 1, 1), (4, .if_icmp .ne 9, 3), (7, .iload_n 1, 1), (8, .iconst 3, 1), (9, .iand, 1), (10, .goto 4, 3), (13, .iconst 0, 1), (14, .iload_n 0, 1), (15, .iconst 2, 1), (16, .iand, 1), (17, .iconst 2, 1), (18, .if_icmp .ne 9, 3), (21, .iload_n 1, 1), (22, .iconst 4, 1), (23, .iand, 1), (24, .goto 4, 3), (27, .iconst 0, 1), (28, .iadd, 1), (29, .ireturn, 1)]
def M_279 : mI := (⟨"EdgeHouseModel", "whichOf", "(II)I"⟩, prog_13_method_40_code, 2, 2, (some FieldType.int), [], [], [], Kk_279)
def Kk_280 : List (Nat × Instr × Nat) := [(0, .iload_n 2, 1), (1, .iconst (-1), 1), (2, .if_icmp .eq 25, 3), (5, .aload_n 0, 1), (6, .getfield 76, 3), (9, .iload_n 2, 1), (10, .iaload, 1), (11, .aload_n 0, 1), (12, .getfield 131, 3), (15, .iload_n 1, 1), (16, .bipush 7, 2), (18, .iadd, 1), (19, .iaload, 1), (20, .if_icmp .lt 7, 3), (23, .iconst 1, 1), (24, .goto 4, 3), (27, .iconst 0, 1), (28, .ireturn, 1)]
def M_280 : mI := (⟨"EdgeHouseModel", "isMarked", "(II)Z"⟩, prog_13_method_52_code, 3, 2, (some FieldType.boolean), [(76, 14, 53, 0), (131, 14, 75, 0)], [], [], Kk_280)
def Kk_281 : List (Nat × Instr × Nat) := [(0, .aload_n 0, 1), (1, .getfield 131, 3), (4, .iload_n 1, 1), (5, .bipush 8, 2), (7, .iadd, 1), (8, .iaload, 1), (9, .iconst 1, 1), (10, .if_icmp .eq 33, 3), (13, .aload_n 0, 1), (14, .getfield 131, 3), (17, .iload_n 1, 1), (18, .iconst 2, 1), (19, .iadd, 1), (20, .iaload, 1), (21, .iconst (-1), 1), (22, .if_icmp .eq 25, 3), (25, .aload_n 0, 1), (26, .aload_n 0, 1), (27, .getfield 131, 3), (30, .iload_n 1, 1), (31, .iconst 2, 1), (32, .iadd, 1), (33, .iaload, 1), (34, .bipush 16, 2), (36, .invokevirtual 436, 3), (39, .iconst 1, 1), (40, .if_icmp .ne 7, 3), (43, .iconst 1, 1), (44, .goto 4, 3), (47, .iconst 0, 1), (48, .ireturn, 1)]
def M_281 : mI := (⟨"EdgeHouseModel", "isForced", "(I)Z"⟩, prog_13_method_51_code, 2, 1, (some FieldType.boolean), [(131, 14, 75, 0)], [(436, 1, 282, 14)], [], Kk_281)
def Kk_282 : List (Nat × Instr × Nat) := [(0, .aload_n 0, 1), (1, .getfield 124, 3), (4, .bipush 23, 2), (6, .iload_n 1, 1), (7, .imul, 1), (8, .iload_n 2, 1), (9, .iadd, 1), (10, .iaload, 1), (11, .ireturn, 1)]
def M_282 : mI := (⟨"EdgeHouseModel", "asks", "(II)I"⟩, prog_13_method_44_code, 3, 2, (some FieldType.int), [(124, 14, 72, 0)], [], [], Kk_282)
def Kk_283 : List (Nat × Instr × Nat) := [(0, .aload_n 0, 1), (1, .iload_n 1, 1), (2, .aload_n 0, 1), (3, .iload_n 2, 1), (4, .iconst 1, 1), (5, .invokevirtual 431, 3), (8, .aload_n 0, 1), (9, .iload_n 2, 1), (10, .invokevirtual 456, 3), (13, .invokevirtual 459, 3), (16, .istore_n 3, 1), (17, .aload_n 0, 1), (18, .getfield 85, 3), (21, .iload_n 2, 1), (22, .iaload, 1), (23, .iload_n 3, 1), (24, .iand, 1), (25, .iload_n 3, 1), (26, .if_icmp .ne 7, 3), (29, .iconst 1, 1), (30, .goto 4, 3), (33, .iconst 0, 1), (34, .ireturn, 1)]
def M_283 : mI := (⟨"EdgeHouseModel", "isWhole", "(II)Z"⟩, prog_13_method_53_code, 4, 2, (some FieldType.boolean), [(85, 14, 56, 0)], [(431, 1, 278, 14), (456, 1, 284, 14), (459, 1, 285, 14)], [], Kk_283)
def Kk_284 : List (Nat × Instr × Nat) := [(0, .bipush 8, 2), (2, .aload_n 0, 1), (3, .iload_n 1, 1), (4, .iconst 0, 1), (5, .invokevirtual 431, 3), (8, .imul, 1), (9, .iload_n 1, 1), (10, .bipush 8, 2), (12, .irem, 1), (13, .iadd, 1), (14, .ireturn, 1)]
def M_284 : mI := (⟨"EdgeHouseModel", "tagOf", "(I)I"⟩, prog_13_method_42_code, 2, 1, (some FieldType.int), [], [(431, 1, 278, 14)], [], Kk_284)
def Kk_285 : List (Nat × Instr × Nat) := [(0, .aload_n 0, 1), (1, .getfield 131, 3), (4, .iload_n 1, 1), (5, .iconst 2, 1), (6, .iadd, 1), (7, .iaload, 1), (8, .istore 4, 2), (10, .iload 4, 2), (12, .iconst (-1), 1), (13, .if_icmp .ne 25, 3), (16, .aload_n 0, 1), (17, .getfield 131, 3), (20, .iload_n 1, 1), (21, .iconst 5, 1), (22, .iadd, 1), (23, .iaload, 1), (24, .aload_n 0, 1), (25, .getfield 131, 3), (28, .iload_n 1, 1), (29, .bipush 6, 2), (31, .iadd, 1), (32, .iaload, 1), (33, .iload_n 2, 1), (34, .invokestatic 449, 3), (37, .ireturn, 1), (38, .aload_n 0, 1), (39, .iload 4, 2), (41, .iload_n 2, 1), (42, .iload_n 3, 1), (43, .invokevirtual 452, 3), (46, .ifCond .eq 34, 3), (49, .aload_n 0, 1), (50, .iload 4, 2), (52, .iload_n 2, 1), (53, .iload_n 3, 1), (54, .invokevirtual 442, 3), (57, .bipush 16, 2), (59, .idiv, 1), (60, .aload_n 0, 1), (61, .iload 4, 2), (63, .iload_n 2, 1), (64, .iload_n 3, 1), (65, .invokevirtual 446, 3), (68, .iconst 1, 1), (69, .isub, 1), (70, .bipush 16, 2), (72, .idiv, 1), (73, .iload_n 2, 1), (74, .invokestatic 449, 3), (77, .goto 4, 3), (80, .iconst 0, 1), (81, .ireturn, 1)]
def M_285 : mI := (⟨"EdgeHouseModel", "needs", "(III)I"⟩, prog_13_method_50_code, 5, 3, (some FieldType.int), [(131, 14, 75, 0)], [(442, 1, 288, 14), (446, 1, 290, 14), (449, 2, 286, 0), (452, 1, 287, 14)], [], Kk_285)
def Kk_286 : List (Nat × Instr × Nat) := [(0, .iconst 0, 1), (1, .istore_n 3, 1), (2, .iload_n 0, 1), (3, .istore 4, 2), (5, .iload 4, 2), (7, .iload_n 1, 1), (8, .if_icmp .gt 25, 3), (11, .bipush 16, 2), (13, .iload 4, 2), (15, .imul, 1), (16, .iload_n 2, 1), (17, .if_icmp .ge 16, 3), (20, .iload_n 3, 1), (21, .iconst 1, 1), (22, .iload 4, 2), (24, .ishl, 1), (25, .ior, 1), (26, .istore_n 3, 1), (27, .iinc 4 1, 3), (30, .goto (-25), 3), (33, .iload_n 3, 1), (34, .ireturn, 1)]
def M_286 : mI := (⟨"EdgeHouseModel", "span", "(III)I"⟩, prog_13_method_49_code, 5, 3, (some FieldType.int), [], [], [], Kk_286)
def Kk_287 : List (Nat × Instr × Nat) := [(0, .aload_n 0, 1), (1, .iload_n 1, 1), (2, .iload_n 2, 1), (3, .iload_n 3, 1), (4, .invokevirtual 442, 3), (7, .aload_n 0, 1), (8, .iload_n 1, 1), (9, .iload_n 2, 1), (10, .iload_n 3, 1), (11, .invokevirtual 446, 3), (14, .if_icmp .ge 7, 3), (17, .iconst 1, 1), (18, .goto 4, 3), (21, .iconst 0, 1), (22, .ireturn, 1)]
def M_287 : mI := (⟨"EdgeHouseModel", "hasBytes", "(III)Z"⟩, prog_13_method_48_code, 4, 3, (some FieldType.boolean), [], [(442, 1, 288, 14), (446, 1, 290, 14)], [], Kk_287)
def Kk_288 : List (Nat × Instr × Nat) := [(0, .aload_n 0, 1), (1, .iload_n 1, 1), (2, .iload_n 3, 1), (3, .invokevirtual 439, 3), (6, .istore 4, 2), (8, .iload 4, 2), (10, .ifCond .ne 7, 3), (13, .iconst 0, 1), (14, .goto 41, 3), (17, .iload 4, 2), (19, .iconst 3, 1), (20, .if_icmp .ne 29, 3), (23, .iload_n 2, 1), (24, .aload_n 0, 1), (25, .iload_n 1, 1), (26, .iconst 4, 1), (27, .invokevirtual 436, 3), (30, .isub, 1), (31, .ifCond .ge 7, 3), (34, .iconst 0, 1), (35, .goto 20, 3), (38, .iload_n 2, 1), (39, .aload_n 0, 1), (40, .iload_n 1, 1), (41, .iconst 4, 1), (42, .invokevirtual 436, 3), (45, .isub, 1), (46, .goto 9, 3), (49, .aload_n 0, 1), (50, .iload_n 1, 1), (51, .iconst 4, 1), (52, .invokevirtual 436, 3), (55, .ireturn, 1)]
def M_288 : mI := (⟨"EdgeHouseModel", "firstByte", "(III)I"⟩, prog_13_method_46_code, 5, 3, (some FieldType.int), [], [(436, 1, 282, 14), (439, 1, 289, 14)], [], Kk_288)
def Kk_289 : List (Nat × Instr × Nat) := [(0, .aload_n 0, 1), (1, .iload_n 1, 1), (2, .bipush 21, 2), (4, .invokevirtual 436, 3), (7, .iconst (-1), 1), (8, .if_icmp .eq 14, 3), (11, .aload_n 0, 1), (12, .iload_n 1, 1), (13, .bipush 21, 2), (15, .invokevirtual 436, 3), (18, .iload_n 2, 1), (19, .if_icmp .ne 12, 3), (22, .aload_n 0, 1), (23, .iload_n 1, 1), (24, .iconst 3, 1), (25, .invokevirtual 436, 3), (28, .goto 4, 3), (31, .iconst 0, 1), (32, .ireturn, 1)]
def M_289 : mI := (⟨"EdgeHouseModel", "rangeOf", "(II)I"⟩, prog_13_method_45_code, 3, 2, (some FieldType.int), [], [(436, 1, 282, 14)], [], Kk_289)
def Kk_290 : List (Nat × Instr × Nat) := [(0, .aload_n 0, 1), (1, .iload_n 1, 1), (2, .iload_n 3, 1), (3, .invokevirtual 439, 3), (6, .iconst 1, 1), (7, .if_icmp .ne 24, 3), (10, .aload_n 0, 1), (11, .iload_n 1, 1), (12, .iconst 5, 1), (13, .invokevirtual 436, 3), (16, .iload_n 2, 1), (17, .if_icmp .ge 14, 3), (20, .aload_n 0, 1), (21, .iload_n 1, 1), (22, .iconst 5, 1), (23, .invokevirtual 436, 3), (26, .iconst 1, 1), (27, .iadd, 1), (28, .goto 4, 3), (31, .iload_n 2, 1), (32, .ireturn, 1)]
def M_290 : mI := (⟨"EdgeHouseModel", "endByte", "(III)I"⟩, prog_13_method_47_code, 4, 3, (some FieldType.int), [], [(436, 1, 282, 14), (439, 1, 289, 14)], [], Kk_290)
def Kk_291 : List (Nat × Instr × Nat) := [(0, .aload_n 0, 1), (1, .getfield 131, 3), (4, .iload_n 1, 1), (5, .iconst 2, 1), (6, .iadd, 1), (7, .iaload, 1), (8, .istore_n 3, 1), (9, .aload_n 0, 1), (10, .iload_n 2, 1), (11, .invokevirtual 462, 3), (14, .istore 4, 2), (16, .iload 4, 2), (18, .aload_n 0, 1), (19, .iload_n 2, 1), (20, .invokevirtual 465, 3), (23, .if_icmp .ge 7, 3), (26, .iconst 1, 1), (27, .goto 4, 3), (30, .iconst 0, 1), (31, .istore 5, 2), (33, .iload_n 3, 1), (34, .iconst (-1), 1), (35, .if_icmp .eq 38, 3), (38, .aload_n 0, 1), (39, .iload_n 3, 1), (40, .bipush 18, 2), (42, .invokevirtual 436, 3), (45, .iconst (-1), 1), (46, .if_icmp .eq 27, 3), (49, .iload 5, 2), (51, .ifCond .eq 19, 3), (54, .iload 4, 2), (56, .aload_n 0, 1), (57, .iload_n 3, 1), (58, .bipush 18, 2), (60, .invokevirtual 436, 3), (63, .if_icmp .gt 7, 3), (66, .iconst 1, 1), (67, .goto 4, 3), (70, .iconst 0, 1), (71, .istore 5, 2), (73, .iload_n 3, 1), (74, .iconst (-1), 1), (75, .if_icmp .eq 44, 3), (78, .aload_n 0, 1), (79, .iload_n 3, 1), (80, .bipush 20, 2), (82, .invokevirtual 436, 3), (85, .iconst (-1), 1), (86, .if_icmp .eq 33, 3), (89, .iload 5, 2), (91, .ifCond .eq 25, 3), (94, .iload 4, 2), (96, .aload_n 0, 1), (97, .iload_n 3, 1), (98, .bipush 20, 2), (100, .invokevirtual 436, 3), (103, .iadd, 1), (104, .aload_n 0, 1), (105, .iload_n 2, 1), (106, .invokevirtual 465, 3), (109, .if_icmp .ge 7, 3), (112, .iconst 1, 1), (113, .goto 4, 3), (116, .iconst 0, 1), (117, .istore 5, 2), (119, .iload 5, 2), (121, .ireturn, 1)]
def M_291 : mI := (⟨"EdgeHouseModel", "isFresh", "(II)Z"⟩, prog_13_method_54_code, 6, 2, (some FieldType.boolean), [(131, 14, 75, 0)], [(436, 1, 282, 14), (462, 1, 292, 14), (465, 1, 293, 14)], [], Kk_291)
def Kk_292 : List (Nat × Instr × Nat) := [(0, .aload_n 0, 1), (1, .getfield 79, 3), (4, .iload_n 1, 1), (5, .iaload, 1), (6, .aload_n 0, 1), (7, .getfield 390, 3), (10, .iadd, 1), (11, .aload_n 0, 1), (12, .getfield 82, 3), (15, .iload_n 1, 1), (16, .iaload, 1), (17, .isub, 1), (18, .ireturn, 1)]
def M_292 : mI := (⟨"EdgeHouseModel", "ageOf", "(I)I"⟩, prog_13_method_38_code, 2, 1, (some FieldType.int), [(79, 14, 54, 0), (82, 14, 55, 0), (390, 14, 36, 1)], [], [], Kk_292)
def Kk_293 : List (Nat × Instr × Nat) := [(0, .aload_n 0, 1), (1, .iload_n 1, 1), (2, .bipush 6, 2), (4, .invokevirtual 431, 3), (7, .iconst 1, 1), (8, .if_icmp .ne 7, 3), (11, .iconst 0, 1), (12, .goto 9, 3), (15, .aload_n 0, 1), (16, .iload_n 1, 1), (17, .iconst 2, 1), (18, .invokevirtual 431, 3), (21, .ireturn, 1)]
def M_293 : mI := (⟨"EdgeHouseModel", "lifeOf", "(I)I"⟩, prog_13_method_43_code, 2, 1, (some FieldType.int), [], [(431, 1, 278, 14)], [], Kk_293)
def Kk_294 : List (Nat × Instr × Nat) := [(0, .aload_n 0, 1), (1, .getfield 69, 3), (4, .iload_n 2, 1), (5, .iconst 1, 1), (6, .bastore, 1), (7, .aload_n 0, 1), (8, .iload_n 2, 1), (9, .invokevirtual 425, 3), (12, .aload_n 0, 1), (13, .iload_n 1, 1), (14, .invokevirtual 428, 3), (17, .return_, 1)]
def M_294 : mI := (⟨"EdgeHouseModel", "use", "(II)V"⟩, prog_13_method_37_code, 3, 2, none, [(69, 14, 51, 0)], [(425, 1, 295, 14), (428, 1, 296, 14)], [], Kk_294)
def Kk_295 : List (Nat × Instr × Nat) := [(0, .aload_n 0, 1), (1, .dup, 1), (2, .getfield 415, 3), (5, .iconst 1, 1), (6, .iadd, 1), (7, .putfield 415, 3), (10, .aload_n 0, 1), (11, .getfield 88, 3), (14, .iload_n 1, 1), (15, .aload_n 0, 1), (16, .getfield 415, 3), (19, .iastore, 1), (20, .return_, 1)]
def M_295 : mI := (⟨"EdgeHouseModel", "newest", "(I)V"⟩, prog_13_method_35_code, 2, 1, none, [(88, 14, 57, 0), (415, 14, 58, 1)], [], [], Kk_295)
def Kk_296 : List (Nat × Instr × Nat) := [(0, .aload_n 0, 1), (1, .iload_n 1, 1), (2, .iconst 1, 1), (3, .invokevirtual 418, 3), (6, .aload_n 0, 1), (7, .getfield 39, 3), (10, .iload_n 1, 1), (11, .iaload, 1), (12, .iconst 2, 1), (13, .idiv, 1), (14, .if_icmp .le 25, 3), (17, .aload_n 0, 1), (18, .iload_n 1, 1), (19, .iconst 1, 1), (20, .invokevirtual 422, 3), (23, .istore_n 2, 1), (24, .aload_n 0, 1), (25, .getfield 69, 3), (28, .iload_n 2, 1), (29, .iconst 0, 1), (30, .bastore, 1), (31, .aload_n 0, 1), (32, .iload_n 2, 1), (33, .invokevirtual 425, 3), (36, .goto (-36), 3), (39, .aload_n 0, 1), (40, .iload_n 1, 1), (41, .iconst 0, 1), (42, .invokevirtual 418, 3), (45, .aload_n 0, 1), (46, .getfield 39, 3), (49, .iload_n 1, 1), (50, .iaload, 1), (51, .if_icmp .le 34, 3), (54, .aload_n 0, 1), (55, .iload_n 1, 1), (56, .iconst 0, 1), (57, .invokevirtual 422, 3), (60, .istore_n 2, 1), (61, .aload_n 0, 1), (62, .getfield 66, 3), (65, .iload_n 2, 1), (66, .iconst (-1), 1), (67, .if_icmp .ne 12, 3), (70, .aload_n 0, 1), (71, .iload_n 1, 1), (72, .iconst 1, 1), (73, .invokevirtual 422, 3), (76, .goto 4, 3), (79, .iload_n 2, 1), (80, .iconst 0, 1), (81, .bastore, 1), (82, .goto (-43), 3), (85, .return_, 1)]
def M_296 : mI := (⟨"EdgeHouseModel", "trim", "(I)V"⟩, prog_13_method_36_code, 3, 1, none, [(39, 14, 41, 0), (66, 14, 50, 0), (69, 14, 51, 0)], [(418, 1, 297, 14), (422, 1, 299, 14), (425, 1, 295, 14)], [], Kk_296)
def Kk_297 : List (Nat × Instr × Nat) := [(0, .iconst 0, 1), (1, .istore_n 3, 1), (2, .sipush 1024, 3), (5, .iload_n 1, 1), (6, .imul, 1), (7, .istore 4, 2), (9, .iload 4, 2), (11, .sipush 1024, 3), (14, .iload_n 1, 1), (15, .imul, 1), (16, .sipush 1024, 3), (19, .iadd, 1), (20, .if_icmp .ge 46, 3), (23, .iload_n 3, 1), (24, .aload_n 0, 1), (25, .getfield 66, 3), (28, .iload 4, 2), (30, .baload, 1), (31, .ifCond .eq 26, 3), (34, .iload_n 2, 1), (35, .ifCond .eq 13, 3), (38, .aload_n 0, 1), (39, .getfield 69, 3), (42, .iload 4, 2), (44, .baload, 1), (45, .ifCond .eq 12, 3), (48, .aload_n 0, 1), (49, .iload 4, 2), (51, .invokevirtual 412, 3), (54, .goto 4, 3), (57, .iconst 0, 1), (58, .iadd, 1), (59, .istore_n 3, 1), (60, .iinc 4 1, 3), (63, .goto (-54), 3), (66, .iload_n 3, 1), (67, .ireturn, 1)]
def M_297 : mI := (⟨"EdgeHouseModel", "sizes", "(IZ)I"⟩, prog_13_method_33_code, 5, 2, (some FieldType.int), [(66, 14, 50, 0), (69, 14, 51, 0)], [(412, 1, 298, 14)], [], Kk_297)
def Kk_298 : List (Nat × Instr × Nat) := [(0, .bipush 16, 2), (2, .bipush 16, 2), (4, .aload_n 0, 1), (5, .getfield 85, 3), (8, .iload_n 1, 1), (9, .iaload, 1), (10, .invokestatic 407, 3), (13, .imul, 1), (14, .iadd, 1), (15, .ireturn, 1)]
def M_298 : mI := (⟨"EdgeHouseModel", "sizeOf", "(I)I"⟩, prog_13_method_32_code, 2, 1, (some FieldType.int), [(85, 14, 56, 0)], [(407, 2, 100, 0)], [], Kk_298)
def Kk_299 : List (Nat × Instr × Nat) := [(0, .iconst (-1), 1), (1, .istore_n 3, 1), (2, .sipush 1024, 3), (5, .iload_n 1, 1), (6, .imul, 1), (7, .istore 4, 2), (9, .iload 4, 2), (11, .sipush 1024, 3), (14, .iload_n 1, 1), (15, .imul, 1), (16, .sipush 1024, 3), (19, .iadd, 1), (20, .if_icmp .ge 54, 3), (23, .aload_n 0, 1), (24, .getfield 66, 3), (27, .iload 4, 2), (29, .baload, 1), (30, .ifCond .eq 38, 3), (33, .aload_n 0, 1), (34, .getfield 69, 3), (37, .iload 4, 2), (39, .baload, 1), (40, .iload_n 2, 1), (41, .if_icmp .ne 27, 3), (44, .iload_n 3, 1), (45, .iconst (-1), 1), (46, .if_icmp .eq 19, 3), (49, .aload_n 0, 1), (50, .getfield 88, 3), (53, .iload 4, 2), (55, .iaload, 1), (56, .aload_n 0, 1), (57, .getfield 88, 3), (60, .iload_n 3, 1), (61, .iaload, 1), (62, .if_icmp .ge 6, 3), (65, .iload 4, 2), (67, .istore_n 3, 1), (68, .iinc 4 1, 3), (71, .goto (-62), 3), (74, .iload_n 3, 1), (75, .ireturn, 1)]
def M_299 : mI := (⟨"EdgeHouseModel", "oldest", "(IZ)I"⟩, prog_13_method_34_code, 5, 2, (some FieldType.int), [(66, 14, 50, 0), (69, 14, 51, 0), (88, 14, 57, 0)], [], [], Kk_299)
def Kk_300 : List (Nat × Instr × Nat) := [(0, .iconst 0, 1), (1, .istore 4, 2), (3, .iload 4, 2), (5, .bipush 9, 2), (7, .if_icmp .ge 23, 3), (10, .aload_n 0, 1), (11, .getfield 143, 3), (14, .iload 4, 2), (16, .aload_n 0, 1), (17, .iload_n 2, 1), (18, .iload 4, 2), (20, .invokevirtual 431, 3), (23, .iastore, 1), (24, .iinc 4 1, 3), (27, .goto (-24), 3), (30, .aload_n 0, 1), (31, .iload_n 2, 1), (32, .bipush 8, 2), (34, .irem, 1), (35, .putfield 542, 3), (38, .aload_n 0, 1), (39, .aload_n 0, 1), (40, .getfield 76, 3), (43, .iload_n 2, 1), (44, .iaload, 1), (45, .putfield 545, 3), (48, .aload_n 0, 1), (49, .aload_n 0, 1), (50, .iload_n 2, 1), (51, .invokevirtual 462, 3), (54, .putfield 548, 3), (57, .aload_n 0, 1), (58, .aload_n 0, 1), (59, .getfield 85, 3), (62, .iload_n 2, 1), (63, .iaload, 1), (64, .putfield 551, 3), (67, .aload_n 0, 1), (68, .iload_n 1, 1), (69, .iload_n 3, 1), (70, .invokevirtual 554, 3), (73, .return_, 1)]
def M_300 : mI := (⟨"EdgeHouseModel", "serve", "(III)V"⟩, prog_13_method_66_code, 5, 3, none, [(76, 14, 53, 0), (85, 14, 56, 0), (143, 14, 83, 0), (542, 14, 87, 1), (545, 14, 84, 1), (548, 14, 85, 1), (551, 14, 86, 1)], [(431, 1, 278, 14), (462, 1, 292, 14), (554, 1, 301, 14)], [], Kk_300)
def Kk_301 : List (Nat × Instr × Nat) := [(0, .aload_n 0, 1), (1, .getfield 131, 3), (4, .iload_n 1, 1), (5, .iconst 2, 1), (6, .iadd, 1), (7, .iaload, 1), (8, .istore_n 3, 1), (9, .iload_n 3, 1), (10, .iconst (-1), 1), (11, .if_icmp .eq 16, 3), (14, .aload_n 0, 1), (15, .iload_n 3, 1), (16, .aload_n 0, 1), (17, .iload_n 3, 1), (18, .invokevirtual 557, 3), (21, .iload_n 2, 1), (22, .iconst 1, 1), (23, .invokevirtual 497, 3), (26, .return_, 1), (27, .aload_n 0, 1), (28, .iconst 1, 1), (29, .aload_n 0, 1), (30, .getfield 131, 3), (33, .iload_n 1, 1), (34, .iaload, 1), (35, .aload_n 0, 1), (36, .getfield 131, 3), (39, .iload_n 1, 1), (40, .iconst 3, 1), (41, .iadd, 1), (42, .iaload, 1), (43, .aload_n 0, 1), (44, .getfield 131, 3), (47, .iload_n 1, 1), (48, .iconst 4, 1), (49, .iadd, 1), (50, .iaload, 1), (51, .aload_n 0, 1), (52, .getfield 131, 3), (55, .iload_n 1, 1), (56, .iconst 1, 1), (57, .iadd, 1), (58, .iaload, 1), (59, .invokevirtual 526, 3), (62, .aload_n 0, 1), (63, .getfield 131, 3), (66, .iload_n 1, 1), (67, .bipush 9, 2), (69, .iadd, 1), (70, .iaload, 1), (71, .aload_n 0, 1), (72, .getfield 143, 3), (75, .iconst 0, 1), (76, .iaload, 1), (77, .if_icmp .ne 7, 3), (80, .iconst 1, 1), (81, .goto 4, 3), (84, .iconst 0, 1), (85, .istore 4, 2), (87, .aload_n 0, 1), (88, .getfield 140, 3), (91, .bipush 6, 2), (93, .iload 4, 2), (95, .ifCond .eq 9, 3), (98, .sipush 304, 3), (101, .goto 6, 3), (104, .sipush 200, 3), (107, .iastore, 1), (108, .aload_n 0, 1), (109, .getfield 140, 3), (112, .bipush 7, 2), (114, .aload_n 0, 1), (115, .getfield 143, 3), (118, .iconst 0, 1), (119, .iaload, 1), (120, .iastore, 1), (121, .aload_n 0, 1), (122, .getfield 140, 3), (125, .bipush 8, 2), (127, .aload_n 0, 1), (128, .getfield 545, 3), (131, .iastore, 1), (132, .aload_n 0, 1), (133, .getfield 140, 3), (136, .bipush 10, 2), (138, .aload_n 0, 1), (139, .getfield 548, 3), (142, .aload_n 0, 1), (143, .getfield 390, 3), (146, .isub, 1), (147, .iastore, 1), (148, .aload_n 0, 1), (149, .getfield 140, 3), (152, .bipush 11, 2), (154, .iload 4, 2), (156, .ifCond .eq 7, 3), (159, .iconst 0, 1), (160, .goto 34, 3), (163, .aload_n 0, 1), (164, .getfield 551, 3), (167, .aload_n 0, 1), (168, .getfield 131, 3), (171, .iload_n 1, 1), (172, .iconst 5, 1), (173, .iadd, 1), (174, .iaload, 1), (175, .aload_n 0, 1), (176, .getfield 131, 3), (179, .iload_n 1, 1), (180, .bipush 6, 2), (182, .iadd, 1), (183, .iaload, 1), (184, .aload_n 0, 1), (185, .getfield 143, 3), (188, .iconst 1, 1), (189, .iaload, 1), (190, .invokestatic 449, 3), (193, .iand, 1), (194, .iastore, 1), (195, .aload_n 0, 1), (196, .getfield 140, 3), (199, .bipush 21, 2), (201, .aload_n 0, 1), (202, .getfield 542, 3), (205, .iastore, 1), (206, .iconst 0, 1), (207, .istore 5, 2), (209, .iload 5, 2), (211, .bipush 9, 2), (213, .if_icmp .ge 26, 3), (216, .aload_n 0, 1), (217, .getfield 140, 3), (220, .bipush 12, 2), (222, .iload 5, 2), (224, .iadd, 1), (225, .aload_n 0, 1), (226, .getfield 143, 3), (229, .iload 5, 2), (231, .iaload, 1), (232, .iastore, 1), (233, .iinc 5 1, 3), (236, .goto (-27), 3), (239, .aload_n 0, 1), (240, .invokevirtual 530, 3), (243, .return_, 1)]
def M_301 : mI := (⟨"EdgeHouseModel", "give", "(II)V"⟩, prog_13_method_68_code, 6, 2, none, [(131, 14, 75, 0), (140, 14, 79, 0), (143, 14, 83, 0), (390, 14, 36, 1), (542, 14, 87, 1), (545, 14, 84, 1), (548, 14, 85, 1), (551, 14, 86, 1)], [(449, 2, 286, 0), (497, 1, 270, 14), (526, 1, 304, 14), (530, 1, 305, 14), (557, 1, 302, 14)], [], Kk_301)
def Kk_302 : List (Nat × Instr × Nat) := [(0, .aload_n 0, 1), (1, .iload_n 1, 1), (2, .bipush 6, 2), (4, .invokevirtual 436, 3), (7, .iconst 1, 1), (8, .if_icmp .ne 7, 3), (11, .iconst 1, 1), (12, .goto 4, 3), (15, .iconst 0, 1), (16, .istore_n 2, 1), (17, .iconst 0, 1), (18, .istore_n 3, 1), (19, .iload_n 3, 1), (20, .aload_n 0, 1), (21, .iload_n 1, 1), (22, .bipush 7, 2), (24, .invokevirtual 436, 3), (27, .if_icmp .ge 35, 3), (30, .iload_n 2, 1), (31, .ifCond .ne 19, 3), (34, .aload_n 0, 1), (35, .iload_n 1, 1), (36, .bipush 8, 2), (38, .iload_n 3, 1), (39, .iadd, 1), (40, .invokevirtual 436, 3), (43, .aload_n 0, 1), (44, .invokevirtual 560, 3), (47, .if_icmp .ne 7, 3), (50, .iconst 1, 1), (51, .goto 4, 3), (54, .iconst 0, 1), (55, .istore_n 2, 1), (56, .iinc 3 1, 3), (59, .goto (-40), 3), (62, .iload_n 2, 1), (63, .ifCond .eq 7, 3), (66, .sipush 304, 3), (69, .ireturn, 1), (70, .aload_n 0, 1), (71, .iload_n 1, 1), (72, .aload_n 0, 1), (73, .invokevirtual 560, 3), (76, .invokevirtual 439, 3), (79, .ifCond .ne 7, 3), (82, .sipush 200, 3), (85, .ireturn, 1), (86, .aload_n 0, 1), (87, .iload_n 1, 1), (88, .aload_n 0, 1), (89, .getfield 143, 3), (92, .iconst 1, 1), (93, .iaload, 1), (94, .aload_n 0, 1), (95, .invokevirtual 560, 3), (98, .invokevirtual 452, 3), (101, .ifCond .eq 9, 3), (104, .sipush 206, 3), (107, .goto 6, 3), (110, .sipush 416, 3), (113, .ireturn, 1)]
def M_302 : mI := (⟨"EdgeHouseModel", "statusOf", "(I)I"⟩, prog_13_method_69_code, 4, 1, (some FieldType.int), [(143, 14, 83, 0)], [(436, 1, 282, 14), (439, 1, 289, 14), (452, 1, 287, 14), (560, 1, 303, 14)], [], Kk_302)
def Kk_303 : List (Nat × Instr × Nat) := [(0, .bipush 8, 2), (2, .aload_n 0, 1), (3, .getfield 143, 3), (6, .iconst 0, 1), (7, .iaload, 1), (8, .imul, 1), (9, .aload_n 0, 1), (10, .getfield 542, 3), (13, .iadd, 1), (14, .ireturn, 1)]
def M_303 : mI := (⟨"EdgeHouseModel", "nowTag", "()I"⟩, prog_13_method_67_code, 1, 0, (some FieldType.int), [(143, 14, 83, 0), (542, 14, 87, 1)], [], [], Kk_303)
def Kk_304 : List (Nat × Instr × Nat) := [(0, .iconst 0, 1), (1, .istore 6, 2), (3, .iload 6, 2), (5, .bipush 22, 2), (7, .if_icmp .ge 17, 3), (10, .aload_n 0, 1), (11, .getfield 140, 3), (14, .iload 6, 2), (16, .iconst 0, 1), (17, .iastore, 1), (18, .iinc 6 1, 3), (21, .goto (-18), 3), (24, .aload_n 0, 1), (25, .getfield 140, 3), (28, .iconst 0, 1), (29, .iload_n 1, 1), (30, .iastore, 1), (31, .aload_n 0, 1), (32, .getfield 140, 3), (35, .iconst 1, 1), (36, .iload_n 2, 1), (37, .iastore, 1), (38, .aload_n 0, 1), (39, .getfield 140, 3), (42, .iconst 2, 1), (43, .iload_n 3, 1), (44, .iastore, 1), (45, .aload_n 0, 1), (46, .getfield 140, 3), (49, .iconst 3, 1), (50, .iload 4, 2), (52, .iastore, 1), (53, .aload_n 0, 1), (54, .getfield 140, 3), (57, .iconst 4, 1), (58, .iload 5, 2), (60, .iconst 4, 1), (61, .idiv, 1), (62, .iastore, 1), (63, .aload_n 0, 1), (64, .getfield 140, 3), (67, .iconst 5, 1), (68, .iload 5, 2), (70, .iconst 4, 1), (71, .irem, 1), (72, .iastore, 1), (73, .return_, 1)]
def M_304 : mI := (⟨"EdgeHouseModel", "blank", "(IIIII)V"⟩, prog_13_method_62_code, 7, 5, none, [(140, 14, 79, 0)], [], [], Kk_304)
def Kk_305 : List (Nat × Instr × Nat) := [(0, .aload_n 0, 1), (1, .getfield 533, 3), (4, .bipush 100, 2), (6, .if_icmp .ne 14, 3), (9, .aload_n 0, 1), (10, .dup, 1), (11, .getfield 536, 3), (14, .iconst 1, 1), (15, .iadd, 1), (16, .putfield 536, 3), (19, .return_, 1), (20, .iconst 0, 1), (21, .istore_n 1, 1), (22, .iload_n 1, 1), (23, .bipush 22, 2), (25, .if_icmp .ge 29, 3), (28, .aload_n 0, 1), (29, .getfield 137, 3), (32, .bipush 22, 2), (34, .aload_n 0, 1), (35, .getfield 533, 3), (38, .imul, 1), (39, .iload_n 1, 1), (40, .iadd, 1), (41, .aload_n 0, 1), (42, .getfield 140, 3), (45, .iload_n 1, 1), (46, .iaload, 1), (47, .iastore, 1), (48, .iinc 1 1, 3), (51, .goto (-29), 3), (54, .aload_n 0, 1), (55, .dup, 1), (56, .getfield 533, 3), (59, .iconst 1, 1), (60, .iadd, 1), (61, .putfield 533, 3), (64, .return_, 1)]
def M_305 : mI := (⟨"EdgeHouseModel", "post", "()V"⟩, prog_13_method_63_code, 2, 0, none, [(137, 14, 78, 0), (140, 14, 79, 0), (533, 14, 77, 1), (536, 14, 39, 1)], [], [], Kk_305)
def Kk_306 : List (Nat × Instr × Nat) := [(0, .aload_n 0, 1), (1, .getfield 131, 3), (4, .iload_n 1, 1), (5, .iconst 2, 1), (6, .iadd, 1), (7, .iaload, 1), (8, .istore_n 3, 1), (9, .aload_n 0, 1), (10, .iload_n 2, 1), (11, .invokevirtual 462, 3), (14, .istore 4, 2), (16, .iload_n 3, 1), (17, .iconst (-1), 1), (18, .if_icmp .eq 34, 3), (21, .aload_n 0, 1), (22, .iload_n 3, 1), (23, .bipush 19, 2), (25, .invokevirtual 436, 3), (28, .iconst (-1), 1), (29, .if_icmp .eq 23, 3), (32, .iload 4, 2), (34, .aload_n 0, 1), (35, .iload_n 2, 1), (36, .invokevirtual 465, 3), (39, .aload_n 0, 1), (40, .iload_n 3, 1), (41, .bipush 19, 2), (43, .invokevirtual 436, 3), (46, .iadd, 1), (47, .if_icmp .ge 5, 3), (50, .iconst 1, 1), (51, .ireturn, 1), (52, .iload_n 3, 1), (53, .iconst (-1), 1), (54, .if_icmp .eq 25, 3), (57, .aload_n 0, 1), (58, .iload_n 3, 1), (59, .bipush 18, 2), (61, .invokevirtual 436, 3), (64, .iconst (-1), 1), (65, .if_icmp .ne 18, 3), (68, .aload_n 0, 1), (69, .iload_n 3, 1), (70, .bipush 20, 2), (72, .invokevirtual 436, 3), (75, .iconst (-1), 1), (76, .if_icmp .ne 7, 3), (79, .iconst 1, 1), (80, .goto 4, 3), (83, .iconst 0, 1), (84, .istore 5, 2), (86, .iload 5, 2), (88, .ifCond .eq 24, 3), (91, .iload 4, 2), (93, .aload_n 0, 1), (94, .iload_n 2, 1), (95, .invokevirtual 465, 3), (98, .aload_n 0, 1), (99, .iload_n 2, 1), (100, .iconst 4, 1), (101, .invokevirtual 431, 3), (104, .iadd, 1), (105, .if_icmp .ge 7, 3), (108, .iconst 1, 1), (109, .goto 4, 3), (112, .iconst 0, 1), (113, .ireturn, 1)]
def M_306 : mI := (⟨"EdgeHouseModel", "isStaleEnough", "(II)Z"⟩, prog_13_method_55_code, 6, 2, (some FieldType.boolean), [(131, 14, 75, 0)], [(431, 1, 278, 14), (436, 1, 282, 14), (462, 1, 292, 14), (465, 1, 293, 14)], [], Kk_306)
def Kk_307 : List (Nat × Instr × Nat) := [(0, .aload_n 0, 1), (1, .getfield 131, 3), (4, .iload_n 1, 1), (5, .iconst 2, 1), (6, .iadd, 1), (7, .iaload, 1), (8, .istore_n 3, 1), (9, .aload_n 0, 1), (10, .iload_n 2, 1), (11, .aload_n 0, 1), (12, .getfield 131, 3), (15, .iload_n 1, 1), (16, .bipush 11, 2), (18, .iadd, 1), (19, .iaload, 1), (20, .invokevirtual 468, 3), (23, .istore 4, 2), (25, .aload_n 0, 1), (26, .getfield 103, 3), (29, .iload_n 2, 1), (30, .iload_n 3, 1), (31, .iconst (-1), 1), (32, .if_icmp .ne 14, 3), (35, .aload_n 0, 1), (36, .getfield 131, 3), (39, .iload_n 1, 1), (40, .iconst 5, 1), (41, .iadd, 1), (42, .iaload, 1), (43, .goto 4, 3), (46, .iconst 0, 1), (47, .iastore, 1), (48, .aload_n 0, 1), (49, .getfield 106, 3), (52, .iload_n 2, 1), (53, .iload_n 3, 1), (54, .iconst (-1), 1), (55, .if_icmp .ne 15, 3), (58, .aload_n 0, 1), (59, .getfield 131, 3), (62, .iload_n 1, 1), (63, .bipush 6, 2), (65, .iadd, 1), (66, .iaload, 1), (67, .goto 5, 3), (70, .bipush 15, 2), (72, .iastore, 1), (73, .iload_n 3, 1), (74, .iconst (-1), 1), (75, .if_icmp .eq 109, 3), (78, .aload_n 0, 1), (79, .iload_n 3, 1), (80, .bipush 21, 2), (82, .invokevirtual 436, 3), (85, .iconst (-1), 1), (86, .if_icmp .ne 98, 3), (89, .aload_n 0, 1), (90, .iload_n 3, 1), (91, .iconst 3, 1), (92, .invokevirtual 436, 3), (95, .iconst 1, 1), (96, .if_icmp .eq 13, 3), (99, .aload_n 0, 1), (100, .iload_n 3, 1), (101, .iconst 3, 1), (102, .invokevirtual 436, 3), (105, .iconst 2, 1), (106, .if_icmp .ne 78, 3), (109, .aload_n 0, 1), (110, .getfield 103, 3), (113, .iload_n 2, 1), (114, .aload_n 0, 1), (115, .iload_n 3, 1), (116, .iconst 4, 1), (117, .invokevirtual 436, 3), (120, .sipush 255, 3), (123, .if_icmp .le 9, 3), (126, .sipush 255, 3), (129, .goto 9, 3), (132, .aload_n 0, 1), (133, .iload_n 3, 1), (134, .iconst 4, 1), (135, .invokevirtual 436, 3), (138, .bipush 16, 2), (140, .idiv, 1), (141, .iastore, 1), (142, .aload_n 0, 1), (143, .getfield 106, 3), (146, .iload_n 2, 1), (147, .aload_n 0, 1), (148, .iload_n 3, 1), (149, .iconst 3, 1), (150, .invokevirtual 436, 3), (153, .iconst 2, 1), (154, .if_icmp .eq 15, 3), (157, .aload_n 0, 1), (158, .iload_n 3, 1), (159, .iconst 5, 1), (160, .invokevirtual 436, 3), (163, .sipush 255, 3), (166, .if_icmp .le 8, 3), (169, .bipush 15, 2), (171, .goto 12, 3), (174, .aload_n 0, 1), (175, .iload_n 3, 1), (176, .iconst 5, 1), (177, .invokevirtual 436, 3), (180, .bipush 16, 2), (182, .idiv, 1), (183, .iastore, 1), (184, .aload_n 0, 1), (185, .getfield 131, 3), (188, .iload_n 1, 1), (189, .bipush 10, 2), (191, .iadd, 1), (192, .iaload, 1), (193, .ifCond .ne 96, 3), (196, .aload_n 0, 1), (197, .iload_n 1, 1), (198, .iload 4, 2), (200, .invokevirtual 471, 3), (203, .ifCond .eq 86, 3), (206, .aload_n 0, 1), (207, .iload_n 1, 1), (208, .invokevirtual 474, 3), (211, .ifCond .ne 78, 3), (214, .aload_n 0, 1), (215, .iload_n 1, 1), (216, .iload 4, 2), (218, .invokevirtual 480, 3), (221, .ifCond .eq 68, 3), (224, .aload_n 0, 1), (225, .iload_n 1, 1), (226, .iload 4, 2), (228, .invokevirtual 477, 3), (231, .ifCond .ne 58, 3), (234, .aload_n 0, 1), (235, .iload_n 1, 1), (236, .aload_n 0, 1), (237, .iload 4, 2), (239, .iconst 1, 1), (240, .invokevirtual 431, 3), (243, .aload_n 0, 1), (244, .iload 4, 2), (246, .invokevirtual 456, 3), (249, .invokevirtual 459, 3), (252, .aload_n 0, 1), (253, .getfield 85, 3), (256, .iload 4, 2), (258, .iaload, 1), (259, .iconst (-1), 1), (260, .ixor, 1), (261, .iand, 1), (262, .istore 5, 2), (264, .aload_n 0, 1), (265, .getfield 103, 3), (268, .iload_n 2, 1), (269, .iload 5, 2), (271, .invokestatic 514, 3), (274, .iastore, 1), (275, .aload_n 0, 1), (276, .getfield 106, 3), (279, .iload_n 2, 1), (280, .bipush 31, 2), (282, .iload 5, 2), (284, .invokestatic 517, 3), (287, .isub, 1), (288, .iastore, 1), (289, .aload_n 0, 1), (290, .getfield 94, 3), (293, .iload_n 2, 1), (294, .aload_n 0, 1), (295, .iload_n 1, 1), (296, .invokevirtual 474, 3), (299, .bastore, 1), (300, .aload_n 0, 1), (301, .getfield 112, 3), (304, .iload_n 2, 1), (305, .aload_n 0, 1), (306, .getfield 131, 3), (309, .iload_n 1, 1), (310, .bipush 11, 2), (312, .iadd, 1), (313, .iaload, 1), (314, .iastore, 1), (315, .aload_n 0, 1), (316, .iload_n 2, 1), (317, .invokevirtual 520, 3), (320, .ireturn, 1)]
def M_307 : mI := (⟨"EdgeHouseModel", "fetch", "(II)Z"⟩, prog_13_method_60_code, 6, 2, (some FieldType.boolean), [(85, 14, 56, 0), (94, 14, 60, 0), (103, 14, 63, 0), (106, 14, 64, 0), (112, 14, 66, 0), (131, 14, 75, 0)], [(431, 1, 278, 14), (436, 1, 282, 14), (456, 1, 284, 14), (459, 1, 285, 14), (468, 1, 277, 14), (471, 1, 280, 14), (474, 1, 281, 14), (477, 1, 283, 14), (480, 1, 291, 14), (514, 2, 120, 0), (517, 2, 121, 0), (520, 1, 308, 14)], [], Kk_307)
def Kk_308 : List (Nat × Instr × Nat) := [(0, .iload_n 1, 1), (1, .sipush 128, 3), (4, .idiv, 1), (5, .istore_n 2, 1), (6, .aload_n 0, 1), (7, .iload_n 2, 1), (8, .iload_n 1, 1), (9, .sipush 128, 3), (12, .irem, 1), (13, .invokevirtual 523, 3), (16, .istore_n 3, 1), (17, .aload_n 0, 1), (18, .getfield 91, 3), (21, .iload_n 1, 1), (22, .iload_n 3, 1), (23, .iconst (-1), 1), (24, .if_icmp .eq 7, 3), (27, .iconst 1, 1), (28, .goto 4, 3), (31, .iconst 0, 1), (32, .bastore, 1), (33, .iload_n 3, 1), (34, .iconst (-1), 1), (35, .if_icmp .ne 5, 3), (38, .iconst 0, 1), (39, .ireturn, 1), (40, .aload_n 0, 1), (41, .iload_n 1, 1), (42, .aload_n 0, 1), (43, .getfield 112, 3), (46, .iload_n 1, 1), (47, .iaload, 1), (48, .invokevirtual 468, 3), (51, .istore 4, 2), (53, .aload_n 0, 1), (54, .getfield 51, 3), (57, .iload_n 2, 1), (58, .dup2, 1), (59, .iaload, 1), (60, .iconst 1, 1), (61, .iadd, 1), (62, .iastore, 1), (63, .aload_n 0, 1), (64, .getfield 97, 3), (67, .iload_n 1, 1), (68, .aload_n 0, 1), (69, .getfield 51, 3), (72, .iload_n 2, 1), (73, .iaload, 1), (74, .iastore, 1), (75, .aload_n 0, 1), (76, .getfield 100, 3), (79, .iload_n 1, 1), (80, .aload_n 0, 1), (81, .getfield 390, 3), (84, .iastore, 1), (85, .aload_n 0, 1), (86, .getfield 115, 3), (89, .iload_n 1, 1), (90, .iload_n 3, 1), (91, .iastore, 1), (92, .aload_n 0, 1), (93, .iconst 0, 1), (94, .iload_n 2, 1), (95, .iload_n 3, 1), (96, .aload_n 0, 1), (97, .getfield 97, 3), (100, .iload_n 1, 1), (101, .iaload, 1), (102, .iload_n 1, 1), (103, .sipush 128, 3), (106, .irem, 1), (107, .invokevirtual 526, 3), (110, .aload_n 0, 1), (111, .getfield 140, 3), (114, .bipush 6, 2), (116, .aload_n 0, 1), (117, .getfield 103, 3), (120, .iload_n 1, 1), (121, .iaload, 1), (122, .iastore, 1), (123, .aload_n 0, 1), (124, .getfield 140, 3), (127, .bipush 7, 2), (129, .aload_n 0, 1), (130, .getfield 106, 3), (133, .iload_n 1, 1), (134, .iaload, 1), (135, .iastore, 1), (136, .aload_n 0, 1), (137, .getfield 140, 3), (140, .bipush 8, 2), (142, .aload_n 0, 1), (143, .getfield 42, 3), (146, .iload_n 2, 1), (147, .iaload, 1), (148, .iastore, 1), (149, .aload_n 0, 1), (150, .getfield 109, 3), (153, .iload_n 1, 1), (154, .aload_n 0, 1), (155, .getfield 42, 3), (158, .iload_n 2, 1), (159, .iaload, 1), (160, .iastore, 1), (161, .aload_n 0, 1), (162, .getfield 140, 3), (165, .bipush 9, 2), (167, .aload_n 0, 1), (168, .getfield 94, 3), (171, .iload_n 1, 1), (172, .baload, 1), (173, .ifCond .eq 7, 3), (176, .iconst 1, 1), (177, .goto 4, 3), (180, .iconst 0, 1), (181, .iastore, 1), (182, .aload_n 0, 1), (183, .getfield 140, 3), (186, .bipush 21, 2), (188, .aload_n 0, 1), (189, .getfield 112, 3), (192, .iload_n 1, 1), (193, .iaload, 1), (194, .iastore, 1), (195, .iload 4, 2), (197, .iconst (-1), 1), (198, .if_icmp .eq 76, 3), (201, .aload_n 0, 1), (202, .getfield 103, 3), (205, .iload_n 1, 1), (206, .iaload, 1), (207, .aload_n 0, 1), (208, .getfield 106, 3), (211, .iload_n 1, 1), (212, .iaload, 1), (213, .aload_n 0, 1), (214, .iload 4, 2), (216, .iconst 1, 1), (217, .invokevirtual 431, 3), (220, .invokestatic 449, 3), (223, .istore 5, 2), (225, .aload_n 0, 1), (226, .getfield 140, 3), (229, .bipush 10, 2), (231, .aload_n 0, 1), (232, .getfield 76, 3), (235, .iload 4, 2), (237, .iaload, 1), (238, .aload_n 0, 1), (239, .getfield 42, 3), (242, .iload_n 2, 1), (243, .iaload, 1), (244, .if_icmp .lt 28, 3), (247, .aload_n 0, 1), (248, .getfield 85, 3), (251, .iload 4, 2), (253, .iaload, 1), (254, .iload 5, 2), (256, .iand, 1), (257, .iload 5, 2), (259, .if_icmp .ne 13, 3), (262, .aload_n 0, 1), (263, .iload 4, 2), (265, .iconst 0, 1), (266, .invokevirtual 431, 3), (269, .goto 4, 3), (272, .iconst 0, 1), (273, .iastore, 1), (274, .aload_n 0, 1), (275, .invokevirtual 530, 3), (278, .iconst 1, 1), (279, .ireturn, 1)]
def M_308 : mI := (⟨"EdgeHouseModel", "send", "(I)Z"⟩, prog_13_method_61_code, 6, 1, (some FieldType.boolean), [(42, 14, 42, 0), (51, 14, 45, 0), (76, 14, 53, 0), (85, 14, 56, 0), (91, 14, 59, 0), (94, 14, 60, 0), (97, 14, 61, 0), (100, 14, 62, 0), (103, 14, 63, 0), (106, 14, 64, 0), (109, 14, 65, 0), (112, 14, 66, 0), (115, 14, 67, 0), (140, 14, 79, 0), (390, 14, 36, 1)], [(431, 1, 278, 14), (449, 2, 286, 0), (468, 1, 277, 14), (523, 1, 309, 14), (526, 1, 304, 14), (530, 1, 305, 14)], [], Kk_308)
def Kk_309 : List (Nat × Instr × Nat) := [(0, .iload_n 1, 1), (1, .iconst 3, 1), (2, .if_icmp .ge 5, 3), (5, .iconst 0, 1), (6, .ireturn, 1), (7, .aload_n 0, 1), (8, .iconst 1, 1), (9, .iconst 2, 1), (10, .iload_n 2, 1), (11, .iload_n 1, 1), (12, .invokevirtual 510, 3), (15, .istore_n 3, 1), (16, .iload_n 3, 1), (17, .iconst (-1), 1), (18, .if_icmp .ne 14, 3), (21, .aload_n 0, 1), (22, .iconst 1, 1), (23, .iconst 2, 1), (24, .iload_n 2, 1), (25, .iconst 0, 1), (26, .invokevirtual 510, 3), (29, .goto 4, 3), (32, .iload_n 3, 1), (33, .ireturn, 1)]
def M_309 : mI := (⟨"EdgeHouseModel", "goal", "(II)I"⟩, prog_13_method_59_code, 4, 2, (some FieldType.int), [], [(510, 1, 272, 14)], [], Kk_309)
def Kk_310 : List (Nat × Instr × Nat) := [(0, .iconst 0, 1), (1, .istore_n 2, 1), (2, .iload_n 2, 1), (3, .bipush 12, 2), (5, .if_icmp .ge 31, 3), (8, .aload_n 0, 1), (9, .getfield 131, 3), (12, .bipush 12, 2), (14, .aload_n 0, 1), (15, .getfield 507, 3), (18, .imul, 1), (19, .iload_n 2, 1), (20, .iadd, 1), (21, .aload_n 0, 1), (22, .getfield 131, 3), (25, .iload_n 1, 1), (26, .iload_n 2, 1), (27, .iadd, 1), (28, .iaload, 1), (29, .iastore, 1), (30, .iinc 2 1, 3), (33, .goto (-31), 3), (36, .aload_n 0, 1), (37, .dup, 1), (38, .getfield 507, 3), (41, .iconst 1, 1), (42, .iadd, 1), (43, .putfield 507, 3), (46, .return_, 1)]
def M_310 : mI := (⟨"EdgeHouseModel", "stay", "(I)V"⟩, prog_13_method_57_code, 3, 1, none, [(131, 14, 75, 0), (507, 14, 74, 1)], [], [], Kk_310)
def Kk_311 : List (Nat × Instr × Nat) := [(0, .aload_n 0, 1), (1, .sipush 128, 3), (4, .aload_n 0, 1), (5, .getfield 131, 3), (8, .iload_n 1, 1), (9, .iaload, 1), (10, .imul, 1), (11, .aload_n 0, 1), (12, .getfield 131, 3), (15, .iload_n 1, 1), (16, .iconst 1, 1), (17, .iadd, 1), (18, .iaload, 1), (19, .iadd, 1), (20, .aload_n 0, 1), (21, .getfield 131, 3), (24, .iload_n 1, 1), (25, .bipush 11, 2), (27, .iadd, 1), (28, .iaload, 1), (29, .invokevirtual 468, 3), (32, .istore_n 2, 1), (33, .aload_n 0, 1), (34, .iload_n 1, 1), (35, .iload_n 2, 1), (36, .invokevirtual 471, 3), (39, .ifCond .eq 42, 3), (42, .aload_n 0, 1), (43, .iload_n 1, 1), (44, .iload_n 2, 1), (45, .invokevirtual 477, 3), (48, .ifCond .eq 33, 3), (51, .aload_n 0, 1), (52, .iload_n 2, 1), (53, .invokevirtual 462, 3), (56, .aload_n 0, 1), (57, .iload_n 2, 1), (58, .invokevirtual 465, 3), (61, .aload_n 0, 1), (62, .iload_n 2, 1), (63, .iconst 3, 1), (64, .invokevirtual 431, 3), (67, .iadd, 1), (68, .if_icmp .ge 13, 3), (71, .aload_n 0, 1), (72, .iload_n 1, 1), (73, .iload_n 2, 1), (74, .iconst 2, 1), (75, .invokevirtual 487, 3), (78, .goto 11, 3), (81, .aload_n 0, 1), (82, .iload_n 1, 1), (83, .sipush 504, 3), (86, .invokevirtual 539, 3), (89, .return_, 1)]
def M_311 : mI := (⟨"EdgeHouseModel", "giveUp", "(I)V"⟩, prog_13_method_64_code, 3, 1, none, [(131, 14, 75, 0)], [(431, 1, 278, 14), (462, 1, 292, 14), (465, 1, 293, 14), (468, 1, 277, 14), (471, 1, 280, 14), (477, 1, 283, 14), (487, 1, 300, 14), (539, 1, 312, 14)], [], Kk_311)
def Kk_312 : List (Nat × Instr × Nat) := [(0, .aload_n 0, 1), (1, .getfield 131, 3), (4, .iload_n 1, 1), (5, .iconst 2, 1), (6, .iadd, 1), (7, .iaload, 1), (8, .iconst (-1), 1), (9, .if_icmp .eq 19, 3), (12, .aload_n 0, 1), (13, .aload_n 0, 1), (14, .getfield 131, 3), (17, .iload_n 1, 1), (18, .iconst 2, 1), (19, .iadd, 1), (20, .iaload, 1), (21, .iload_n 2, 1), (22, .iconst (-1), 1), (23, .iconst 0, 1), (24, .invokevirtual 497, 3), (27, .return_, 1), (28, .aload_n 0, 1), (29, .iconst 1, 1), (30, .aload_n 0, 1), (31, .getfield 131, 3), (34, .iload_n 1, 1), (35, .iaload, 1), (36, .aload_n 0, 1), (37, .getfield 131, 3), (40, .iload_n 1, 1), (41, .iconst 3, 1), (42, .iadd, 1), (43, .iaload, 1), (44, .aload_n 0, 1), (45, .getfield 131, 3), (48, .iload_n 1, 1), (49, .iconst 4, 1), (50, .iadd, 1), (51, .iaload, 1), (52, .aload_n 0, 1), (53, .getfield 131, 3), (56, .iload_n 1, 1), (57, .iconst 1, 1), (58, .iadd, 1), (59, .iaload, 1), (60, .invokevirtual 526, 3), (63, .aload_n 0, 1), (64, .getfield 140, 3), (67, .bipush 6, 2), (69, .iload_n 2, 1), (70, .iastore, 1), (71, .aload_n 0, 1), (72, .invokevirtual 530, 3), (75, .return_, 1)]
def M_312 : mI := (⟨"EdgeHouseModel", "refuse", "(II)V"⟩, prog_13_method_65_code, 3, 2, none, [(131, 14, 75, 0), (140, 14, 79, 0)], [(497, 1, 270, 14), (526, 1, 304, 14), (530, 1, 305, 14)], [], Kk_312)
def Kk_313 : List (Nat × Instr × Nat) := [(0, .aload_n 0, 1), (1, .iconst 0, 1), (2, .putfield 155, 3), (5, .aload_n 0, 1), (6, .getfield 13, 3), (9, .ireturn, 1)]
def M_313 : mI := (⟨"EdgeHouseModel", "fault", "()I"⟩, prog_13_method_85_code, 1, 0, (some FieldType.int), [(13, 14, 3, 1), (155, 14, 0, 1)], [], [], Kk_313)
def Kk_314 : List (Nat × Instr × Nat) := [(0, .aload_n 0, 1), (1, .iconst 0, 1), (2, .putfield 155, 3), (5, .iload_n 1, 1), (6, .ifCond .lt 11, 3), (9, .iload_n 1, 1), (10, .aload_n 0, 1), (11, .getfield 533, 3), (14, .if_icmp .lt 5, 3), (17, .iconst 0, 1), (18, .ireturn, 1), (19, .aload_n 0, 1), (20, .iload_n 1, 1), (21, .invokevirtual 618, 3), (24, .iconst 1, 1), (25, .ireturn, 1)]
def M_314 : mI := (⟨"EdgeHouseModel", "deliver", "(I)Z"⟩, prog_13_method_86_code, 2, 1, (some FieldType.boolean), [(155, 14, 0, 1), (533, 14, 77, 1)], [(618, 1, 315, 14)], [], Kk_314)
def Kk_315 : List (Nat × Instr × Nat) := [(0, .iconst 0, 1), (1, .istore_n 2, 1), (2, .iload_n 2, 1), (3, .bipush 22, 2), (5, .if_icmp .ge 26, 3), (8, .aload_n 0, 1), (9, .getfield 149, 3), (12, .iload_n 2, 1), (13, .aload_n 0, 1), (14, .getfield 137, 3), (17, .bipush 22, 2), (19, .iload_n 1, 1), (20, .imul, 1), (21, .iload_n 2, 1), (22, .iadd, 1), (23, .iaload, 1), (24, .iastore, 1), (25, .iinc 2 1, 3), (28, .goto (-26), 3), (31, .aload_n 0, 1), (32, .iload_n 1, 1), (33, .invokevirtual 566, 3), (36, .aload_n 0, 1), (37, .getfield 149, 3), (40, .iconst 2, 1), (41, .iaload, 1), (42, .istore_n 2, 1), (43, .iload_n 2, 1), (44, .ifCond .le 13, 3), (47, .aload_n 0, 1), (48, .getfield 35, 3), (51, .iload_n 2, 1), (52, .baload, 1), (53, .ifCond .ne 4, 3), (56, .return_, 1), (57, .aload_n 0, 1), (58, .getfield 149, 3), (61, .iconst 0, 1), (62, .iaload, 1), (63, .tableswitch 49 0 2 #[25, 33, 41], 25), (88, .aload_n 0, 1), (89, .iload_n 2, 1), (90, .invokevirtual 569, 3), (93, .goto 46, 3), (96, .aload_n 0, 1), (97, .iload_n 2, 1), (98, .invokevirtual 572, 3), (101, .goto 38, 3), (104, .aload_n 0, 1), (105, .iload_n 2, 1), (106, .invokevirtual 575, 3), (109, .goto 30, 3), (112, .aload_n 0, 1), (113, .dup, 1), (114, .getfield 578, 3), (117, .aload_n 0, 1), (118, .getfield 149, 3), (121, .iconst 3, 1), (122, .iaload, 1), (123, .aload_n 0, 1), (124, .getfield 581, 3), (127, .if_icmp .ne 7, 3), (130, .iconst 1, 1), (131, .goto 4, 3), (134, .iconst 0, 1), (135, .iadd, 1), (136, .putfield 578, 3), (139, .return_, 1)]
def M_315 : mI := (⟨"EdgeHouseModel", "bring", "(I)V"⟩, prog_13_method_72_code, 3, 1, none, [(35, 14, 40, 0), (137, 14, 78, 0), (149, 14, 89, 0), (578, 14, 38, 1), (581, 14, 37, 1)], [(566, 1, 316, 14), (569, 1, 317, 14), (572, 1, 318, 14), (575, 1, 325, 14)], [], Kk_315)
def Kk_316 : List (Nat × Instr × Nat) := [(0, .bipush 22, 2), (2, .iload_n 1, 1), (3, .imul, 1), (4, .istore_n 2, 1), (5, .iload_n 2, 1), (6, .bipush 22, 2), (8, .aload_n 0, 1), (9, .getfield 533, 3), (12, .iconst 1, 1), (13, .isub, 1), (14, .imul, 1), (15, .if_icmp .ge 24, 3), (18, .aload_n 0, 1), (19, .getfield 137, 3), (22, .iload_n 2, 1), (23, .aload_n 0, 1), (24, .getfield 137, 3), (27, .iload_n 2, 1), (28, .bipush 22, 2), (30, .iadd, 1), (31, .iaload, 1), (32, .iastore, 1), (33, .iinc 2 1, 3), (36, .goto (-31), 3), (39, .aload_n 0, 1), (40, .dup, 1), (41, .getfield 533, 3), (44, .iconst 1, 1), (45, .isub, 1), (46, .putfield 533, 3), (49, .return_, 1)]
def M_316 : mI := (⟨"EdgeHouseModel", "remove", "(I)V"⟩, prog_13_method_71_code, 3, 1, none, [(137, 14, 78, 0), (533, 14, 77, 1)], [], [], Kk_316)
def Kk_317 : List (Nat × Instr × Nat) := [(0, .iconst 4, 1), (1, .aload_n 0, 1), (2, .getfield 149, 3), (5, .iconst 4, 1), (6, .iaload, 1), (7, .imul, 1), (8, .aload_n 0, 1), (9, .getfield 149, 3), (12, .iconst 5, 1), (13, .iaload, 1), (14, .iadd, 1), (15, .istore_n 2, 1), (16, .iload_n 1, 1), (17, .ifCond .le 172, 3), (20, .aload_n 0, 1), (21, .invokevirtual 584, 3), (24, .istore_n 3, 1), (25, .aload_n 0, 1), (26, .getfield 131, 3), (29, .iload_n 3, 1), (30, .iload_n 1, 1), (31, .iastore, 1), (32, .aload_n 0, 1), (33, .getfield 131, 3), (36, .iload_n 3, 1), (37, .iconst 1, 1), (38, .iadd, 1), (39, .iload_n 2, 1), (40, .iastore, 1), (41, .aload_n 0, 1), (42, .getfield 131, 3), (45, .iload_n 3, 1), (46, .iconst 2, 1), (47, .iadd, 1), (48, .iconst (-1), 1), (49, .iastore, 1), (50, .aload_n 0, 1), (51, .getfield 131, 3), (54, .iload_n 3, 1), (55, .iconst 3, 1), (56, .iadd, 1), (57, .aload_n 0, 1), (58, .getfield 149, 3), (61, .iconst 1, 1), (62, .iaload, 1), (63, .iastore, 1), (64, .aload_n 0, 1), (65, .getfield 131, 3), (68, .iload_n 3, 1), (69, .iconst 4, 1), (70, .iadd, 1), (71, .aload_n 0, 1), (72, .getfield 149, 3), (75, .iconst 3, 1), (76, .iaload, 1), (77, .iastore, 1), (78, .aload_n 0, 1), (79, .getfield 131, 3), (82, .iload_n 3, 1), (83, .iconst 5, 1), (84, .iadd, 1), (85, .aload_n 0, 1), (86, .getfield 149, 3), (89, .bipush 6, 2), (91, .iaload, 1), (92, .iastore, 1), (93, .aload_n 0, 1), (94, .getfield 131, 3), (97, .iload_n 3, 1), (98, .bipush 6, 2), (100, .iadd, 1), (101, .aload_n 0, 1), (102, .getfield 149, 3), (105, .bipush 7, 2), (107, .iaload, 1), (108, .iastore, 1), (109, .aload_n 0, 1), (110, .getfield 131, 3), (113, .iload_n 3, 1), (114, .bipush 7, 2), (116, .iadd, 1), (117, .aload_n 0, 1), (118, .getfield 149, 3), (121, .bipush 8, 2), (123, .iaload, 1), (124, .iastore, 1), (125, .aload_n 0, 1), (126, .getfield 131, 3), (129, .iload_n 3, 1), (130, .bipush 8, 2), (132, .iadd, 1), (133, .aload_n 0, 1), (134, .getfield 149, 3), (137, .bipush 9, 2), (139, .iaload, 1), (140, .iastore, 1), (141, .aload_n 0, 1), (142, .getfield 131, 3), (145, .iload_n 3, 1), (146, .bipush 9, 2), (148, .iadd, 1), (149, .aload_n 0, 1), (150, .getfield 149, 3), (153, .bipush 10, 2), (155, .iaload, 1), (156, .iastore, 1), (157, .aload_n 0, 1), (158, .getfield 131, 3), (161, .iload_n 3, 1), (162, .bipush 10, 2), (164, .iadd, 1), (165, .iconst 0, 1), (166, .iastore, 1), (167, .aload_n 0, 1), (168, .getfield 131, 3), (171, .iload_n 3, 1), (172, .bipush 11, 2), (174, .iadd, 1), (175, .aload_n 0, 1), (176, .getfield 149, 3), (179, .bipush 21, 2), (181, .iaload, 1), (182, .iastore, 1), (183, .aload_n 0, 1), (184, .iload_n 3, 1), (185, .invokevirtual 587, 3), (188, .return_, 1), (189, .bipush 9, 2), (191, .aload_n 0, 1), (192, .getfield 149, 3), (195, .iconst 4, 1), (196, .iaload, 1), (197, .imul, 1), (198, .istore_n 3, 1), (199, .aload_n 0, 1), (200, .getfield 149, 3), (203, .bipush 6, 2), (205, .iaload, 1), (206, .istore 4, 2), (208, .aload_n 0, 1), (209, .getfield 149, 3), (212, .bipush 7, 2), (214, .iaload, 1), (215, .istore 5, 2), (217, .aload_n 0, 1), (218, .iconst 1, 1), (219, .iconst 0, 1), (220, .aload_n 0, 1), (221, .getfield 149, 3), (224, .iconst 1, 1), (225, .iaload, 1), (226, .aload_n 0, 1), (227, .getfield 149, 3), (230, .iconst 3, 1), (231, .iaload, 1), (232, .iload_n 2, 1), (233, .invokevirtual 526, 3), (236, .aload_n 0, 1), (237, .getfield 29, 3), (240, .iload_n 3, 1), (241, .iaload, 1), (242, .ifCond .le 23, 3), (245, .aload_n 0, 1), (246, .getfield 149, 3), (249, .bipush 10, 2), (251, .iaload, 1), (252, .aload_n 0, 1), (253, .getfield 29, 3), (256, .iload_n 3, 1), (257, .iaload, 1), (258, .if_icmp .ne 7, 3), (261, .iconst 1, 1), (262, .goto 4, 3), (265, .iconst 0, 1), (266, .istore 6, 2), (268, .aload_n 0, 1), (269, .getfield 140, 3), (272, .bipush 6, 2), (274, .aload_n 0, 1), (275, .getfield 29, 3), (278, .iload_n 3, 1), (279, .iaload, 1), (280, .ifCond .ne 9, 3), (283, .sipush 404, 3), (286, .goto 17, 3), (289, .iload 6, 2), (291, .ifCond .eq 9, 3), (294, .sipush 304, 3), (297, .goto 6, 3), (300, .sipush 200, 3), (303, .iastore, 1), (304, .aload_n 0, 1), (305, .getfield 29, 3), (308, .iload_n 3, 1), (309, .iaload, 1), (310, .ifCond .le 131, 3), (313, .aload_n 0, 1), (314, .getfield 140, 3), (317, .bipush 7, 2), (319, .aload_n 0, 1), (320, .getfield 29, 3), (323, .iload_n 3, 1), (324, .iaload, 1), (325, .iastore, 1), (326, .aload_n 0, 1), (327, .getfield 140, 3), (330, .bipush 8, 2), (332, .aload_n 0, 1), (333, .getfield 581, 3), (336, .iastore, 1), (337, .aload_n 0, 1), (338, .getfield 140, 3), (341, .bipush 10, 2), (343, .aload_n 0, 1), (344, .getfield 390, 3), (347, .ineg, 1), (348, .iastore, 1), (349, .aload_n 0, 1), (350, .getfield 140, 3), (353, .bipush 11, 2), (355, .iload 6, 2), (357, .ifCond .eq 7, 3), (360, .iconst 0, 1), (361, .goto 18, 3), (364, .iload 4, 2), (366, .iload 5, 2), (368, .aload_n 0, 1), (369, .getfield 29, 3), (372, .iload_n 3, 1), (373, .iconst 1, 1), (374, .iadd, 1), (375, .iaload, 1), (376, .invokestatic 449, 3), (379, .iastore, 1), (380, .aload_n 0, 1), (381, .getfield 140, 3), (384, .bipush 21, 2), (386, .aload_n 0, 1), (387, .getfield 29, 3), (390, .iload_n 3, 1), (391, .bipush 8, 2), (393, .iadd, 1), (394, .iaload, 1), (395, .aload_n 0, 1), (396, .getfield 149, 3), (399, .bipush 21, 2), (401, .iaload, 1), (402, .invokestatic 433, 3), (405, .iastore, 1), (406, .iconst 0, 1), (407, .istore 7, 2), (409, .iload 7, 2), (411, .bipush 9, 2), (413, .if_icmp .ge 28, 3), (416, .aload_n 0, 1), (417, .getfield 140, 3), (420, .bipush 12, 2), (422, .iload 7, 2), (424, .iadd, 1), (425, .aload_n 0, 1), (426, .getfield 29, 3), (429, .iload_n 3, 1), (430, .iload 7, 2), (432, .iadd, 1), (433, .iaload, 1), (434, .iastore, 1), (435, .iinc 7 1, 3), (438, .goto (-29), 3), (441, .aload_n 0, 1), (442, .invokevirtual 530, 3), (445, .return_, 1)]
def M_317 : mI := (⟨"EdgeHouseModel", "bringFetch", "(I)V"⟩, prog_13_method_73_code, 8, 1, none, [(29, 14, 34, 0), (131, 14, 75, 0), (140, 14, 79, 0), (149, 14, 89, 0), (390, 14, 36, 1), (581, 14, 37, 1)], [(433, 2, 279, 0), (449, 2, 286, 0), (526, 1, 304, 14), (530, 1, 305, 14), (584, 1, 275, 14), (587, 1, 276, 14)], [], Kk_317)
def Kk_318 : List (Nat × Instr × Nat) := [(0, .iconst 4, 1), (1, .aload_n 0, 1), (2, .getfield 149, 3), (5, .iconst 4, 1), (6, .iaload, 1), (7, .imul, 1), (8, .aload_n 0, 1), (9, .getfield 149, 3), (12, .iconst 5, 1), (13, .iaload, 1), (14, .iadd, 1), (15, .istore_n 2, 1), (16, .sipush 128, 3), (19, .iload_n 1, 1), (20, .imul, 1), (21, .iload_n 2, 1), (22, .iadd, 1), (23, .istore_n 3, 1), (24, .aload_n 0, 1), (25, .getfield 91, 3), (28, .iload_n 3, 1), (29, .baload, 1), (30, .ifCond .eq 18, 3), (33, .aload_n 0, 1), (34, .getfield 97, 3), (37, .iload_n 3, 1), (38, .iaload, 1), (39, .aload_n 0, 1), (40, .getfield 149, 3), (43, .iconst 3, 1), (44, .iaload, 1), (45, .if_icmp .eq 4, 3), (48, .return_, 1), (49, .aload_n 0, 1), (50, .getfield 149, 3), (53, .bipush 6, 2), (55, .iaload, 1), (56, .sipush 504, 3), (59, .if_icmp .eq 19, 3), (62, .iload_n 1, 1), (63, .iconst 2, 1), (64, .if_icmp .le 14, 3), (67, .aload_n 0, 1), (68, .iload_n 1, 1), (69, .aload_n 0, 1), (70, .getfield 149, 3), (73, .iconst 1, 1), (74, .iaload, 1), (75, .invokevirtual 596, 3), (78, .bipush 8, 2), (80, .iload_n 3, 1), (81, .imul, 1), (82, .aload_n 0, 1), (83, .getfield 149, 3), (86, .bipush 20, 2), (88, .iaload, 1), (89, .aload_n 0, 1), (90, .getfield 112, 3), (93, .iload_n 3, 1), (94, .iaload, 1), (95, .invokestatic 433, 3), (98, .iadd, 1), (99, .istore 4, 2), (101, .aload_n 0, 1), (102, .getfield 149, 3), (105, .bipush 6, 2), (107, .iaload, 1), (108, .sipush 404, 3), (111, .if_icmp .ne 79, 3), (114, .aload_n 0, 1), (115, .getfield 91, 3), (118, .iload_n 3, 1), (119, .iconst 0, 1), (120, .bastore, 1), (121, .iconst 0, 1), (122, .istore 5, 2), (124, .iload 5, 2), (126, .bipush 8, 2), (128, .if_icmp .ge 22, 3), (131, .aload_n 0, 1), (132, .getfield 66, 3), (135, .bipush 8, 2), (137, .iload_n 3, 1), (138, .imul, 1), (139, .iload 5, 2), (141, .iadd, 1), (142, .iconst 0, 1), (143, .bastore, 1), (144, .iinc 5 1, 3), (147, .goto (-23), 3), (150, .aload_n 0, 1), (151, .iload_n 1, 1), (152, .iload_n 2, 1), (153, .invokevirtual 590, 3), (156, .istore 5, 2), (158, .iconst 0, 1), (159, .istore 6, 2), (161, .iload 6, 2), (163, .iload 5, 2), (165, .if_icmp .ge 22, 3), (168, .aload_n 0, 1), (169, .aload_n 0, 1), (170, .iload 6, 2), (172, .invokevirtual 593, 3), (175, .sipush 404, 3), (178, .invokevirtual 539, 3), (181, .iinc 6 1, 3), (184, .goto (-23), 3), (187, .goto 114, 3), (190, .aload_n 0, 1), (191, .getfield 149, 3), (194, .bipush 6, 2), (196, .iaload, 1), (197, .sipush 504, 3), (200, .if_icmp .ne 12, 3), (203, .aload_n 0, 1), (204, .iload_n 1, 1), (205, .iload_n 2, 1), (206, .invokevirtual 599, 3), (209, .goto 92, 3), (212, .aload_n 0, 1), (213, .getfield 149, 3), (216, .bipush 8, 2), (218, .iaload, 1), (219, .aload_n 0, 1), (220, .getfield 109, 3), (223, .iload_n 3, 1), (224, .iaload, 1), (225, .if_icmp .lt 51, 3), (228, .aload_n 0, 1), (229, .iload_n 1, 1), (230, .invokevirtual 602, 3), (233, .ifCond .ne 43, 3), (236, .aload_n 0, 1), (237, .getfield 149, 3), (240, .bipush 6, 2), (242, .iaload, 1), (243, .sipush 304, 3), (246, .if_icmp .ne 47, 3), (249, .aload_n 0, 1), (250, .getfield 66, 3), (253, .iload 4, 2), (255, .baload, 1), (256, .ifCond .eq 20, 3), (259, .aload_n 0, 1), (260, .iload 4, 2), (262, .iconst 0, 1), (263, .invokevirtual 431, 3), (266, .aload_n 0, 1), (267, .getfield 149, 3), (270, .bipush 12, 2), (272, .iaload, 1), (273, .if_icmp .eq 20, 3), (276, .aload_n 0, 1), (277, .iload_n 3, 1), (278, .invokevirtual 520, 3), (281, .ifCond .ne 20, 3), (284, .aload_n 0, 1), (285, .iload_n 1, 1), (286, .iload_n 2, 1), (287, .invokevirtual 599, 3), (290, .goto 11, 3), (293, .aload_n 0, 1), (294, .iload_n 1, 1), (295, .iload_n 3, 1), (296, .iload 4, 2), (298, .invokevirtual 605, 3), (301, .return_, 1)]
def M_318 : mI := (⟨"EdgeHouseModel", "bringFill", "(I)V"⟩, prog_13_method_78_code, 7, 1, none, [(66, 14, 50, 0), (91, 14, 59, 0), (97, 14, 61, 0), (109, 14, 65, 0), (112, 14, 66, 0), (149, 14, 89, 0)], [(431, 1, 278, 14), (433, 2, 279, 0), (520, 1, 308, 14), (539, 1, 312, 14), (590, 1, 320, 14), (593, 1, 321, 14), (596, 1, 319, 14), (599, 1, 322, 14), (602, 1, 323, 14), (605, 1, 324, 14)], [], Kk_318)
def Kk_319 : List (Nat × Instr × Nat) := [(0, .aload_n 0, 1), (1, .getfield 118, 3), (4, .iconst 2, 1), (5, .iload_n 1, 1), (6, .imul, 1), (7, .iload_n 2, 1), (8, .iadd, 1), (9, .iconst 1, 1), (10, .isub, 1), (11, .iconst 0, 1), (12, .iastore, 1), (13, .aload_n 0, 1), (14, .getfield 121, 3), (17, .iconst 2, 1), (18, .iload_n 1, 1), (19, .imul, 1), (20, .iload_n 2, 1), (21, .iadd, 1), (22, .iconst 1, 1), (23, .isub, 1), (24, .iconst 0, 1), (25, .iastore, 1), (26, .return_, 1)]
def M_319 : mI := (⟨"EdgeHouseModel", "forgive", "(II)V"⟩, prog_13_method_79_code, 3, 2, none, [(118, 14, 68, 0), (121, 14, 69, 0)], [], [], Kk_319)
def Kk_320 : List (Nat × Instr × Nat) := [(0, .iconst 0, 1), (1, .istore_n 3, 1), (2, .iconst 0, 1), (3, .istore 4, 2), (5, .iconst 0, 1), (6, .istore 5, 2), (8, .iload 5, 2), (10, .aload_n 0, 1), (11, .getfield 507, 3), (14, .if_icmp .ge 154, 3), (17, .aload_n 0, 1), (18, .getfield 131, 3), (21, .bipush 12, 2), (23, .iload 5, 2), (25, .imul, 1), (26, .iaload, 1), (27, .iload_n 1, 1), (28, .if_icmp .ne 28, 3), (31, .iload_n 2, 1), (32, .iconst (-1), 1), (33, .if_icmp .eq 19, 3), (36, .aload_n 0, 1), (37, .getfield 131, 3), (40, .bipush 12, 2), (42, .iload 5, 2), (44, .imul, 1), (45, .iconst 1, 1), (46, .iadd, 1), (47, .iaload, 1), (48, .iload_n 2, 1), (49, .if_icmp .ne 7, 3), (52, .iconst 1, 1), (53, .goto 4, 3), (56, .iconst 0, 1), (57, .istore 6, 2), (59, .iconst 0, 1), (60, .istore 7, 2), (62, .iload 7, 2), (64, .bipush 12, 2), (66, .if_icmp .ge 68, 3), (69, .iload 6, 2), (71, .ifCond .eq 31, 3), (74, .aload_n 0, 1), (75, .getfield 134, 3), (78, .bipush 12, 2), (80, .iload_n 3, 1), (81, .imul, 1), (82, .iload 7, 2), (84, .iadd, 1), (85, .aload_n 0, 1), (86, .getfield 131, 3), (89, .bipush 12, 2), (91, .iload 5, 2), (93, .imul, 1), (94, .iload 7, 2), (96, .iadd, 1), (97, .iaload, 1), (98, .iastore, 1), (99, .goto 29, 3), (102, .aload_n 0, 1), (103, .getfield 131, 3), (106, .bipush 12, 2), (108, .iload 4, 2), (110, .imul, 1), (111, .iload 7, 2), (113, .iadd, 1), (114, .aload_n 0, 1), (115, .getfield 131, 3), (118, .bipush 12, 2), (120, .iload 5, 2), (122, .imul, 1), (123, .iload 7, 2), (125, .iadd, 1), (126, .iaload, 1), (127, .iastore, 1), (128, .iinc 7 1, 3), (131, .goto (-69), 3), (134, .iload_n 3, 1), (135, .iload 6, 2), (137, .ifCond .eq 7, 3), (140, .iconst 1, 1), (141, .goto 4, 3), (144, .iconst 0, 1), (145, .iadd, 1), (146, .istore_n 3, 1), (147, .iload 4, 2), (149, .iload 6, 2), (151, .ifCond .eq 7, 3), (154, .iconst 0, 1), (155, .goto 4, 3), (158, .iconst 1, 1), (159, .iadd, 1), (160, .istore 4, 2), (162, .iinc 5 1, 3), (165, .goto (-157), 3), (168, .aload_n 0, 1), (169, .iload 4, 2), (171, .putfield 507, 3), (174, .iload_n 3, 1), (175, .ireturn, 1)]
def M_320 : mI := (⟨"EdgeHouseModel", "take", "(II)I"⟩, prog_13_method_74_code, 8, 2, (some FieldType.int), [(131, 14, 75, 0), (134, 14, 76, 0), (507, 14, 74, 1)], [], [], Kk_320)
def Kk_321 : List (Nat × Instr × Nat) := [(0, .aload_n 0, 1), (1, .invokevirtual 584, 3), (4, .istore_n 2, 1), (5, .iconst 0, 1), (6, .istore_n 3, 1), (7, .iload_n 3, 1), (8, .bipush 12, 2), (10, .if_icmp .ge 28, 3), (13, .aload_n 0, 1), (14, .getfield 131, 3), (17, .iload_n 2, 1), (18, .iload_n 3, 1), (19, .iadd, 1), (20, .aload_n 0, 1), (21, .getfield 134, 3), (24, .bipush 12, 2), (26, .iload_n 1, 1), (27, .imul, 1), (28, .iload_n 3, 1), (29, .iadd, 1), (30, .iaload, 1), (31, .iastore, 1), (32, .iinc 3 1, 3), (35, .goto (-28), 3), (38, .iload_n 2, 1), (39, .ireturn, 1)]
def M_321 : mI := (⟨"EdgeHouseModel", "again", "(I)I"⟩, prog_13_method_75_code, 4, 1, (some FieldType.int), [(131, 14, 75, 0), (134, 14, 76, 0)], [(584, 1, 275, 14)], [], Kk_321)
def Kk_322 : List (Nat × Instr × Nat) := [(0, .aload_n 0, 1), (1, .getfield 91, 3), (4, .sipush 128, 3), (7, .iload_n 1, 1), (8, .imul, 1), (9, .iload_n 2, 1), (10, .iadd, 1), (11, .iconst 0, 1), (12, .bastore, 1), (13, .aload_n 0, 1), (14, .iload_n 1, 1), (15, .iload_n 2, 1), (16, .invokevirtual 590, 3), (19, .istore_n 3, 1), (20, .iconst 0, 1), (21, .istore 4, 2), (23, .iload 4, 2), (25, .iload_n 3, 1), (26, .if_icmp .ge 19, 3), (29, .aload_n 0, 1), (30, .aload_n 0, 1), (31, .iload 4, 2), (33, .invokevirtual 593, 3), (36, .invokevirtual 504, 3), (39, .iinc 4 1, 3), (42, .goto (-19), 3), (45, .return_, 1)]
def M_322 : mI := (⟨"EdgeHouseModel", "failAll", "(II)V"⟩, prog_13_method_76_code, 5, 2, none, [(91, 14, 59, 0)], [(504, 1, 311, 14), (590, 1, 320, 14), (593, 1, 321, 14)], [], Kk_322)
def Kk_323 : List (Nat × Instr × Nat) := [(0, .iconst 0, 1), (1, .istore_n 2, 1), (2, .iload_n 2, 1), (3, .aload_n 0, 1), (4, .getfield 54, 3), (7, .iload_n 1, 1), (8, .iaload, 1), (9, .if_icmp .ge 98, 3), (12, .bipush 64, 2), (14, .iload_n 1, 1), (15, .imul, 1), (16, .iload_n 2, 1), (17, .iadd, 1), (18, .istore_n 3, 1), (19, .aload_n 0, 1), (20, .getfield 60, 3), (23, .iload_n 3, 1), (24, .iaload, 1), (25, .ifCond .ne 26, 3), (28, .aload_n 0, 1), (29, .getfield 63, 3), (32, .iload_n 3, 1), (33, .iaload, 1), (34, .aload_n 0, 1), (35, .getfield 149, 3), (38, .iconst 4, 1), (39, .iaload, 1), (40, .if_icmp .ne 7, 3), (43, .iconst 1, 1), (44, .goto 32, 3), (47, .iconst 0, 1), (48, .goto 28, 3), (51, .aload_n 0, 1), (52, .getfield 149, 3), (55, .bipush 19, 2), (57, .iaload, 1), (58, .aload_n 0, 1), (59, .getfield 63, 3), (62, .iload_n 3, 1), (63, .iaload, 1), (64, .ishr, 1), (65, .iconst 1, 1), (66, .iand, 1), (67, .iconst 1, 1), (68, .if_icmp .ne 7, 3), (71, .iconst 1, 1), (72, .goto 4, 3), (75, .iconst 0, 1), (76, .istore 4, 2), (78, .iload 4, 2), (80, .ifCond .eq 21, 3), (83, .aload_n 0, 1), (84, .getfield 57, 3), (87, .iload_n 3, 1), (88, .iaload, 1), (89, .aload_n 0, 1), (90, .getfield 149, 3), (93, .bipush 8, 2), (95, .iaload, 1), (96, .if_icmp .le 5, 3), (99, .iconst 1, 1), (100, .ireturn, 1), (101, .iinc 2 1, 3), (104, .goto (-102), 3), (107, .iconst 0, 1), (108, .ireturn, 1)]
def M_323 : mI := (⟨"EdgeHouseModel", "isPurged", "(I)Z"⟩, prog_13_method_77_code, 5, 1, (some FieldType.boolean), [(54, 14, 46, 0), (57, 14, 47, 0), (60, 14, 48, 0), (63, 14, 49, 0), (149, 14, 89, 0)], [], [], Kk_323)
def Kk_324 : List (Nat × Instr × Nat) := [(0, .aload_n 0, 1), (1, .getfield 91, 3), (4, .iload_n 2, 1), (5, .iconst 0, 1), (6, .bastore, 1), (7, .bipush 8, 2), (9, .iload_n 2, 1), (10, .imul, 1), (11, .istore 4, 2), (13, .iload 4, 2), (15, .bipush 8, 2), (17, .iload_n 2, 1), (18, .imul, 1), (19, .bipush 8, 2), (21, .iadd, 1), (22, .if_icmp .ge 49, 3), (25, .aload_n 0, 1), (26, .getfield 66, 3), (29, .iload 4, 2), (31, .aload_n 0, 1), (32, .getfield 66, 3), (35, .iload 4, 2), (37, .baload, 1), (38, .ifCond .eq 25, 3), (41, .aload_n 0, 1), (42, .iload 4, 2), (44, .bipush 8, 2), (46, .invokevirtual 431, 3), (49, .aload_n 0, 1), (50, .getfield 149, 3), (53, .bipush 20, 2), (55, .iaload, 1), (56, .if_icmp .ne 7, 3), (59, .iconst 1, 1), (60, .goto 4, 3), (63, .iconst 0, 1), (64, .bastore, 1), (65, .iinc 4 1, 3), (68, .goto (-55), 3), (71, .aload_n 0, 1), (72, .getfield 149, 3), (75, .bipush 11, 2), (77, .iaload, 1), (78, .aload_n 0, 1), (79, .getfield 66, 3), (82, .iload_n 3, 1), (83, .baload, 1), (84, .ifCond .eq 28, 3), (87, .aload_n 0, 1), (88, .iload_n 3, 1), (89, .iconst 0, 1), (90, .invokevirtual 431, 3), (93, .aload_n 0, 1), (94, .getfield 149, 3), (97, .bipush 12, 2), (99, .iaload, 1), (100, .if_icmp .ne 12, 3), (103, .aload_n 0, 1), (104, .getfield 85, 3), (107, .iload_n 3, 1), (108, .iaload, 1), (109, .goto 4, 3), (112, .iconst 0, 1), (113, .ior, 1), (114, .istore 4, 2), (116, .aload_n 0, 1), (117, .getfield 149, 3), (120, .bipush 17, 2), (122, .iaload, 1), (123, .iconst 1, 1), (124, .if_icmp .ne 13, 3), (127, .aload_n 0, 1), (128, .getfield 66, 3), (131, .iload_n 3, 1), (132, .iconst 0, 1), (133, .bastore, 1), (134, .goto 136, 3), (137, .aload_n 0, 1), (138, .getfield 69, 3), (141, .iload_n 3, 1), (142, .aload_n 0, 1), (143, .getfield 66, 3), (146, .iload_n 3, 1), (147, .baload, 1), (148, .ifCond .eq 16, 3), (151, .aload_n 0, 1), (152, .getfield 69, 3), (155, .iload_n 3, 1), (156, .baload, 1), (157, .ifCond .eq 7, 3), (160, .iconst 1, 1), (161, .goto 4, 3), (164, .iconst 0, 1), (165, .bastore, 1), (166, .aload_n 0, 1), (167, .getfield 66, 3), (170, .iload_n 3, 1), (171, .iconst 1, 1), (172, .bastore, 1), (173, .iconst 0, 1), (174, .istore 5, 2), (176, .iload 5, 2), (178, .bipush 9, 2), (180, .if_icmp .ge 31, 3), (183, .aload_n 0, 1), (184, .getfield 73, 3), (187, .bipush 9, 2), (189, .iload_n 3, 1), (190, .imul, 1), (191, .iload 5, 2), (193, .iadd, 1), (194, .aload_n 0, 1), (195, .getfield 149, 3), (198, .bipush 12, 2), (200, .iload 5, 2), (202, .iadd, 1), (203, .iaload, 1), (204, .iastore, 1), (205, .iinc 5 1, 3), (208, .goto (-32), 3), (211, .aload_n 0, 1), (212, .getfield 76, 3), (215, .iload_n 3, 1), (216, .aload_n 0, 1), (217, .getfield 149, 3), (220, .bipush 8, 2), (222, .iaload, 1), (223, .iastore, 1), (224, .aload_n 0, 1), (225, .getfield 79, 3), (228, .iload_n 3, 1), (229, .aload_n 0, 1), (230, .getfield 149, 3), (233, .bipush 10, 2), (235, .iaload, 1), (236, .aload_n 0, 1), (237, .getfield 390, 3), (240, .iadd, 1), (241, .iastore, 1), (242, .aload_n 0, 1), (243, .getfield 82, 3), (246, .iload_n 3, 1), (247, .aload_n 0, 1), (248, .getfield 390, 3), (251, .iastore, 1), (252, .aload_n 0, 1), (253, .getfield 85, 3), (256, .iload_n 3, 1), (257, .iload 4, 2), (259, .iastore, 1), (260, .aload_n 0, 1), (261, .iload_n 3, 1), (262, .invokevirtual 425, 3), (265, .aload_n 0, 1), (266, .iload_n 1, 1), (267, .invokevirtual 428, 3), (270, .aload_n 0, 1), (271, .iload_n 1, 1), (272, .iload_n 2, 1), (273, .sipush 128, 3), (276, .irem, 1), (277, .invokevirtual 590, 3), (280, .istore 5, 2), (282, .iconst 0, 1), (283, .istore 6, 2), (285, .iload 6, 2), (287, .bipush 9, 2), (289, .if_icmp .ge 26, 3), (292, .aload_n 0, 1), (293, .getfield 143, 3), (296, .iload 6, 2), (298, .aload_n 0, 1), (299, .getfield 149, 3), (302, .bipush 12, 2), (304, .iload 6, 2), (306, .iadd, 1), (307, .iaload, 1), (308, .iastore, 1), (309, .iinc 6 1, 3), (312, .goto (-27), 3), (315, .aload_n 0, 1), (316, .iload_n 3, 1), (317, .bipush 8, 2), (319, .irem, 1), (320, .putfield 542, 3), (323, .aload_n 0, 1), (324, .aload_n 0, 1), (325, .getfield 149, 3), (328, .bipush 8, 2), (330, .iaload, 1), (331, .putfield 545, 3), (334, .aload_n 0, 1), (335, .aload_n 0, 1), (336, .getfield 149, 3), (339, .bipush 10, 2), (341, .iaload, 1), (342, .aload_n 0, 1), (343, .getfield 390, 3), (346, .iadd, 1), (347, .putfield 548, 3), (350, .aload_n 0, 1), (351, .iload 4, 2), (353, .putfield 551, 3), (356, .iconst 0, 1), (357, .istore 6, 2), (359, .iload 6, 2), (361, .iload 5, 2), (363, .if_icmp .ge 136, 3), (366, .aload_n 0, 1), (367, .iload 6, 2), (369, .invokevirtual 593, 3), (372, .istore 7, 2), (374, .aload_n 0, 1), (375, .iload 7, 2), (377, .aload_n 0, 1), (378, .getfield 143, 3), (381, .iconst 1, 1), (382, .iaload, 1), (383, .aload_n 0, 1), (384, .invokevirtual 560, 3), (387, .invokevirtual 459, 3), (390, .istore 8, 2), (392, .iload 6, 2), (394, .ifCond .ne 64, 3), (397, .aload_n 0, 1), (398, .getfield 143, 3), (401, .bipush 8, 2), (403, .iaload, 1), (404, .aload_n 0, 1), (405, .getfield 131, 3), (408, .iload 7, 2), (410, .bipush 11, 2), (412, .iadd, 1), (413, .iaload, 1), (414, .invokestatic 433, 3), (417, .aload_n 0, 1), (418, .getfield 542, 3), (421, .if_icmp .ne 37, 3), (424, .iload 4, 2), (426, .iload 8, 2), (428, .iand, 1), (429, .iload 8, 2), (431, .if_icmp .ne 27, 3), (434, .aload_n 0, 1), (435, .getfield 149, 3), (438, .bipush 8, 2), (440, .iaload, 1), (441, .aload_n 0, 1), (442, .getfield 131, 3), (445, .iload 7, 2), (447, .bipush 7, 2), (449, .iadd, 1), (450, .iaload, 1), (451, .if_icmp .lt 7, 3), (454, .iconst 1, 1), (455, .goto 4, 3), (458, .iconst 0, 1), (459, .istore 9, 2), (461, .aload_n 0, 1), (462, .getfield 131, 3), (465, .iload 7, 2), (467, .bipush 10, 2), (469, .iadd, 1), (470, .iconst 1, 1), (471, .iastore, 1), (472, .iload 9, 2), (474, .ifCond .eq 13, 3), (477, .aload_n 0, 1), (478, .iload 7, 2), (480, .iconst 0, 1), (481, .invokevirtual 554, 3), (484, .goto 9, 3), (487, .aload_n 0, 1), (488, .iload 7, 2), (490, .invokevirtual 587, 3), (493, .iinc 6 1, 3), (496, .goto (-137), 3), (499, .return_, 1)]
def M_324 : mI := (⟨"EdgeHouseModel", "takeIn", "(III)V"⟩, prog_13_method_80_code, 10, 3, none, [(66, 14, 50, 0), (69, 14, 51, 0), (73, 14, 52, 0), (76, 14, 53, 0), (79, 14, 54, 0), (82, 14, 55, 0), (85, 14, 56, 0), (91, 14, 59, 0), (131, 14, 75, 0), (143, 14, 83, 0), (149, 14, 89, 0), (390, 14, 36, 1), (542, 14, 87, 1), (545, 14, 84, 1), (548, 14, 85, 1), (551, 14, 86, 1)], [(425, 1, 295, 14), (428, 1, 296, 14), (431, 1, 278, 14), (433, 2, 279, 0), (459, 1, 285, 14), (554, 1, 301, 14), (560, 1, 303, 14), (587, 1, 276, 14), (590, 1, 320, 14), (593, 1, 321, 14)], [], Kk_324)
def Kk_325 : List (Nat × Instr × Nat) := [(0, .bipush 64, 2), (2, .iload_n 1, 1), (3, .imul, 1), (4, .aload_n 0, 1), (5, .getfield 54, 3), (8, .iload_n 1, 1), (9, .iaload, 1), (10, .iadd, 1), (11, .istore_n 2, 1), (12, .aload_n 0, 1), (13, .getfield 54, 3), (16, .iload_n 1, 1), (17, .dup2, 1), (18, .iaload, 1), (19, .iconst 1, 1), (20, .iadd, 1), (21, .iastore, 1), (22, .aload_n 0, 1), (23, .getfield 57, 3), (26, .iload_n 2, 1), (27, .aload_n 0, 1), (28, .getfield 149, 3), (31, .iconst 3, 1), (32, .iaload, 1), (33, .iastore, 1), (34, .aload_n 0, 1), (35, .getfield 60, 3), (38, .iload_n 2, 1), (39, .aload_n 0, 1), (40, .getfield 149, 3), (43, .iconst 5, 1), (44, .iaload, 1), (45, .iastore, 1), (46, .aload_n 0, 1), (47, .getfield 63, 3), (50, .iload_n 2, 1), (51, .aload_n 0, 1), (52, .getfield 149, 3), (55, .iconst 4, 1), (56, .iaload, 1), (57, .iastore, 1), (58, .iconst 0, 1), (59, .istore_n 3, 1), (60, .iload_n 3, 1), (61, .sipush 1024, 3), (64, .if_icmp .ge 105, 3), (67, .sipush 1024, 3), (70, .iload_n 1, 1), (71, .imul, 1), (72, .iload_n 3, 1), (73, .iadd, 1), (74, .istore 4, 2), (76, .aload_n 0, 1), (77, .getfield 149, 3), (80, .iconst 5, 1), (81, .iaload, 1), (82, .ifCond .ne 26, 3), (85, .iload_n 3, 1), (86, .bipush 8, 2), (88, .idiv, 1), (89, .iconst 4, 1), (90, .idiv, 1), (91, .aload_n 0, 1), (92, .getfield 149, 3), (95, .iconst 4, 1), (96, .iaload, 1), (97, .if_icmp .ne 7, 3), (100, .iconst 1, 1), (101, .goto 33, 3), (104, .iconst 0, 1), (105, .goto 29, 3), (108, .aload_n 0, 1), (109, .iload 4, 2), (111, .bipush 7, 2), (113, .invokevirtual 431, 3), (116, .aload_n 0, 1), (117, .getfield 149, 3), (120, .iconst 4, 1), (121, .iaload, 1), (122, .ishr, 1), (123, .iconst 1, 1), (124, .iand, 1), (125, .iconst 1, 1), (126, .if_icmp .ne 7, 3), (129, .iconst 1, 1), (130, .goto 4, 3), (133, .iconst 0, 1), (134, .istore 5, 2), (136, .aload_n 0, 1), (137, .getfield 66, 3), (140, .iload 4, 2), (142, .aload_n 0, 1), (143, .getfield 66, 3), (146, .iload 4, 2), (148, .baload, 1), (149, .ifCond .eq 12, 3), (152, .iload 5, 2), (154, .ifCond .ne 7, 3), (157, .iconst 1, 1), (158, .goto 4, 3), (161, .iconst 0, 1), (162, .bastore, 1), (163, .iinc 3 1, 3), (166, .goto (-106), 3), (169, .aload_n 0, 1), (170, .getfield 42, 3), (173, .iload_n 1, 1), (174, .aload_n 0, 1), (175, .getfield 149, 3), (178, .iconst 3, 1), (179, .iaload, 1), (180, .aload_n 0, 1), (181, .getfield 42, 3), (184, .iload_n 1, 1), (185, .iaload, 1), (186, .if_icmp .le 12, 3), (189, .aload_n 0, 1), (190, .getfield 149, 3), (193, .iconst 3, 1), (194, .iaload, 1), (195, .goto 9, 3), (198, .aload_n 0, 1), (199, .getfield 42, 3), (202, .iload_n 1, 1), (203, .iaload, 1), (204, .iastore, 1), (205, .aload_n 0, 1), (206, .iconst 3, 1), (207, .iload_n 1, 1), (208, .iconst 0, 1), (209, .aload_n 0, 1), (210, .getfield 149, 3), (213, .iconst 3, 1), (214, .iaload, 1), (215, .iconst 0, 1), (216, .invokevirtual 526, 3), (219, .aload_n 0, 1), (220, .invokevirtual 530, 3), (223, .return_, 1)]
def M_325 : mI := (⟨"EdgeHouseModel", "bringPurge", "(I)V"⟩, prog_13_method_81_code, 6, 1, none, [(42, 14, 42, 0), (54, 14, 46, 0), (57, 14, 47, 0), (60, 14, 48, 0), (63, 14, 49, 0), (66, 14, 50, 0), (149, 14, 89, 0)], [(431, 1, 278, 14), (526, 1, 304, 14), (530, 1, 305, 14)], [], Kk_325)
def Kk_326 : List (Nat × Instr × Nat) := [(0, .aload_n 0, 1), (1, .iconst 0, 1), (2, .putfield 155, 3), (5, .iload_n 1, 1), (6, .ifCond .lt 11, 3), (9, .iload_n 1, 1), (10, .aload_n 0, 1), (11, .getfield 533, 3), (14, .if_icmp .lt 5, 3), (17, .iconst 0, 1), (18, .ireturn, 1), (19, .aload_n 0, 1), (20, .iload_n 1, 1), (21, .invokevirtual 566, 3), (24, .aload_n 0, 1), (25, .dup, 1), (26, .getfield 536, 3), (29, .iconst 1, 1), (30, .iadd, 1), (31, .putfield 536, 3), (34, .iconst 1, 1), (35, .ireturn, 1)]
def M_326 : mI := (⟨"EdgeHouseModel", "lose", "(I)Z"⟩, prog_13_method_87_code, 2, 1, (some FieldType.boolean), [(155, 14, 0, 1), (533, 14, 77, 1), (536, 14, 39, 1)], [(566, 1, 316, 14)], [], Kk_326)
def Kk_327 : List (Nat × Instr × Nat) := [(0, .aload_n 0, 1), (1, .iconst 0, 1), (2, .putfield 155, 3), (5, .iconst 0, 1), (6, .istore_n 1, 1), (7, .aload_n 0, 1), (8, .getfield 533, 3), (11, .ifCond .le 21, 3), (14, .iload_n 1, 1), (15, .sipush 500, 3), (18, .if_icmp .ge 14, 3), (21, .aload_n 0, 1), (22, .iconst 0, 1), (23, .invokevirtual 618, 3), (26, .iinc 1 1, 3), (29, .goto (-22), 3), (32, .iload_n 1, 1), (33, .ireturn, 1)]
def M_327 : mI := (⟨"EdgeHouseModel", "settle", "()I"⟩, prog_13_method_88_code, 2, 0, (some FieldType.int), [(155, 14, 0, 1), (533, 14, 77, 1)], [(618, 1, 315, 14)], [], Kk_327)
def Kk_328 : List (Nat × Instr × Nat) := [(0, .aload_n 0, 1), (1, .iconst 0, 1), (2, .putfield 155, 3), (5, .iload_n 1, 1), (6, .ifCond .lt 36, 3), (9, .iload_n 1, 1), (10, .iconst 1, 1), (11, .if_icmp .gt 31, 3), (14, .iload_n 2, 1), (15, .ifCond .lt 27, 3), (18, .iload_n 2, 1), (19, .iload_n 1, 1), (20, .ifCond .ne 8, 3), (23, .bipush 31, 2), (25, .goto 5, 3), (28, .bipush 7, 2), (30, .if_icmp .gt 12, 3), (33, .aload_n 0, 1), (34, .getfield 581, 3), (37, .bipush 60, 2), (39, .if_icmp .ne 5, 3), (42, .iconst (-1), 1), (43, .ireturn, 1), (44, .aload_n 0, 1), (45, .dup, 1), (46, .getfield 581, 3), (49, .iconst 1, 1), (50, .iadd, 1), (51, .putfield 581, 3), (54, .aload_n 0, 1), (55, .iconst 0, 1), (56, .putfield 578, 3), (59, .iconst 1, 1), (60, .istore_n 3, 1), (61, .iload_n 3, 1), (62, .bipush 7, 2), (64, .if_icmp .ge 51, 3), (67, .aload_n 0, 1), (68, .getfield 35, 3), (71, .iload_n 3, 1), (72, .baload, 1), (73, .ifCond .ne 6, 3), (76, .goto 33, 3), (79, .aload_n 0, 1), (80, .iconst 2, 1), (81, .iconst 0, 1), (82, .iload_n 3, 1), (83, .aload_n 0, 1), (84, .getfield 581, 3), (87, .iconst 0, 1), (88, .invokevirtual 526, 3), (91, .aload_n 0, 1), (92, .getfield 140, 3), (95, .iconst 4, 1), (96, .iload_n 2, 1), (97, .iastore, 1), (98, .aload_n 0, 1), (99, .getfield 140, 3), (102, .iconst 5, 1), (103, .iload_n 1, 1), (104, .iastore, 1), (105, .aload_n 0, 1), (106, .invokevirtual 530, 3), (109, .iinc 3 1, 3), (112, .goto (-51), 3), (115, .aload_n 0, 1), (116, .getfield 581, 3), (119, .ireturn, 1)]
def M_328 : mI := (⟨"EdgeHouseModel", "purge", "(II)I"⟩, prog_13_method_89_code, 4, 2, (some FieldType.int), [(35, 14, 40, 0), (140, 14, 79, 0), (155, 14, 0, 1), (578, 14, 38, 1), (581, 14, 37, 1)], [(526, 1, 304, 14), (530, 1, 305, 14)], [], Kk_328)
def Kk_329 : List (Nat × Instr × Nat) := [(0, .aload_n 0, 1), (1, .iload_n 1, 1), (2, .iconst 1, 1), (3, .if_icmp .lt 9, 3), (6, .iload_n 1, 1), (7, .bipush 100, 2), (9, .if_icmp .le 7, 3), (12, .iconst 1, 1), (13, .goto 4, 3), (16, .iconst 0, 1), (17, .putfield 155, 3), (20, .aload_n 0, 1), (21, .getfield 155, 3), (24, .ifCond .eq 5, 3), (27, .iconst 0, 1), (28, .ireturn, 1), (29, .iconst 0, 1), (30, .istore_n 2, 1), (31, .iload_n 2, 1), (32, .iload_n 1, 1), (33, .if_icmp .ge 38, 3), (36, .aload_n 0, 1), (37, .dup, 1), (38, .getfield 390, 3), (41, .iconst 1, 1), (42, .iadd, 1), (43, .putfield 390, 3), (46, .iconst 1, 1), (47, .istore_n 3, 1), (48, .iload_n 3, 1), (49, .bipush 7, 2), (51, .if_icmp .ge 14, 3), (54, .aload_n 0, 1), (55, .iload_n 3, 1), (56, .invokevirtual 624, 3), (59, .iinc 3 1, 3), (62, .goto (-14), 3), (65, .iinc 2 1, 3), (68, .goto (-37), 3), (71, .aload_n 0, 1), (72, .getfield 390, 3), (75, .ireturn, 1)]
def M_329 : mI := (⟨"EdgeHouseModel", "tick", "(I)I"⟩, prog_13_method_92_code, 4, 1, (some FieldType.int), [(155, 14, 0, 1), (390, 14, 36, 1)], [(624, 1, 330, 14)], [], Kk_329)
def Kk_330 : List (Nat × Instr × Nat) := [(0, .iconst 0, 1), (1, .istore_n 2, 1), (2, .iload_n 2, 1), (3, .iconst (-1), 1), (4, .if_icmp .eq 114, 3), (7, .iconst (-1), 1), (8, .istore_n 2, 1), (9, .sipush 128, 3), (12, .iload_n 1, 1), (13, .imul, 1), (14, .istore_n 3, 1), (15, .iload_n 3, 1), (16, .sipush 128, 3), (19, .iload_n 1, 1), (20, .imul, 1), (21, .sipush 128, 3), (24, .iadd, 1), (25, .if_icmp .ge 56, 3), (28, .aload_n 0, 1), (29, .getfield 91, 3), (32, .iload_n 3, 1), (33, .baload, 1), (34, .ifCond .eq 41, 3), (37, .aload_n 0, 1), (38, .getfield 390, 3), (41, .aload_n 0, 1), (42, .getfield 100, 3), (45, .iload_n 3, 1), (46, .iaload, 1), (47, .isub, 1), (48, .bipush 10, 2), (50, .if_icmp .lt 25, 3), (53, .iload_n 2, 1), (54, .iconst (-1), 1), (55, .if_icmp .eq 18, 3), (58, .aload_n 0, 1), (59, .getfield 97, 3), (62, .iload_n 3, 1), (63, .iaload, 1), (64, .aload_n 0, 1), (65, .getfield 97, 3), (68, .iload_n 2, 1), (69, .iaload, 1), (70, .if_icmp .ge 5, 3), (73, .iload_n 3, 1), (74, .istore_n 2, 1), (75, .iinc 3 1, 3), (78, .goto (-63), 3), (81, .iload_n 2, 1), (82, .iconst (-1), 1), (83, .if_icmp .ne 6, 3), (86, .goto (-84), 3), (89, .iload_n 1, 1), (90, .iconst 2, 1), (91, .if_icmp .le 14, 3), (94, .aload_n 0, 1), (95, .iload_n 1, 1), (96, .aload_n 0, 1), (97, .getfield 115, 3), (100, .iload_n 2, 1), (101, .iaload, 1), (102, .invokevirtual 621, 3), (105, .aload_n 0, 1), (106, .iload_n 1, 1), (107, .iload_n 2, 1), (108, .sipush 128, 3), (111, .irem, 1), (112, .invokevirtual 599, 3), (115, .goto (-113), 3), (118, .return_, 1)]
def M_330 : mI := (⟨"EdgeHouseModel", "lapse", "(I)V"⟩, prog_13_method_91_code, 4, 1, none, [(91, 14, 59, 0), (97, 14, 61, 0), (100, 14, 62, 0), (115, 14, 67, 0), (390, 14, 36, 1)], [(599, 1, 322, 14), (621, 1, 331, 14)], [], Kk_330)
def Kk_331 : List (Nat × Instr × Nat) := [(0, .iconst 2, 1), (1, .iload_n 1, 1), (2, .imul, 1), (3, .iload_n 2, 1), (4, .iadd, 1), (5, .iconst 1, 1), (6, .isub, 1), (7, .istore_n 3, 1), (8, .aload_n 0, 1), (9, .getfield 118, 3), (12, .iload_n 3, 1), (13, .dup2, 1), (14, .iaload, 1), (15, .iconst 1, 1), (16, .iadd, 1), (17, .iastore, 1), (18, .aload_n 0, 1), (19, .getfield 118, 3), (22, .iload_n 3, 1), (23, .iaload, 1), (24, .iconst 2, 1), (25, .if_icmp .ge 4, 3), (28, .return_, 1), (29, .aload_n 0, 1), (30, .getfield 118, 3), (33, .iload_n 3, 1), (34, .iconst 0, 1), (35, .iastore, 1), (36, .aload_n 0, 1), (37, .getfield 121, 3), (40, .iload_n 3, 1), (41, .aload_n 0, 1), (42, .getfield 390, 3), (45, .bipush 20, 2), (47, .iadd, 1), (48, .iastore, 1), (49, .return_, 1)]
def M_331 : mI := (⟨"EdgeHouseModel", "strike", "(II)V"⟩, prog_13_method_90_code, 4, 2, none, [(118, 14, 68, 0), (121, 14, 69, 0), (390, 14, 36, 1)], [], [], Kk_331)
def Kk_332 : List (Nat × Instr × Nat) := [(0, .aload_n 0, 1), (1, .iconst 0, 1), (2, .putfield 155, 3), (5, .iload_n 1, 1), (6, .invokestatic 627, 3), (9, .ifCond .eq 12, 3), (12, .aload_n 0, 1), (13, .getfield 35, 3), (16, .iload_n 1, 1), (17, .baload, 1), (18, .ifCond .ne 5, 3), (21, .iconst 0, 1), (22, .ireturn, 1), (23, .aload_n 0, 1), (24, .getfield 35, 3), (27, .iload_n 1, 1), (28, .iconst 0, 1), (29, .bastore, 1), (30, .sipush 1024, 3), (33, .iload_n 1, 1), (34, .imul, 1), (35, .istore_n 2, 1), (36, .iload_n 2, 1), (37, .sipush 1024, 3), (40, .iload_n 1, 1), (41, .imul, 1), (42, .sipush 1024, 3), (45, .iadd, 1), (46, .if_icmp .ge 16, 3), (49, .aload_n 0, 1), (50, .getfield 66, 3), (53, .iload_n 2, 1), (54, .iconst 0, 1), (55, .bastore, 1), (56, .iinc 2 1, 3), (59, .goto (-23), 3), (62, .sipush 128, 3), (65, .iload_n 1, 1), (66, .imul, 1), (67, .istore_n 2, 1), (68, .iload_n 2, 1), (69, .sipush 128, 3), (72, .iload_n 1, 1), (73, .imul, 1), (74, .sipush 128, 3), (77, .iadd, 1), (78, .if_icmp .ge 16, 3), (81, .aload_n 0, 1), (82, .getfield 91, 3), (85, .iload_n 2, 1), (86, .iconst 0, 1), (87, .bastore, 1), (88, .iinc 2 1, 3), (91, .goto (-23), 3), (94, .iconst 1, 1), (95, .istore_n 2, 1), (96, .iload_n 2, 1), (97, .iconst 3, 1), (98, .if_icmp .ge 20, 3), (101, .iload_n 1, 1), (102, .iconst 2, 1), (103, .if_icmp .le 15, 3), (106, .aload_n 0, 1), (107, .iload_n 1, 1), (108, .iload_n 2, 1), (109, .invokevirtual 596, 3), (112, .iinc 2 1, 3), (115, .goto (-19), 3), (118, .aload_n 0, 1), (119, .getfield 54, 3), (122, .iload_n 1, 1), (123, .iconst 0, 1), (124, .iastore, 1), (125, .aload_n 0, 1), (126, .getfield 42, 3), (129, .iload_n 1, 1), (130, .iconst 0, 1), (131, .iastore, 1), (132, .aload_n 0, 1), (133, .iload_n 1, 1), (134, .iconst (-1), 1), (135, .invokevirtual 590, 3), (138, .istore_n 2, 1), (139, .iconst 0, 1), (140, .istore_n 3, 1), (141, .iload_n 3, 1), (142, .iload_n 2, 1), (143, .if_icmp .ge 44, 3), (146, .aload_n 0, 1), (147, .getfield 134, 3), (150, .bipush 12, 2), (152, .iload_n 3, 1), (153, .imul, 1), (154, .iconst 2, 1), (155, .iadd, 1), (156, .iaload, 1), (157, .iconst (-1), 1), (158, .if_icmp .eq 23, 3), (161, .aload_n 0, 1), (162, .aload_n 0, 1), (163, .getfield 134, 3), (166, .bipush 12, 2), (168, .iload_n 3, 1), (169, .imul, 1), (170, .iconst 2, 1), (171, .iadd, 1), (172, .iaload, 1), (173, .sipush 502, 3), (176, .iconst 0, 1), (177, .iconst 0, 1), (178, .invokevirtual 497, 3), (181, .iinc 3 1, 3), (184, .goto (-43), 3), (187, .iconst 1, 1), (188, .ireturn, 1)]
def M_332 : mI := (⟨"EdgeHouseModel", "fail", "(I)Z"⟩, prog_13_method_94_code, 4, 1, (some FieldType.boolean), [(35, 14, 40, 0), (42, 14, 42, 0), (54, 14, 46, 0), (66, 14, 50, 0), (91, 14, 59, 0), (134, 14, 76, 0), (155, 14, 0, 1)], [(497, 1, 270, 14), (590, 1, 320, 14), (596, 1, 319, 14), (627, 2, 333, 0)], [], Kk_332)
def Kk_333 : List (Nat × Instr × Nat) := [(0, .iload_n 0, 1), (1, .ifCond .le 13, 3), (4, .iload_n 0, 1), (5, .bipush 7, 2), (7, .if_icmp .ge 7, 3), (10, .iconst 1, 1), (11, .goto 4, 3), (14, .iconst 0, 1), (15, .ireturn, 1)]
def M_333 : mI := (⟨"EdgeHouseModel", "isNode", "(I)Z"⟩, prog_13_method_93_code, 1, 1, (some FieldType.boolean), [], [], [], Kk_333)
def Kk_334 : List (Nat × Instr × Nat) := [(0, .aload_n 0, 1), (1, .iconst 0, 1), (2, .putfield 155, 3), (5, .iload_n 1, 1), (6, .invokestatic 627, 3), (9, .ifCond .eq 12, 3), (12, .aload_n 0, 1), (13, .getfield 35, 3), (16, .iload_n 1, 1), (17, .baload, 1), (18, .ifCond .eq 5, 3), (21, .iconst 0, 1), (22, .ireturn, 1), (23, .aload_n 0, 1), (24, .getfield 35, 3), (27, .iload_n 1, 1), (28, .iconst 1, 1), (29, .bastore, 1), (30, .aload_n 0, 1), (31, .getfield 42, 3), (34, .iload_n 1, 1), (35, .aload_n 0, 1), (36, .getfield 581, 3), (39, .iastore, 1), (40, .iconst 3, 1), (41, .istore_n 2, 1), (42, .iload_n 2, 1), (43, .bipush 7, 2), (45, .if_icmp .ge 20, 3), (48, .iload_n 1, 1), (49, .iconst 3, 1), (50, .if_icmp .ge 15, 3), (53, .aload_n 0, 1), (54, .iload_n 2, 1), (55, .iload_n 1, 1), (56, .invokevirtual 596, 3), (59, .iinc 2 1, 3), (62, .goto (-20), 3), (65, .iconst 1, 1), (66, .ireturn, 1)]
def M_334 : mI := (⟨"EdgeHouseModel", "back", "(I)Z"⟩, prog_13_method_95_code, 3, 1, (some FieldType.boolean), [(35, 14, 40, 0), (42, 14, 42, 0), (155, 14, 0, 1), (581, 14, 37, 1)], [(596, 1, 319, 14), (627, 2, 333, 0)], [], Kk_334)
def Kk_335 : List (Nat × Instr × Nat) := [(0, .aload_n 0, 1), (1, .iconst 0, 1), (2, .putfield 155, 3), (5, .iload_n 1, 1), (6, .invokestatic 627, 3), (9, .ifCond .eq 16, 3), (12, .iload_n 2, 1), (13, .bipush 32, 2), (15, .if_icmp .lt 10, 3), (18, .iload_n 2, 1), (19, .sipush 2000, 3), (22, .if_icmp .le 5, 3), (25, .iconst 0, 1), (26, .ireturn, 1), (27, .aload_n 0, 1), (28, .getfield 39, 3), (31, .iload_n 1, 1), (32, .iload_n 2, 1), (33, .iastore, 1), (34, .aload_n 0, 1), (35, .iload_n 1, 1), (36, .invokevirtual 428, 3), (39, .iconst 1, 1), (40, .ireturn, 1)]
def M_335 : mI := (⟨"EdgeHouseModel", "budget", "(II)Z"⟩, prog_13_method_96_code, 3, 2, (some FieldType.boolean), [(39, 14, 41, 0), (155, 14, 0, 1)], [(428, 1, 296, 14), (627, 2, 333, 0)], [], Kk_335)
def Kk_336 : List (Nat × Instr × Nat) := [(0, .aload_n 0, 1), (1, .iload_n 1, 1), (2, .ifCond .lt 11, 3), (5, .iload_n 1, 1), (6, .aload_n 0, 1), (7, .getfield 612, 3), (10, .if_icmp .lt 7, 3), (13, .iconst 1, 1), (14, .goto 18, 3), (17, .iload_n 2, 1), (18, .ifCond .lt 9, 3), (21, .iload_n 2, 1), (22, .bipush 8, 2), (24, .if_icmp .le 7, 3), (27, .iconst 2, 1), (28, .goto 4, 3), (31, .iconst 0, 1), (32, .putfield 155, 3), (35, .aload_n 0, 1), (36, .getfield 155, 3), (39, .ifCond .eq 5, 3), (42, .iconst 0, 1), (43, .ireturn, 1), (44, .iload_n 2, 1), (45, .bipush 7, 2), (47, .if_icmp .ne 16, 3), (50, .aload_n 0, 1), (51, .getfield 146, 3), (54, .bipush 9, 2), (56, .iload_n 1, 1), (57, .imul, 1), (58, .bipush 6, 2), (60, .iadd, 1), (61, .iaload, 1), (62, .ireturn, 1), (63, .aload_n 0, 1), (64, .getfield 127, 3), (67, .iload_n 1, 1), (68, .baload, 1), (69, .ifCond .eq 5, 3), (72, .iconst 0, 1), (73, .ireturn, 1), (74, .iload_n 2, 1), (75, .tableswitch 124 0 8 #[49, 59, 71, 83, 89, 101, 124, 124, 111], 49), (124, .aload_n 0, 1), (125, .getfield 146, 3), (128, .bipush 9, 2), (130, .iload_n 1, 1), (131, .imul, 1), (132, .iaload, 1), (133, .ireturn, 1), (134, .aload_n 0, 1), (135, .getfield 146, 3), (138, .bipush 9, 2), (140, .iload_n 1, 1), (141, .imul, 1), (142, .iconst 1, 1), (143, .iadd, 1), (144, .iaload, 1), (145, .ireturn, 1), (146, .aload_n 0, 1), (147, .getfield 146, 3), (150, .bipush 9, 2), (152, .iload_n 1, 1), (153, .imul, 1), (154, .iconst 2, 1), (155, .iadd, 1), (156, .iaload, 1), (157, .ireturn, 1), (158, .aload_n 0, 1), (159, .iload_n 1, 1), (160, .invokevirtual 698, 3), (163, .ireturn, 1), (164, .aload_n 0, 1), (165, .getfield 146, 3), (168, .bipush 9, 2), (170, .iload_n 1, 1), (171, .imul, 1), (172, .iconst 4, 1), (173, .iadd, 1), (174, .iaload, 1), (175, .ireturn, 1), (176, .aload_n 0, 1), (177, .iload_n 1, 1), (178, .invokevirtual 701, 3), (181, .aload_n 0, 1), (182, .getfield 630, 3), (185, .ireturn, 1), (186, .aload_n 0, 1), (187, .getfield 146, 3), (190, .bipush 9, 2), (192, .iload_n 1, 1), (193, .imul, 1), (194, .bipush 7, 2), (196, .iadd, 1), (197, .iaload, 1), (198, .ireturn, 1), (199, .aload_n 0, 1), (200, .getfield 146, 3), (203, .bipush 9, 2), (205, .iload_n 1, 1), (206, .imul, 1), (207, .iconst 5, 1), (208, .iadd, 1), (209, .iaload, 1), (210, .ireturn, 1)]
def M_336 : mI := (⟨"EdgeHouseModel", "answer", "(II)I"⟩, prog_13_method_104_code, 3, 2, (some FieldType.int), [(127, 14, 73, 0), (146, 14, 88, 0), (155, 14, 0, 1), (612, 14, 70, 1), (630, 14, 91, 1)], [(698, 1, 337, 14), (701, 1, 339, 14)], [], Kk_336)
def Kk_337 : List (Nat × Instr × Nat) := [(0, .aload_n 0, 1), (1, .getfield 146, 3), (4, .bipush 9, 2), (6, .iload_n 1, 1), (7, .imul, 1), (8, .iaload, 1), (9, .istore_n 2, 1), (10, .aload_n 0, 1), (11, .getfield 146, 3), (14, .bipush 9, 2), (16, .iload_n 1, 1), (17, .imul, 1), (18, .iconst 3, 1), (19, .iadd, 1), (20, .iaload, 1), (21, .istore_n 3, 1), (22, .iload_n 2, 1), (23, .sipush 200, 3), (26, .if_icmp .ne 7, 3), (29, .iload_n 3, 1), (30, .goto 37, 3), (33, .iload_n 2, 1), (34, .sipush 206, 3), (37, .if_icmp .ne 29, 3), (40, .aload_n 0, 1), (41, .iload_n 1, 1), (42, .iload_n 3, 1), (43, .aload_n 0, 1), (44, .iload_n 1, 1), (45, .invokevirtual 660, 3), (48, .invokevirtual 446, 3), (51, .aload_n 0, 1), (52, .iload_n 1, 1), (53, .iload_n 3, 1), (54, .aload_n 0, 1), (55, .iload_n 1, 1), (56, .invokevirtual 660, 3), (59, .invokevirtual 442, 3), (62, .isub, 1), (63, .goto 4, 3), (66, .iconst 0, 1), (67, .ireturn, 1)]
def M_337 : mI := (⟨"EdgeHouseModel", "bytesOf", "(I)I"⟩, prog_13_method_102_code, 4, 1, (some FieldType.int), [(146, 14, 88, 0)], [(442, 1, 288, 14), (446, 1, 290, 14), (660, 1, 338, 14)], [], Kk_337)
def Kk_338 : List (Nat × Instr × Nat) := [(0, .bipush 8, 2), (2, .aload_n 0, 1), (3, .getfield 146, 3), (6, .bipush 9, 2), (8, .iload_n 1, 1), (9, .imul, 1), (10, .iconst 1, 1), (11, .iadd, 1), (12, .iaload, 1), (13, .imul, 1), (14, .aload_n 0, 1), (15, .getfield 146, 3), (18, .bipush 9, 2), (20, .iload_n 1, 1), (21, .imul, 1), (22, .bipush 7, 2), (24, .iadd, 1), (25, .iaload, 1), (26, .iadd, 1), (27, .ireturn, 1)]
def M_338 : mI := (⟨"EdgeHouseModel", "tagSaid", "(I)I"⟩, prog_13_method_101_code, 2, 1, (some FieldType.int), [(146, 14, 88, 0)], [], [], Kk_338)
def Kk_339 : List (Nat × Instr × Nat) := [(0, .aload_n 0, 1), (1, .iconst 0, 1), (2, .putfield 630, 3), (5, .aload_n 0, 1), (6, .getfield 127, 3), (9, .iload_n 1, 1), (10, .baload, 1), (11, .ifCond .eq 4, 3), (14, .return_, 1), (15, .bipush 9, 2), (17, .iload_n 1, 1), (18, .imul, 1), (19, .istore_n 2, 1), (20, .aload_n 0, 1), (21, .getfield 146, 3), (24, .iload_n 2, 1), (25, .iaload, 1), (26, .istore_n 3, 1), (27, .aload_n 0, 1), (28, .getfield 146, 3), (31, .iload_n 2, 1), (32, .iconst 3, 1), (33, .iadd, 1), (34, .iaload, 1), (35, .istore 4, 2), (37, .aload_n 0, 1), (38, .iload_n 3, 1), (39, .invokevirtual 663, 3), (42, .iload_n 3, 1), (43, .sipush 200, 3), (46, .if_icmp .eq 24, 3), (49, .iload_n 3, 1), (50, .sipush 206, 3), (53, .if_icmp .eq 17, 3), (56, .iload_n 3, 1), (57, .sipush 304, 3), (60, .if_icmp .eq 10, 3), (63, .iload_n 3, 1), (64, .sipush 416, 3), (67, .if_icmp .ne 7, 3), (70, .iconst 1, 1), (71, .goto 4, 3), (74, .iconst 0, 1), (75, .istore 5, 2), (77, .iload 5, 2), (79, .ifCond .eq 141, 3), (82, .aload_n 0, 1), (83, .ldc_w 666, 3), (86, .invokevirtual 633, 3), (89, .aload_n 0, 1), (90, .aload_n 0, 1), (91, .iload_n 1, 1), (92, .invokevirtual 660, 3), (95, .invokevirtual 637, 3), (98, .aload_n 0, 1), (99, .ldc_w 668, 3), (102, .invokevirtual 633, 3), (105, .aload_n 0, 1), (106, .ldc_w 670, 3), (109, .aload_n 0, 1), (110, .getfield 146, 3), (113, .iload_n 2, 1), (114, .iconst 2, 1), (115, .iadd, 1), (116, .iaload, 1), (117, .invokevirtual 672, 3), (120, .aload_n 0, 1), (121, .aload_n 0, 1), (122, .getfield 146, 3), (125, .iload_n 2, 1), (126, .iconst 4, 1), (127, .iadd, 1), (128, .iaload, 1), (129, .iconst 1, 1), (130, .if_icmp .ne 9, 3), (133, .ldc_w 676, 3), (136, .goto 24, 3), (139, .aload_n 0, 1), (140, .getfield 146, 3), (143, .iload_n 2, 1), (144, .iconst 4, 1), (145, .iadd, 1), (146, .iaload, 1), (147, .iconst 2, 1), (148, .if_icmp .ne 9, 3), (151, .ldc_w 678, 3), (154, .goto 6, 3), (157, .ldc_w 680, 3), (160, .invokevirtual 633, 3), (163, .aload_n 0, 1), (164, .getfield 146, 3), (167, .iload_n 2, 1), (168, .bipush 8, 2), (170, .iadd, 1), (171, .iaload, 1), (172, .ifCond .le 48, 3), (175, .aload_n 0, 1), (176, .aload_n 0, 1), (177, .getfield 146, 3), (180, .iload_n 2, 1), (181, .bipush 8, 2), (183, .iadd, 1), (184, .iaload, 1), (185, .iconst 1, 1), (186, .if_icmp .ne 9, 3), (189, .ldc_w 682, 3), (192, .goto 25, 3), (195, .aload_n 0, 1), (196, .getfield 146, 3), (199, .iload_n 2, 1), (200, .bipush 8, 2), (202, .iadd, 1), (203, .iaload, 1), (204, .iconst 2, 1), (205, .if_icmp .ne 9, 3), (208, .ldc_w 684, 3), (211, .goto 6, 3), (214, .ldc_w 686, 3), (217, .invokevirtual 633, 3), (220, .iload_n 3, 1), (221, .sipush 206, 3), (224, .if_icmp .ne 18, 3), (227, .aload_n 0, 1), (228, .iload_n 1, 1), (229, .iload 4, 2), (231, .aload_n 0, 1), (232, .iload_n 1, 1), (233, .invokevirtual 660, 3), (236, .invokevirtual 442, 3), (239, .goto 4, 3), (242, .iconst 0, 1), (243, .istore 6, 2), (245, .iload_n 3, 1), (246, .sipush 206, 3), (249, .if_icmp .ne 50, 3), (252, .aload_n 0, 1), (253, .ldc_w 688, 3), (256, .invokevirtual 633, 3), (259, .aload_n 0, 1), (260, .iload 6, 2), (262, .invokevirtual 637, 3), (265, .aload_n 0, 1), (266, .ldc_w 690, 3), (269, .invokevirtual 633, 3), (272, .aload_n 0, 1), (273, .aload_n 0, 1), (274, .iload_n 1, 1), (275, .iload 4, 2), (277, .aload_n 0, 1), (278, .iload_n 1, 1), (279, .invokevirtual 660, 3), (282, .invokevirtual 446, 3), (285, .iconst 1, 1), (286, .isub, 1), (287, .invokevirtual 637, 3), (290, .aload_n 0, 1), (291, .ldc_w 692, 3), (294, .iload 4, 2), (296, .invokevirtual 672, 3), (299, .iload_n 3, 1), (300, .sipush 416, 3), (303, .if_icmp .ne 12, 3), (306, .aload_n 0, 1), (307, .ldc_w 694, 3), (310, .iload 4, 2), (312, .invokevirtual 672, 3), (315, .iload_n 3, 1), (316, .sipush 200, 3), (319, .if_icmp .eq 10, 3), (322, .iload_n 3, 1), (323, .sipush 206, 3), (326, .if_icmp .ne 15, 3), (329, .aload_n 0, 1), (330, .ldc_w 696, 3), (333, .aload_n 0, 1), (334, .iload_n 1, 1), (335, .invokevirtual 698, 3), (338, .invokevirtual 672, 3), (341, .aload_n 0, 1), (342, .ldc_w 640, 3), (345, .invokevirtual 633, 3), (348, .aload_n 0, 1), (349, .iload_n 1, 1), (350, .iconst 2, 1), (351, .invokevirtual 436, 3), (354, .iconst 1, 1), (355, .if_icmp .eq 17, 3), (358, .iload_n 3, 1), (359, .sipush 200, 3), (362, .if_icmp .eq 11, 3), (365, .iload_n 3, 1), (366, .sipush 206, 3), (369, .if_icmp .eq 4, 3), (372, .return_, 1), (373, .iload 6, 2), (375, .istore 7, 2), (377, .iload 7, 2), (379, .iload 6, 2), (381, .aload_n 0, 1), (382, .iload_n 1, 1), (383, .invokevirtual 698, 3), (386, .iadd, 1), (387, .if_icmp .ge 86, 3), (390, .aload_n 0, 1), (391, .getfield 152, 3), (394, .aload_n 0, 1), (395, .getfield 630, 3), (398, .bipush 31, 2), (400, .aload_n 0, 1), (401, .iload_n 1, 1), (402, .iconst 0, 1), (403, .invokevirtual 436, 3), (406, .imul, 1), (407, .bipush 17, 2), (409, .aload_n 0, 1), (410, .iload_n 1, 1), (411, .iconst 1, 1), (412, .invokevirtual 436, 3), (415, .imul, 1), (416, .iadd, 1), (417, .iconst 5, 1), (418, .aload_n 0, 1), (419, .getfield 146, 3), (422, .iload_n 2, 1), (423, .bipush 7, 2), (425, .iadd, 1), (426, .iaload, 1), (427, .imul, 1), (428, .iadd, 1), (429, .bipush 13, 2), (431, .aload_n 0, 1), (432, .getfield 146, 3), (435, .iload_n 2, 1), (436, .iconst 1, 1), (437, .iadd, 1), (438, .iaload, 1), (439, .imul, 1), (440, .iadd, 1), (441, .bipush 7, 2), (443, .iload 7, 2), (445, .imul, 1), (446, .iadd, 1), (447, .iload 7, 2), (449, .iconst 4, 1), (450, .ishr, 1), (451, .iadd, 1), (452, .sipush 255, 3), (455, .iand, 1), (456, .iastore, 1), (457, .aload_n 0, 1), (458, .dup, 1), (459, .getfield 630, 3), (462, .iconst 1, 1), (463, .iadd, 1), (464, .putfield 630, 3), (467, .iinc 7 1, 3), (470, .goto (-93), 3), (473, .return_, 1)]
def M_339 : mI := (⟨"EdgeHouseModel", "write", "(I)V"⟩, prog_13_method_103_code, 8, 1, none, [(127, 14, 73, 0), (146, 14, 88, 0), (152, 14, 90, 0), (630, 14, 91, 1)], [(436, 1, 282, 14), (442, 1, 288, 14), (446, 1, 290, 14), (633, 1, 342, 14), (637, 1, 341, 14), (660, 1, 338, 14), (663, 1, 340, 14), (672, 1, 343, 14), (698, 1, 337, 14)], [(640, 5, 81, .null), (666, 5, 91, .null), (668, 5, 92, .null), (670, 5, 93, .null), (676, 5, 94, .null), (678, 5, 95, .null), (680, 5, 96, .null), (682, 5, 97, .null), (684, 5, 98, .null), (686, 5, 99, .null), (688, 5, 100, .null), (690, 5, 101, .null), (692, 5, 102, .null), (694, 5, 103, .null), (696, 5, 104, .null)], Kk_339)
def Kk_340 : List (Nat × Instr × Nat) := [(0, .aload_n 0, 1), (1, .iload_n 1, 1), (2, .invokevirtual 637, 3), (5, .iload_n 1, 1), (6, .lookupswitch 154 #[(200, 74), (206, 84), (304, 94), (400, 104), (404, 114), (416, 124), (502, 134), (503, 144)], 74), (80, .aload_n 0, 1), (81, .ldc_w 642, 3), (84, .invokevirtual 633, 3), (87, .goto 80, 3), (90, .aload_n 0, 1), (91, .ldc_w 644, 3), (94, .invokevirtual 633, 3), (97, .goto 70, 3), (100, .aload_n 0, 1), (101, .ldc_w 646, 3), (104, .invokevirtual 633, 3), (107, .goto 60, 3), (110, .aload_n 0, 1), (111, .ldc_w 648, 3), (114, .invokevirtual 633, 3), (117, .goto 50, 3), (120, .aload_n 0, 1), (121, .ldc_w 650, 3), (124, .invokevirtual 633, 3), (127, .goto 40, 3), (130, .aload_n 0, 1), (131, .ldc_w 652, 3), (134, .invokevirtual 633, 3), (137, .goto 30, 3), (140, .aload_n 0, 1), (141, .ldc_w 654, 3), (144, .invokevirtual 633, 3), (147, .goto 20, 3), (150, .aload_n 0, 1), (151, .ldc_w 656, 3), (154, .invokevirtual 633, 3), (157, .goto 10, 3), (160, .aload_n 0, 1), (161, .ldc_w 658, 3), (164, .invokevirtual 633, 3), (167, .return_, 1)]
def M_340 : mI := (⟨"EdgeHouseModel", "saySort", "(I)V"⟩, prog_13_method_100_code, 2, 1, none, [], [(633, 1, 342, 14), (637, 1, 341, 14)], [(642, 5, 82, .null), (644, 5, 83, .null), (646, 5, 84, .null), (648, 5, 85, .null), (650, 5, 86, .null), (652, 5, 87, .null), (654, 5, 88, .null), (656, 5, 89, .null), (658, 5, 90, .null)], Kk_340)
def Kk_341 : List (Nat × Instr × Nat) := [(0, .iconst 1, 1), (1, .istore_n 2, 1), (2, .iload_n 1, 1), (3, .iload_n 2, 1), (4, .idiv, 1), (5, .bipush 9, 2), (7, .if_icmp .le 11, 3), (10, .iload_n 2, 1), (11, .bipush 10, 2), (13, .imul, 1), (14, .istore_n 2, 1), (15, .goto (-13), 3), (18, .iload_n 2, 1), (19, .ifCond .le 39, 3), (22, .aload_n 0, 1), (23, .getfield 152, 3), (26, .aload_n 0, 1), (27, .getfield 630, 3), (30, .bipush 48, 2), (32, .iload_n 1, 1), (33, .iload_n 2, 1), (34, .idiv, 1), (35, .bipush 10, 2), (37, .irem, 1), (38, .iadd, 1), (39, .iastore, 1), (40, .aload_n 0, 1), (41, .dup, 1), (42, .getfield 630, 3), (45, .iconst 1, 1), (46, .iadd, 1), (47, .putfield 630, 3), (50, .iload_n 2, 1), (51, .bipush 10, 2), (53, .idiv, 1), (54, .istore_n 2, 1), (55, .goto (-37), 3), (58, .return_, 1)]
def M_341 : mI := (⟨"EdgeHouseModel", "sayNumber", "(I)V"⟩, prog_13_method_98_code, 3, 1, none, [(152, 14, 90, 0), (630, 14, 91, 1)], [], [], Kk_341)
def Kk_342 : List (Nat × Instr × Nat) := [(0, .iconst 0, 1), (1, .istore_n 2, 1), (2, .iload_n 2, 1), (3, .aload_n 1, 1), (4, .invokevirtual 181, 3), (7, .if_icmp .ge 33, 3), (10, .aload_n 0, 1), (11, .getfield 152, 3), (14, .aload_n 0, 1), (15, .getfield 630, 3), (18, .aload_n 1, 1), (19, .iload_n 2, 1), (20, .invokevirtual 186, 3), (23, .iastore, 1), (24, .aload_n 0, 1), (25, .dup, 1), (26, .getfield 630, 3), (29, .iconst 1, 1), (30, .iadd, 1), (31, .putfield 630, 3), (34, .iinc 2 1, 3), (37, .goto (-35), 3), (40, .return_, 1)]
def M_342 : mI := (⟨"EdgeHouseModel", "say", "(Ljava/lang/String;)V"⟩, prog_13_method_97_code, 3, 1, none, [(152, 14, 90, 0), (630, 14, 91, 1)], [(181, 1, 24, 12), (186, 1, 26, 12)], [], Kk_342)
def Kk_343 : List (Nat × Instr × Nat) := [(0, .aload_n 0, 1), (1, .aload_n 1, 1), (2, .invokevirtual 633, 3), (5, .aload_n 0, 1), (6, .iload_n 2, 1), (7, .invokevirtual 637, 3), (10, .aload_n 0, 1), (11, .ldc_w 640, 3), (14, .invokevirtual 633, 3), (17, .return_, 1)]
def M_343 : mI := (⟨"EdgeHouseModel", "sayLine", "(Ljava/lang/String;I)V"⟩, prog_13_method_99_code, 3, 2, none, [], [(633, 1, 342, 14), (637, 1, 341, 14)], [(640, 5, 81, .null)], Kk_343)
def Kk_344 : List (Nat × Instr × Nat) := [(0, .aload_n 0, 1), (1, .iconst 0, 1), (2, .putfield 155, 3), (5, .iload_n 1, 1), (6, .ifCond .lt 11, 3), (9, .iload_n 1, 1), (10, .aload_n 0, 1), (11, .getfield 612, 3), (14, .if_icmp .lt 5, 3), (17, .iconst (-1), 1), (18, .ireturn, 1), (19, .aload_n 0, 1), (20, .iload_n 1, 1), (21, .invokevirtual 701, 3), (24, .iload_n 2, 1), (25, .ifCond .lt 11, 3), (28, .iload_n 2, 1), (29, .aload_n 0, 1), (30, .getfield 630, 3), (33, .if_icmp .lt 7, 3), (36, .iconst (-1), 1), (37, .goto 9, 3), (40, .aload_n 0, 1), (41, .getfield 152, 3), (44, .iload_n 2, 1), (45, .iaload, 1), (46, .ireturn, 1)]
def M_344 : mI := (⟨"EdgeHouseModel", "letter", "(II)I"⟩, prog_13_method_105_code, 3, 2, (some FieldType.int), [(152, 14, 90, 0), (155, 14, 0, 1), (612, 14, 70, 1), (630, 14, 91, 1)], [(701, 1, 339, 14)], [], Kk_344)
def Kk_345 : List (Nat × Instr × Nat) := [(0, .aload_n 0, 1), (1, .iconst 0, 1), (2, .putfield 155, 3), (5, .iload_n 1, 1), (6, .invokestatic 627, 3), (9, .ifCond .ne 5, 3), (12, .iconst (-1), 1), (13, .ireturn, 1), (14, .iconst 0, 1), (15, .istore_n 3, 1), (16, .iconst 0, 1), (17, .istore 4, 2), (19, .iconst 0, 1), (20, .istore 5, 2), (22, .sipush 1024, 3), (25, .iload_n 1, 1), (26, .imul, 1), (27, .istore 6, 2), (29, .iload 6, 2), (31, .sipush 1024, 3), (34, .iload_n 1, 1), (35, .imul, 1), (36, .sipush 1024, 3), (39, .iadd, 1), (40, .if_icmp .ge 57, 3), (43, .iload_n 3, 1), (44, .aload_n 0, 1), (45, .getfield 66, 3), (48, .iload 6, 2), (50, .baload, 1), (51, .ifCond .eq 7, 3), (54, .iconst 1, 1), (55, .goto 4, 3), (58, .iconst 0, 1), (59, .iadd, 1), (60, .istore_n 3, 1), (61, .iload 4, 2), (63, .aload_n 0, 1), (64, .getfield 66, 3), (67, .iload 6, 2), (69, .baload, 1), (70, .ifCond .eq 17, 3), (73, .aload_n 0, 1), (74, .getfield 69, 3), (77, .iload 6, 2), (79, .baload, 1), (80, .ifCond .eq 7, 3), (83, .iconst 1, 1), (84, .goto 4, 3), (87, .iconst 0, 1), (88, .iadd, 1), (89, .istore 4, 2), (91, .iinc 6 1, 3), (94, .goto (-65), 3), (97, .sipush 128, 3), (100, .iload_n 1, 1), (101, .imul, 1), (102, .istore 6, 2), (104, .iload 6, 2), (106, .sipush 128, 3), (109, .iload_n 1, 1), (110, .imul, 1), (111, .sipush 128, 3), (114, .iadd, 1), (115, .if_icmp .ge 29, 3), (118, .iload 5, 2), (120, .aload_n 0, 1), (121, .getfield 91, 3), (124, .iload 6, 2), (126, .baload, 1), (127, .ifCond .eq 7, 3), (130, .iconst 1, 1), (131, .goto 4, 3), (134, .iconst 0, 1), (135, .iadd, 1), (136, .istore 5, 2), (138, .iinc 6 1, 3), (141, .goto (-37), 3), (144, .iconst 0, 1), (145, .istore 6, 2), (147, .iconst 0, 1), (148, .istore 7, 2), (150, .iload 7, 2), (152, .aload_n 0, 1), (153, .getfield 507, 3), (156, .if_icmp .ge 33, 3), (159, .iload 6, 2), (161, .aload_n 0, 1), (162, .getfield 131, 3), (165, .bipush 12, 2), (167, .iload 7, 2), (169, .imul, 1), (170, .iaload, 1), (171, .iload_n 1, 1), (172, .if_icmp .ne 7, 3), (175, .iconst 1, 1), (176, .goto 4, 3), (179, .iconst 0, 1), (180, .iadd, 1), (181, .istore 6, 2), (183, .iinc 7 1, 3), (186, .goto (-36), 3), (189, .iload_n 2, 1), (190, .tableswitch 164 0 12 #[66, 81, 83, 90, 93, 100, 107, 110, 113, 120, 120, 134, 134], 66), (256, .aload_n 0, 1), (257, .getfield 35, 3), (260, .iload_n 1, 1), (261, .baload, 1), (262, .ifCond .eq 7, 3), (265, .iconst 1, 1), (266, .goto 4, 3), (269, .iconst 0, 1), (270, .ireturn, 1), (271, .iload_n 3, 1), (272, .ireturn, 1), (273, .aload_n 0, 1), (274, .iload_n 1, 1), (275, .iconst 0, 1), (276, .invokevirtual 418, 3), (279, .ireturn, 1), (280, .iload 4, 2), (282, .ireturn, 1), (283, .aload_n 0, 1), (284, .getfield 45, 3), (287, .iload_n 1, 1), (288, .iaload, 1), (289, .ireturn, 1), (290, .aload_n 0, 1), (291, .getfield 48, 3), (294, .iload_n 1, 1), (295, .iaload, 1), (296, .ireturn, 1), (297, .iload 5, 2), (299, .ireturn, 1), (300, .iload 6, 2), (302, .ireturn, 1), (303, .aload_n 0, 1), (304, .getfield 42, 3), (307, .iload_n 1, 1), (308, .iaload, 1), (309, .ireturn, 1), (310, .aload_n 0, 1), (311, .getfield 118, 3), (314, .iconst 2, 1), (315, .iload_n 1, 1), (316, .imul, 1), (317, .iload_n 2, 1), (318, .iadd, 1), (319, .bipush 9, 2), (321, .isub, 1), (322, .iaload, 1), (323, .ireturn, 1), (324, .aload_n 0, 1), (325, .iload_n 1, 1), (326, .iload_n 2, 1), (327, .bipush 10, 2), (329, .isub, 1), (330, .invokevirtual 401, 3), (333, .ifCond .eq 19, 3), (336, .aload_n 0, 1), (337, .getfield 121, 3), (340, .iconst 2, 1), (341, .iload_n 1, 1), (342, .imul, 1), (343, .iload_n 2, 1), (344, .iadd, 1), (345, .bipush 11, 2), (347, .isub, 1), (348, .iaload, 1), (349, .goto 4, 3), (352, .iconst 0, 1), (353, .ireturn, 1), (354, .iconst (-1), 1), (355, .ireturn, 1)]
def M_345 : mI := (⟨"EdgeHouseModel", "node", "(II)I"⟩, prog_13_method_106_code, 8, 2, (some FieldType.int), [(35, 14, 40, 0), (42, 14, 42, 0), (45, 14, 43, 0), (48, 14, 44, 0), (66, 14, 50, 0), (69, 14, 51, 0), (91, 14, 59, 0), (118, 14, 68, 0), (121, 14, 69, 0), (131, 14, 75, 0), (155, 14, 0, 1), (507, 14, 74, 1)], [(401, 1, 274, 14), (418, 1, 297, 14), (627, 2, 333, 0)], [], Kk_345)
def Kk_346 : List (Nat × Instr × Nat) := [(0, .aload_n 0, 1), (1, .iconst 0, 1), (2, .putfield 155, 3), (5, .iload_n 1, 1), (6, .invokestatic 627, 3), (9, .ifCond .eq 34, 3), (12, .iload_n 2, 1), (13, .ifCond .lt 30, 3), (16, .iload_n 2, 1), (17, .bipush 31, 2), (19, .if_icmp .gt 24, 3), (22, .iload_n 3, 1), (23, .ifCond .lt 20, 3), (26, .iload_n 3, 1), (27, .iconst 3, 1), (28, .if_icmp .gt 15, 3), (31, .iload 4, 2), (33, .ifCond .lt 10, 3), (36, .iload 4, 2), (38, .bipush 8, 2), (40, .if_icmp .lt 5, 3), (43, .iconst (-1), 1), (44, .ireturn, 1), (45, .bipush 8, 2), (47, .sipush 128, 3), (50, .iload_n 1, 1), (51, .imul, 1), (52, .iconst 4, 1), (53, .iload_n 2, 1), (54, .imul, 1), (55, .iadd, 1), (56, .iload_n 3, 1), (57, .iadd, 1), (58, .imul, 1), (59, .iload 4, 2), (61, .iadd, 1), (62, .istore 6, 2), (64, .aload_n 0, 1), (65, .getfield 66, 3), (68, .iload 6, 2), (70, .baload, 1), (71, .ifCond .ne 5, 3), (74, .iconst (-1), 1), (75, .ireturn, 1), (76, .iload 5, 2), (78, .bipush 15, 2), (80, .if_icmp .le 26, 3), (83, .iload 5, 2), (85, .bipush 32, 2), (87, .if_icmp .ge 19, 3), (90, .aload_n 0, 1), (91, .getfield 85, 3), (94, .iload 6, 2), (96, .iaload, 1), (97, .iload 5, 2), (99, .bipush 16, 2), (101, .isub, 1), (102, .ishr, 1), (103, .iconst 1, 1), (104, .iand, 1), (105, .ireturn, 1), (106, .iconst 0, 1), (107, .istore 7, 2), (109, .sipush 1024, 3), (112, .iload_n 1, 1), (113, .imul, 1), (114, .istore 8, 2), (116, .iload 8, 2), (118, .sipush 1024, 3), (121, .iload_n 1, 1), (122, .imul, 1), (123, .sipush 1024, 3), (126, .iadd, 1), (127, .if_icmp .ge 63, 3), (130, .iload 7, 2), (132, .aload_n 0, 1), (133, .getfield 66, 3), (136, .iload 8, 2), (138, .baload, 1), (139, .ifCond .eq 41, 3), (142, .aload_n 0, 1), (143, .getfield 69, 3), (146, .iload 8, 2), (148, .baload, 1), (149, .aload_n 0, 1), (150, .getfield 69, 3), (153, .iload 6, 2), (155, .baload, 1), (156, .if_icmp .ne 24, 3), (159, .aload_n 0, 1), (160, .getfield 88, 3), (163, .iload 8, 2), (165, .iaload, 1), (166, .aload_n 0, 1), (167, .getfield 88, 3), (170, .iload 6, 2), (172, .iaload, 1), (173, .if_icmp .ge 7, 3), (176, .iconst 1, 1), (177, .goto 4, 3), (180, .iconst 0, 1), (181, .iadd, 1), (182, .istore 7, 2), (184, .iinc 8 1, 3), (187, .goto (-71), 3), (190, .iload 5, 2), (192, .tableswitch 106 0 6 #[44, 52, 59, 70, 78, 94, 97], 44), (236, .aload_n 0, 1), (237, .iload 6, 2), (239, .iconst 0, 1), (240, .invokevirtual 431, 3), (243, .ireturn, 1), (244, .aload_n 0, 1), (245, .iload 6, 2), (247, .invokevirtual 462, 3), (250, .ireturn, 1), (251, .aload_n 0, 1), (252, .getfield 85, 3), (255, .iload 6, 2), (257, .iaload, 1), (258, .invokestatic 407, 3), (261, .ireturn, 1), (262, .aload_n 0, 1), (263, .getfield 76, 3), (266, .iload 6, 2), (268, .iaload, 1), (269, .ireturn, 1), (270, .aload_n 0, 1), (271, .getfield 69, 3), (274, .iload 6, 2), (276, .baload, 1), (277, .ifCond .eq 7, 3), (280, .iconst 1, 1), (281, .goto 4, 3), (284, .iconst 0, 1), (285, .ireturn, 1), (286, .iload 7, 2), (288, .ireturn, 1), (289, .aload_n 0, 1), (290, .iload 6, 2), (292, .bipush 8, 2), (294, .invokevirtual 431, 3), (297, .ireturn, 1), (298, .iconst (-1), 1), (299, .ireturn, 1)]
def M_346 : mI := (⟨"EdgeHouseModel", "entry", "(IIIII)I"⟩, prog_13_method_107_code, 9, 5, (some FieldType.int), [(66, 14, 50, 0), (69, 14, 51, 0), (76, 14, 53, 0), (85, 14, 56, 0), (88, 14, 57, 0), (155, 14, 0, 1)], [(407, 2, 100, 0), (431, 1, 278, 14), (462, 1, 292, 14), (627, 2, 333, 0)], [], Kk_346)
def Kk_347 : List (Nat × Instr × Nat) := [(0, .aload_n 0, 1), (1, .iconst 0, 1), (2, .putfield 155, 3), (5, .iload_n 1, 1), (6, .ifCond .lt 21, 3), (9, .iload_n 1, 1), (10, .aload_n 0, 1), (11, .getfield 533, 3), (14, .if_icmp .ge 13, 3), (17, .iload_n 2, 1), (18, .ifCond .lt 9, 3), (21, .iload_n 2, 1), (22, .bipush 11, 2), (24, .if_icmp .le 5, 3), (27, .iconst (-1), 1), (28, .ireturn, 1), (29, .iload_n 2, 1), (30, .bipush 11, 2), (32, .if_icmp .ne 16, 3), (35, .aload_n 0, 1), (36, .getfield 137, 3), (39, .bipush 22, 2), (41, .iload_n 1, 1), (42, .imul, 1), (43, .bipush 21, 2), (45, .iadd, 1), (46, .iaload, 1), (47, .ireturn, 1), (48, .iload_n 2, 1), (49, .bipush 10, 2), (51, .if_icmp .lt 15, 3), (54, .aload_n 0, 1), (55, .getfield 137, 3), (58, .bipush 22, 2), (60, .iload_n 1, 1), (61, .imul, 1), (62, .iaload, 1), (63, .ifCond .ne 17, 3), (66, .aload_n 0, 1), (67, .getfield 137, 3), (70, .bipush 22, 2), (72, .iload_n 1, 1), (73, .imul, 1), (74, .iload_n 2, 1), (75, .iadd, 1), (76, .iaload, 1), (77, .goto 4, 3), (80, .iconst 0, 1), (81, .ireturn, 1)]
def M_347 : mI := (⟨"EdgeHouseModel", "message", "(II)I"⟩, prog_13_method_108_code, 3, 2, (some FieldType.int), [(137, 14, 78, 0), (155, 14, 0, 1), (533, 14, 77, 1)], [], [], Kk_347)
def Kk_348 : List (Nat × Instr × Nat) := [(0, .aload_n 0, 1), (1, .iconst 0, 1), (2, .putfield 155, 3), (5, .iload_n 1, 1), (6, .tableswitch 77 0 6 #[42, 47, 52, 57, 62, 67, 72], 42), (48, .aload_n 0, 1), (49, .getfield 533, 3), (52, .ireturn, 1), (53, .aload_n 0, 1), (54, .getfield 581, 3), (57, .ireturn, 1), (58, .aload_n 0, 1), (59, .getfield 612, 3), (62, .ireturn, 1), (63, .aload_n 0, 1), (64, .getfield 563, 3), (67, .ireturn, 1), (68, .aload_n 0, 1), (69, .getfield 536, 3), (72, .ireturn, 1), (73, .aload_n 0, 1), (74, .getfield 578, 3), (77, .ireturn, 1), (78, .aload_n 0, 1), (79, .getfield 390, 3), (82, .ireturn, 1), (83, .iconst (-1), 1), (84, .ireturn, 1)]
def M_348 : mI := (⟨"EdgeHouseModel", "total", "(I)I"⟩, prog_13_method_109_code, 2, 1, (some FieldType.int), [(155, 14, 0, 1), (390, 14, 36, 1), (533, 14, 77, 1), (536, 14, 39, 1), (563, 14, 71, 1), (578, 14, 38, 1), (581, 14, 37, 1), (612, 14, 70, 1)], [], [], Kk_348)
def m_mt : List mI := [M_0, M_1, M_2, M_3, M_4, M_5, M_6, M_7, M_8, M_9, M_10, M_11, M_12, M_13, M_14, M_15, M_16, M_17, M_18, M_19, M_20, M_21, M_22, M_23, M_24, M_25, M_26, M_27, M_28, M_29, M_30, M_31, M_32, M_33, M_34, M_35, M_36, M_37, M_38, M_39, M_40, M_41, M_42, M_43, M_44, M_45, M_46, M_47, M_48, M_49, M_50, M_51, M_52, M_53, M_54, M_55, M_56, M_57, M_58, M_59, M_60, M_61, M_62, M_63, M_64, M_65, M_66, M_67, M_68, M_69, M_70, M_71, M_72, M_73, M_74, M_75, M_76, M_77, M_78, M_79, M_80, M_81, M_82, M_83, M_84, M_85, M_86, M_87, M_88, M_89, M_90, M_91, M_92, M_93, M_94, M_95, M_96, M_97, M_98, M_99, M_100, M_101, M_102, M_103, M_104, M_105, M_106, M_107, M_108, M_109, M_110, M_111, M_112, M_113, M_114, M_115, M_116, M_117, M_118, M_119, M_120, M_121, M_122, M_123, M_124, M_125, M_126, M_127, M_128, M_129, M_130, M_131, M_132, M_133, M_134, M_135, M_136, M_137, M_138, M_139, M_140, M_141, M_142, M_143, M_144, M_145, M_146, M_147, M_148, M_149, M_150, M_151, M_152, M_153, M_154, M_155, M_156, M_157, M_158, M_159, M_160, M_161, M_162, M_163, M_164, M_165, M_166, M_167, M_168, M_169, M_170, M_171, M_172, M_173, M_174, M_175, M_176, M_177, M_178, M_179, M_180, M_181, M_182, M_183, M_184, M_185, M_186, M_187, M_188, M_189, M_190, M_191, M_192, M_193, M_194, M_195, M_196, M_197, M_198, M_199, M_200, M_201, M_202, M_203, M_204, M_205, M_206, M_207, M_208, M_209, M_210, M_211, M_212, M_213, M_214, M_215, M_216, M_217, M_218, M_219, M_220, M_221, M_222, M_223, M_224, M_225, M_226, M_227, M_228, M_229, M_230, M_231, M_232, M_233, M_234, M_235, M_236, M_237, M_238, M_239, M_240, M_241, M_242, M_243, M_244, M_245, M_246, M_247, M_248, M_249, M_250, M_251, M_252, M_253, M_254, M_255, M_256, M_257, M_258, M_259, M_260, M_261, M_262, M_263, M_264, M_265, M_266, M_267, M_268, M_269, M_270, M_271, M_272, M_273, M_274, M_275, M_276, M_277, M_278, M_279, M_280, M_281, M_282, M_283, M_284, M_285, M_286, M_287, M_288, M_289, M_290, M_291, M_292, M_293, M_294, M_295, M_296, M_297, M_298, M_299, M_300, M_301, M_302, M_303, M_304, M_305, M_306, M_307, M_308, M_309, M_310, M_311, M_312, M_313, M_314, M_315, M_316, M_317, M_318, M_319, M_320, M_321, M_322, M_323, M_324, M_325, M_326, M_327, M_328, M_329, M_330, M_331, M_332, M_333, M_334, M_335, M_336, M_337, M_338, M_339, M_340, M_341, M_342, M_343, M_344, M_345, M_346, M_347, M_348]
end
section
def m_clOk (ci : Nat) (r : vw_C) : Prop := (∀ w ∈ u_ws r.1 r.2.1 r.2.2, w ∈ m_gt) ∧ (∀ k, k < r.2.2 → parseFieldDescriptor (r.2.1 k).2.2.1 = some ((m_fl.getD ci []).getD k .int)) ∧ (∀ a, a < r.2.2 → ∀ b, b < r.2.2 → a ≠ b → (r.2.1 a).2.1 ≠ (r.2.1 b).2.1) ∧ (m_fl.getD ci []).length = r.2.2 ∧ (m_fd.getD ci []).length = r.2.2 ∧ (∀ j, j < r.2.2 → defaultValue ((m_fl.getD ci []).getD j .int) = vp_V (m_fd.getD ci []) j) ∧ (m_fd.getD ci []).all (m_okv 0) = true
set_option maxRecDepth 8000 in
theorem cin_0 : ∀ w ∈ u_ws R_0 F_0 15, w ∈ m_gt := by
  show ∀ w ∈ [u_lay R_0 F_0 0, u_lay R_0 F_0 1, u_lay R_0 F_0 2, u_lay R_0 F_0 3, u_lay R_0 F_0 4, u_lay R_0 F_0 5, u_lay R_0 F_0 6, u_lay R_0 F_0 7, u_lay R_0 F_0 8, u_lay R_0 F_0 9, u_lay R_0 F_0 10, u_lay R_0 F_0 11, u_lay R_0 F_0 12, u_lay R_0 F_0 13, u_lay R_0 F_0 14], w ∈ m_gt
  exact (List.forall_mem_cons.mpr ⟨(m_gi2 16 rfl rfl), (List.forall_mem_cons.mpr ⟨(m_gi2 18 rfl rfl), (List.forall_mem_cons.mpr ⟨(m_gi2 20 rfl rfl), (List.forall_mem_cons.mpr ⟨(m_gi2 22 rfl rfl), (List.forall_mem_cons.mpr ⟨(m_gi2 24 rfl rfl), (List.forall_mem_cons.mpr ⟨(m_gi2 26 rfl rfl), (List.forall_mem_cons.mpr ⟨(m_gi2 28 rfl rfl), (List.forall_mem_cons.mpr ⟨(m_gi2 30 rfl rfl), (List.forall_mem_cons.mpr ⟨(m_gi2 32 rfl rfl), (List.forall_mem_cons.mpr ⟨(m_gi2 34 rfl rfl), (List.forall_mem_cons.mpr ⟨(m_gi2 36 rfl rfl), (List.forall_mem_cons.mpr ⟨(m_gi2 38 rfl rfl), (List.forall_mem_cons.mpr ⟨(m_gi2 40 rfl rfl), (List.forall_mem_cons.mpr ⟨(m_gi2 42 rfl rfl), (List.forall_mem_cons.mpr ⟨(m_gi2 44 rfl rfl), (fun _ h => absurd h List.not_mem_nil)⟩)⟩)⟩)⟩)⟩)⟩)⟩)⟩)⟩)⟩)⟩)⟩)⟩)⟩)⟩)
set_option maxRecDepth 8000 in
theorem cok_0 : m_clOk 0 (R_0, F_0, 15) := ⟨cin_0, by decide +kernel, by decide +kernel, rfl, rfl, by decide +kernel, by decide +kernel⟩
set_option maxRecDepth 8000 in
theorem cin_1 : ∀ w ∈ u_ws R_1 F_1 16, w ∈ m_gt := by
  show ∀ w ∈ [u_lay R_1 F_1 0, u_lay R_1 F_1 1, u_lay R_1 F_1 2, u_lay R_1 F_1 3, u_lay R_1 F_1 4, u_lay R_1 F_1 5, u_lay R_1 F_1 6, u_lay R_1 F_1 7, u_lay R_1 F_1 8, u_lay R_1 F_1 9, u_lay R_1 F_1 10, u_lay R_1 F_1 11, u_lay R_1 F_1 12, u_lay R_1 F_1 13, u_lay R_1 F_1 14, u_lay R_1 F_1 15], w ∈ m_gt
  exact (List.forall_mem_cons.mpr ⟨(m_gi1 67 rfl rfl), (List.forall_mem_cons.mpr ⟨(m_gi1 69 rfl rfl), (List.forall_mem_cons.mpr ⟨(m_gi1 71 rfl rfl), (List.forall_mem_cons.mpr ⟨(m_gi1 73 rfl rfl), (List.forall_mem_cons.mpr ⟨(m_gi1 75 rfl rfl), (List.forall_mem_cons.mpr ⟨(m_gi1 77 rfl rfl), (List.forall_mem_cons.mpr ⟨(m_gi1 79 rfl rfl), (List.forall_mem_cons.mpr ⟨(m_gi1 81 rfl rfl), (List.forall_mem_cons.mpr ⟨(m_gi1 83 rfl rfl), (List.forall_mem_cons.mpr ⟨(m_gi1 85 rfl rfl), (List.forall_mem_cons.mpr ⟨(m_gi1 87 rfl rfl), (List.forall_mem_cons.mpr ⟨(m_gi1 89 rfl rfl), (List.forall_mem_cons.mpr ⟨(m_gi1 91 rfl rfl), (List.forall_mem_cons.mpr ⟨(m_gi1 93 rfl rfl), (List.forall_mem_cons.mpr ⟨(m_gi1 95 rfl rfl), (List.forall_mem_cons.mpr ⟨(m_gi1 97 rfl rfl), (fun _ h => absurd h List.not_mem_nil)⟩)⟩)⟩)⟩)⟩)⟩)⟩)⟩)⟩)⟩)⟩)⟩)⟩)⟩)⟩)⟩)
set_option maxRecDepth 8000 in
theorem cok_1 : m_clOk 1 (R_1, F_1, 16) := ⟨cin_1, by decide +kernel, by decide +kernel, rfl, rfl, by decide +kernel, by decide +kernel⟩
set_option maxRecDepth 8000 in
theorem cin_2 : ∀ w ∈ u_ws R_2 F_2 3, w ∈ m_gt := by
  show ∀ w ∈ [u_lay R_2 F_2 0, u_lay R_2 F_2 1, u_lay R_2 F_2 2], w ∈ m_gt
  exact (List.forall_mem_cons.mpr ⟨(m_gi1 125 rfl rfl), (List.forall_mem_cons.mpr ⟨(m_gi1 127 rfl rfl), (List.forall_mem_cons.mpr ⟨(m_gi1 129 rfl rfl), (fun _ h => absurd h List.not_mem_nil)⟩)⟩)⟩)
set_option maxRecDepth 8000 in
theorem cok_2 : m_clOk 2 (R_2, F_2, 3) := ⟨cin_2, by decide +kernel, by decide +kernel, rfl, rfl, by decide +kernel, by decide +kernel⟩
set_option maxRecDepth 8000 in
theorem cin_3 : ∀ w ∈ u_ws R_3 F_3 4, w ∈ m_gt := by
  show ∀ w ∈ [u_lay R_3 F_3 0, u_lay R_3 F_3 1, u_lay R_3 F_3 2, u_lay R_3 F_3 3], w ∈ m_gt
  exact (List.forall_mem_cons.mpr ⟨(m_gi1 155 rfl rfl), (List.forall_mem_cons.mpr ⟨(m_gi1 157 rfl rfl), (List.forall_mem_cons.mpr ⟨(m_gi1 159 rfl rfl), (List.forall_mem_cons.mpr ⟨(m_gi1 161 rfl rfl), (fun _ h => absurd h List.not_mem_nil)⟩)⟩)⟩)⟩)
set_option maxRecDepth 8000 in
theorem cok_3 : m_clOk 3 (R_3, F_3, 4) := ⟨cin_3, by decide +kernel, by decide +kernel, rfl, rfl, by decide +kernel, by decide +kernel⟩
set_option maxRecDepth 8000 in
theorem cin_4 : ∀ w ∈ u_ws R_4 F_4 11, w ∈ m_gt := by
  show ∀ w ∈ [u_lay R_4 F_4 0, u_lay R_4 F_4 1, u_lay R_4 F_4 2, u_lay R_4 F_4 3, u_lay R_4 F_4 4, u_lay R_4 F_4 5, u_lay R_4 F_4 6, u_lay R_4 F_4 7, u_lay R_4 F_4 8, u_lay R_4 F_4 9, u_lay R_4 F_4 10], w ∈ m_gt
  exact (List.forall_mem_cons.mpr ⟨(m_gi1 211 rfl rfl), (List.forall_mem_cons.mpr ⟨(m_gi1 213 rfl rfl), (List.forall_mem_cons.mpr ⟨(m_gi1 215 rfl rfl), (List.forall_mem_cons.mpr ⟨(m_gi1 217 rfl rfl), (List.forall_mem_cons.mpr ⟨(m_gi1 219 rfl rfl), (List.forall_mem_cons.mpr ⟨(m_gi1 221 rfl rfl), (List.forall_mem_cons.mpr ⟨(m_gi1 223 rfl rfl), (List.forall_mem_cons.mpr ⟨(m_gi1 225 rfl rfl), (List.forall_mem_cons.mpr ⟨(m_gi1 227 rfl rfl), (List.forall_mem_cons.mpr ⟨(m_gi1 229 rfl rfl), (List.forall_mem_cons.mpr ⟨(m_gi1 231 rfl rfl), (fun _ h => absurd h List.not_mem_nil)⟩)⟩)⟩)⟩)⟩)⟩)⟩)⟩)⟩)⟩)⟩)
set_option maxRecDepth 8000 in
theorem cok_4 : m_clOk 4 (R_4, F_4, 11) := ⟨cin_4, by decide +kernel, by decide +kernel, rfl, rfl, by decide +kernel, by decide +kernel⟩
set_option maxRecDepth 8000 in
theorem cin_5 : ∀ w ∈ u_ws R_5 F_5 3, w ∈ m_gt := by
  show ∀ w ∈ [u_lay R_5 F_5 0, u_lay R_5 F_5 1, u_lay R_5 F_5 2], w ∈ m_gt
  exact (List.forall_mem_cons.mpr ⟨(m_gi1 184 rfl rfl), (List.forall_mem_cons.mpr ⟨(m_gi1 186 rfl rfl), (List.forall_mem_cons.mpr ⟨(m_gi1 188 rfl rfl), (fun _ h => absurd h List.not_mem_nil)⟩)⟩)⟩)
set_option maxRecDepth 8000 in
theorem cok_5 : m_clOk 5 (R_5, F_5, 3) := ⟨cin_5, by decide +kernel, by decide +kernel, rfl, rfl, by decide +kernel, by decide +kernel⟩
set_option maxRecDepth 8000 in
theorem cin_6 : ∀ w ∈ u_ws R_6 F_6 19, w ∈ m_gt := by
  show ∀ w ∈ [u_lay R_6 F_6 0, u_lay R_6 F_6 1, u_lay R_6 F_6 2, u_lay R_6 F_6 3, u_lay R_6 F_6 4, u_lay R_6 F_6 5, u_lay R_6 F_6 6, u_lay R_6 F_6 7, u_lay R_6 F_6 8, u_lay R_6 F_6 9, u_lay R_6 F_6 10, u_lay R_6 F_6 11, u_lay R_6 F_6 12, u_lay R_6 F_6 13, u_lay R_6 F_6 14, u_lay R_6 F_6 15, u_lay R_6 F_6 16, u_lay R_6 F_6 17, u_lay R_6 F_6 18], w ∈ m_gt
  exact (List.forall_mem_cons.mpr ⟨(m_gi2 139 rfl rfl), (List.forall_mem_cons.mpr ⟨(m_gi2 141 rfl rfl), (List.forall_mem_cons.mpr ⟨(m_gi2 143 rfl rfl), (List.forall_mem_cons.mpr ⟨(m_gi2 145 rfl rfl), (List.forall_mem_cons.mpr ⟨(m_gi2 147 rfl rfl), (List.forall_mem_cons.mpr ⟨(m_gi2 149 rfl rfl), (List.forall_mem_cons.mpr ⟨(m_gi2 151 rfl rfl), (List.forall_mem_cons.mpr ⟨(m_gi2 153 rfl rfl), (List.forall_mem_cons.mpr ⟨(m_gi2 155 rfl rfl), (List.forall_mem_cons.mpr ⟨(m_gi2 157 rfl rfl), (List.forall_mem_cons.mpr ⟨(m_gi2 159 rfl rfl), (List.forall_mem_cons.mpr ⟨(m_gi2 161 rfl rfl), (List.forall_mem_cons.mpr ⟨(m_gi2 163 rfl rfl), (List.forall_mem_cons.mpr ⟨(m_gi2 165 rfl rfl), (List.forall_mem_cons.mpr ⟨(m_gi2 167 rfl rfl), (List.forall_mem_cons.mpr ⟨(m_gi2 169 rfl rfl), (List.forall_mem_cons.mpr ⟨(m_gi2 171 rfl rfl), (List.forall_mem_cons.mpr ⟨(m_gi2 173 rfl rfl), (List.forall_mem_cons.mpr ⟨(m_gi2 175 rfl rfl), (fun _ h => absurd h List.not_mem_nil)⟩)⟩)⟩)⟩)⟩)⟩)⟩)⟩)⟩)⟩)⟩)⟩)⟩)⟩)⟩)⟩)⟩)⟩)⟩)
set_option maxRecDepth 8000 in
theorem cok_6 : m_clOk 6 (R_6, F_6, 19) := ⟨cin_6, by decide +kernel, by decide +kernel, rfl, rfl, by decide +kernel, by decide +kernel⟩
set_option maxRecDepth 8000 in
theorem cin_7 : ∀ w ∈ u_ws R_7 F_7 8, w ∈ m_gt := by
  show ∀ w ∈ [u_lay R_7 F_7 0, u_lay R_7 F_7 1, u_lay R_7 F_7 2, u_lay R_7 F_7 3, u_lay R_7 F_7 4, u_lay R_7 F_7 5, u_lay R_7 F_7 6, u_lay R_7 F_7 7], w ∈ m_gt
  exact (List.forall_mem_cons.mpr ⟨(m_gi2 203 rfl rfl), (List.forall_mem_cons.mpr ⟨(m_gi2 205 rfl rfl), (List.forall_mem_cons.mpr ⟨(m_gi2 207 rfl rfl), (List.forall_mem_cons.mpr ⟨(m_gi2 209 rfl rfl), (List.forall_mem_cons.mpr ⟨(m_gi2 211 rfl rfl), (List.forall_mem_cons.mpr ⟨(m_gi2 213 rfl rfl), (List.forall_mem_cons.mpr ⟨(m_gi2 215 rfl rfl), (List.forall_mem_cons.mpr ⟨(m_gi2 217 rfl rfl), (fun _ h => absurd h List.not_mem_nil)⟩)⟩)⟩)⟩)⟩)⟩)⟩)⟩)
set_option maxRecDepth 8000 in
theorem cok_7 : m_clOk 7 (R_7, F_7, 8) := ⟨cin_7, by decide +kernel, by decide +kernel, rfl, rfl, by decide +kernel, by decide +kernel⟩
set_option maxRecDepth 8000 in
theorem cin_8 : ∀ w ∈ u_ws R_8 F_8 14, w ∈ m_gt := by
  show ∀ w ∈ [u_lay R_8 F_8 0, u_lay R_8 F_8 1, u_lay R_8 F_8 2, u_lay R_8 F_8 3, u_lay R_8 F_8 4, u_lay R_8 F_8 5, u_lay R_8 F_8 6, u_lay R_8 F_8 7, u_lay R_8 F_8 8, u_lay R_8 F_8 9, u_lay R_8 F_8 10, u_lay R_8 F_8 11, u_lay R_8 F_8 12, u_lay R_8 F_8 13], w ∈ m_gt
  exact (List.forall_mem_cons.mpr ⟨(m_gi3 192 rfl rfl), (List.forall_mem_cons.mpr ⟨(m_gi3 194 rfl rfl), (List.forall_mem_cons.mpr ⟨(m_gi3 196 rfl rfl), (List.forall_mem_cons.mpr ⟨(m_gi3 198 rfl rfl), (List.forall_mem_cons.mpr ⟨(m_gi3 200 rfl rfl), (List.forall_mem_cons.mpr ⟨(m_gi3 202 rfl rfl), (List.forall_mem_cons.mpr ⟨(m_gi3 204 rfl rfl), (List.forall_mem_cons.mpr ⟨(m_gi3 206 rfl rfl), (List.forall_mem_cons.mpr ⟨(m_gi3 208 rfl rfl), (List.forall_mem_cons.mpr ⟨(m_gi3 210 rfl rfl), (List.forall_mem_cons.mpr ⟨(m_gi3 212 rfl rfl), (List.forall_mem_cons.mpr ⟨(m_gi3 214 rfl rfl), (List.forall_mem_cons.mpr ⟨(m_gi3 216 rfl rfl), (List.forall_mem_cons.mpr ⟨(m_gi3 218 rfl rfl), (fun _ h => absurd h List.not_mem_nil)⟩)⟩)⟩)⟩)⟩)⟩)⟩)⟩)⟩)⟩)⟩)⟩)⟩)⟩)
set_option maxRecDepth 8000 in
theorem cok_8 : m_clOk 8 (R_8, F_8, 14) := ⟨cin_8, by decide +kernel, by decide +kernel, rfl, rfl, by decide +kernel, by decide +kernel⟩
set_option maxRecDepth 8000 in
theorem cin_9 : ∀ w ∈ u_ws R_9 F_9 19, w ∈ m_gt := by
  show ∀ w ∈ [u_lay R_9 F_9 0, u_lay R_9 F_9 1, u_lay R_9 F_9 2, u_lay R_9 F_9 3, u_lay R_9 F_9 4, u_lay R_9 F_9 5, u_lay R_9 F_9 6, u_lay R_9 F_9 7, u_lay R_9 F_9 8, u_lay R_9 F_9 9, u_lay R_9 F_9 10, u_lay R_9 F_9 11, u_lay R_9 F_9 12, u_lay R_9 F_9 13, u_lay R_9 F_9 14, u_lay R_9 F_9 15, u_lay R_9 F_9 16, u_lay R_9 F_9 17, u_lay R_9 F_9 18], w ∈ m_gt
  exact (List.forall_mem_cons.mpr ⟨(m_gi5 1 rfl rfl), (List.forall_mem_cons.mpr ⟨(m_gi5 3 rfl rfl), (List.forall_mem_cons.mpr ⟨(m_gi5 5 rfl rfl), (List.forall_mem_cons.mpr ⟨(m_gi5 7 rfl rfl), (List.forall_mem_cons.mpr ⟨(m_gi5 9 rfl rfl), (List.forall_mem_cons.mpr ⟨(m_gi5 11 rfl rfl), (List.forall_mem_cons.mpr ⟨(m_gi5 13 rfl rfl), (List.forall_mem_cons.mpr ⟨(m_gi5 15 rfl rfl), (List.forall_mem_cons.mpr ⟨(m_gi5 17 rfl rfl), (List.forall_mem_cons.mpr ⟨(m_gi5 19 rfl rfl), (List.forall_mem_cons.mpr ⟨(m_gi5 21 rfl rfl), (List.forall_mem_cons.mpr ⟨(m_gi5 23 rfl rfl), (List.forall_mem_cons.mpr ⟨(m_gi5 25 rfl rfl), (List.forall_mem_cons.mpr ⟨(m_gi5 27 rfl rfl), (List.forall_mem_cons.mpr ⟨(m_gi5 29 rfl rfl), (List.forall_mem_cons.mpr ⟨(m_gi5 31 rfl rfl), (List.forall_mem_cons.mpr ⟨(m_gi5 33 rfl rfl), (List.forall_mem_cons.mpr ⟨(m_gi5 35 rfl rfl), (List.forall_mem_cons.mpr ⟨(m_gi5 37 rfl rfl), (fun _ h => absurd h List.not_mem_nil)⟩)⟩)⟩)⟩)⟩)⟩)⟩)⟩)⟩)⟩)⟩)⟩)⟩)⟩)⟩)⟩)⟩)⟩)⟩)
set_option maxRecDepth 8000 in
theorem cok_9 : m_clOk 9 (R_9, F_9, 19) := ⟨cin_9, by decide +kernel, by decide +kernel, rfl, rfl, by decide +kernel, by decide +kernel⟩
set_option maxRecDepth 8000 in
theorem cin_10 : ∀ w ∈ u_ws R_10 F_10 14, w ∈ m_gt := by
  show ∀ w ∈ [u_lay R_10 F_10 0, u_lay R_10 F_10 1, u_lay R_10 F_10 2, u_lay R_10 F_10 3, u_lay R_10 F_10 4, u_lay R_10 F_10 5, u_lay R_10 F_10 6, u_lay R_10 F_10 7, u_lay R_10 F_10 8, u_lay R_10 F_10 9, u_lay R_10 F_10 10, u_lay R_10 F_10 11, u_lay R_10 F_10 12, u_lay R_10 F_10 13], w ∈ m_gt
  exact (List.forall_mem_cons.mpr ⟨(m_gi5 109 rfl rfl), (List.forall_mem_cons.mpr ⟨(m_gi5 111 rfl rfl), (List.forall_mem_cons.mpr ⟨(m_gi5 113 rfl rfl), (List.forall_mem_cons.mpr ⟨(m_gi5 115 rfl rfl), (List.forall_mem_cons.mpr ⟨(m_gi5 117 rfl rfl), (List.forall_mem_cons.mpr ⟨(m_gi5 119 rfl rfl), (List.forall_mem_cons.mpr ⟨(m_gi5 121 rfl rfl), (List.forall_mem_cons.mpr ⟨(m_gi5 123 rfl rfl), (List.forall_mem_cons.mpr ⟨(m_gi5 125 rfl rfl), (List.forall_mem_cons.mpr ⟨(m_gi5 127 rfl rfl), (List.forall_mem_cons.mpr ⟨(m_gi5 129 rfl rfl), (List.forall_mem_cons.mpr ⟨(m_gi5 131 rfl rfl), (List.forall_mem_cons.mpr ⟨(m_gi5 133 rfl rfl), (List.forall_mem_cons.mpr ⟨(m_gi5 135 rfl rfl), (fun _ h => absurd h List.not_mem_nil)⟩)⟩)⟩)⟩)⟩)⟩)⟩)⟩)⟩)⟩)⟩)⟩)⟩)⟩)
set_option maxRecDepth 8000 in
theorem cok_10 : m_clOk 10 (R_10, F_10, 14) := ⟨cin_10, by decide +kernel, by decide +kernel, rfl, rfl, by decide +kernel, by decide +kernel⟩
set_option maxRecDepth 8000 in
theorem cin_11 : ∀ w ∈ u_ws R_11 F_11 9, w ∈ m_gt := by
  show ∀ w ∈ [u_lay R_11 F_11 0, u_lay R_11 F_11 1, u_lay R_11 F_11 2, u_lay R_11 F_11 3, u_lay R_11 F_11 4, u_lay R_11 F_11 5, u_lay R_11 F_11 6, u_lay R_11 F_11 7, u_lay R_11 F_11 8], w ∈ m_gt
  exact (List.forall_mem_cons.mpr ⟨(m_gi6 19 rfl rfl), (List.forall_mem_cons.mpr ⟨(m_gi6 21 rfl rfl), (List.forall_mem_cons.mpr ⟨(m_gi6 23 rfl rfl), (List.forall_mem_cons.mpr ⟨(m_gi6 25 rfl rfl), (List.forall_mem_cons.mpr ⟨(m_gi6 27 rfl rfl), (List.forall_mem_cons.mpr ⟨(m_gi6 29 rfl rfl), (List.forall_mem_cons.mpr ⟨(m_gi6 31 rfl rfl), (List.forall_mem_cons.mpr ⟨(m_gi6 33 rfl rfl), (List.forall_mem_cons.mpr ⟨(m_gi6 35 rfl rfl), (fun _ h => absurd h List.not_mem_nil)⟩)⟩)⟩)⟩)⟩)⟩)⟩)⟩)⟩)
set_option maxRecDepth 8000 in
theorem cok_11 : m_clOk 11 (R_11, F_11, 9) := ⟨cin_11, by decide +kernel, by decide +kernel, rfl, rfl, by decide +kernel, by decide +kernel⟩
set_option maxRecDepth 8000 in
theorem cin_12 : ∀ w ∈ u_ws R_12 F_12 4, w ∈ m_gt := by
  show ∀ w ∈ [u_lay R_12 F_12 0, u_lay R_12 F_12 1, u_lay R_12 F_12 2, u_lay R_12 F_12 3], w ∈ m_gt
  exact (List.forall_mem_cons.mpr ⟨(m_gi7 171 rfl rfl), (List.forall_mem_cons.mpr ⟨(m_gi7 173 rfl rfl), (List.forall_mem_cons.mpr ⟨(m_gi7 175 rfl rfl), (List.forall_mem_cons.mpr ⟨(m_gi7 177 rfl rfl), (fun _ h => absurd h List.not_mem_nil)⟩)⟩)⟩)⟩)
set_option maxRecDepth 8000 in
theorem cok_12 : m_clOk 12 (R_12, F_12, 4) := ⟨cin_12, by decide +kernel, by decide +kernel, rfl, rfl, by decide +kernel, by decide +kernel⟩
set_option maxRecDepth 8000 in
theorem cin_13 : ∀ w ∈ u_ws R_13 F_13 10, w ∈ m_gt := by
  show ∀ w ∈ [u_lay R_13 F_13 0, u_lay R_13 F_13 1, u_lay R_13 F_13 2, u_lay R_13 F_13 3, u_lay R_13 F_13 4, u_lay R_13 F_13 5, u_lay R_13 F_13 6, u_lay R_13 F_13 7, u_lay R_13 F_13 8, u_lay R_13 F_13 9], w ∈ m_gt
  exact (List.forall_mem_cons.mpr ⟨(m_gi8 127 rfl rfl), (List.forall_mem_cons.mpr ⟨(m_gi8 129 rfl rfl), (List.forall_mem_cons.mpr ⟨(m_gi8 131 rfl rfl), (List.forall_mem_cons.mpr ⟨(m_gi8 133 rfl rfl), (List.forall_mem_cons.mpr ⟨(m_gi8 135 rfl rfl), (List.forall_mem_cons.mpr ⟨(m_gi8 137 rfl rfl), (List.forall_mem_cons.mpr ⟨(m_gi8 139 rfl rfl), (List.forall_mem_cons.mpr ⟨(m_gi8 141 rfl rfl), (List.forall_mem_cons.mpr ⟨(m_gi8 143 rfl rfl), (List.forall_mem_cons.mpr ⟨(m_gi8 145 rfl rfl), (fun _ h => absurd h List.not_mem_nil)⟩)⟩)⟩)⟩)⟩)⟩)⟩)⟩)⟩)⟩)
set_option maxRecDepth 8000 in
theorem cok_13 : m_clOk 13 (R_13, F_13, 10) := ⟨cin_13, by decide +kernel, by decide +kernel, rfl, rfl, by decide +kernel, by decide +kernel⟩
set_option maxRecDepth 8000 in
theorem cin_14 : ∀ w ∈ u_ws R_14 F_14 92, w ∈ m_gt := by
  show ∀ w ∈ [u_lay R_14 F_14 0, u_lay R_14 F_14 1, u_lay R_14 F_14 2, u_lay R_14 F_14 3, u_lay R_14 F_14 4, u_lay R_14 F_14 5, u_lay R_14 F_14 6, u_lay R_14 F_14 7, u_lay R_14 F_14 8, u_lay R_14 F_14 9, u_lay R_14 F_14 10, u_lay R_14 F_14 11, u_lay R_14 F_14 12, u_lay R_14 F_14 13, u_lay R_14 F_14 14, u_lay R_14 F_14 15, u_lay R_14 F_14 16, u_lay R_14 F_14 17, u_lay R_14 F_14 18, u_lay R_14 F_14 19, u_lay R_14 F_14 20, u_lay R_14 F_14 21, u_lay R_14 F_14 22, u_lay R_14 F_14 23, u_lay R_14 F_14 24, u_lay R_14 F_14 25, u_lay R_14 F_14 26, u_lay R_14 F_14 27, u_lay R_14 F_14 28, u_lay R_14 F_14 29, u_lay R_14 F_14 30, u_lay R_14 F_14 31, u_lay R_14 F_14 32, u_lay R_14 F_14 33, u_lay R_14 F_14 34, u_lay R_14 F_14 35, u_lay R_14 F_14 36, u_lay R_14 F_14 37, u_lay R_14 F_14 38, u_lay R_14 F_14 39, u_lay R_14 F_14 40, u_lay R_14 F_14 41, u_lay R_14 F_14 42, u_lay R_14 F_14 43, u_lay R_14 F_14 44, u_lay R_14 F_14 45, u_lay R_14 F_14 46, u_lay R_14 F_14 47, u_lay R_14 F_14 48, u_lay R_14 F_14 49, u_lay R_14 F_14 50, u_lay R_14 F_14 51, u_lay R_14 F_14 52, u_lay R_14 F_14 53, u_lay R_14 F_14 54, u_lay R_14 F_14 55, u_lay R_14 F_14 56, u_lay R_14 F_14 57, u_lay R_14 F_14 58, u_lay R_14 F_14 59, u_lay R_14 F_14 60, u_lay R_14 F_14 61, u_lay R_14 F_14 62, u_lay R_14 F_14 63, u_lay R_14 F_14 64, u_lay R_14 F_14 65, u_lay R_14 F_14 66, u_lay R_14 F_14 67, u_lay R_14 F_14 68, u_lay R_14 F_14 69, u_lay R_14 F_14 70, u_lay R_14 F_14 71, u_lay R_14 F_14 72, u_lay R_14 F_14 73, u_lay R_14 F_14 74, u_lay R_14 F_14 75, u_lay R_14 F_14 76, u_lay R_14 F_14 77, u_lay R_14 F_14 78, u_lay R_14 F_14 79, u_lay R_14 F_14 80, u_lay R_14 F_14 81, u_lay R_14 F_14 82, u_lay R_14 F_14 83, u_lay R_14 F_14 84, u_lay R_14 F_14 85, u_lay R_14 F_14 86, u_lay R_14 F_14 87, u_lay R_14 F_14 88, u_lay R_14 F_14 89, u_lay R_14 F_14 90, u_lay R_14 F_14 91], w ∈ m_gt
  exact (List.forall_mem_cons.mpr ⟨(m_gi9 81 rfl rfl), (List.forall_mem_cons.mpr ⟨(m_gi9 83 rfl rfl), (List.forall_mem_cons.mpr ⟨(m_gi9 85 rfl rfl), (List.forall_mem_cons.mpr ⟨(m_gi9 87 rfl rfl), (List.forall_mem_cons.mpr ⟨(m_gi9 89 rfl rfl), (List.forall_mem_cons.mpr ⟨(m_gi9 91 rfl rfl), (List.forall_mem_cons.mpr ⟨(m_gi9 93 rfl rfl), (List.forall_mem_cons.mpr ⟨(m_gi9 95 rfl rfl), (List.forall_mem_cons.mpr ⟨(m_gi9 97 rfl rfl), (List.forall_mem_cons.mpr ⟨(m_gi9 99 rfl rfl), (List.forall_mem_cons.mpr ⟨(m_gi9 101 rfl rfl), (List.forall_mem_cons.mpr ⟨(m_gi9 103 rfl rfl), (List.forall_mem_cons.mpr ⟨(m_gi9 105 rfl rfl), (List.forall_mem_cons.mpr ⟨(m_gi9 107 rfl rfl), (List.forall_mem_cons.mpr ⟨(m_gi9 109 rfl rfl), (List.forall_mem_cons.mpr ⟨(m_gi9 111 rfl rfl), (List.forall_mem_cons.mpr ⟨(m_gi9 113 rfl rfl), (List.forall_mem_cons.mpr ⟨(m_gi9 115 rfl rfl), (List.forall_mem_cons.mpr ⟨(m_gi9 117 rfl rfl), (List.forall_mem_cons.mpr ⟨(m_gi9 119 rfl rfl), (List.forall_mem_cons.mpr ⟨(m_gi9 121 rfl rfl), (List.forall_mem_cons.mpr ⟨(m_gi9 123 rfl rfl), (List.forall_mem_cons.mpr ⟨(m_gi9 125 rfl rfl), (List.forall_mem_cons.mpr ⟨(m_gi9 127 rfl rfl), (List.forall_mem_cons.mpr ⟨(m_gi9 129 rfl rfl), (List.forall_mem_cons.mpr ⟨(m_gi9 131 rfl rfl), (List.forall_mem_cons.mpr ⟨(m_gi9 133 rfl rfl), (List.forall_mem_cons.mpr ⟨(m_gi9 135 rfl rfl), (List.forall_mem_cons.mpr ⟨(m_gi9 137 rfl rfl), (List.forall_mem_cons.mpr ⟨(m_gi9 139 rfl rfl), (List.forall_mem_cons.mpr ⟨(m_gi9 141 rfl rfl), (List.forall_mem_cons.mpr ⟨(m_gi9 143 rfl rfl), (List.forall_mem_cons.mpr ⟨(m_gi9 145 rfl rfl), (List.forall_mem_cons.mpr ⟨(m_gi9 147 rfl rfl), (List.forall_mem_cons.mpr ⟨(m_gi9 149 rfl rfl), (List.forall_mem_cons.mpr ⟨(m_gi9 151 rfl rfl), (List.forall_mem_cons.mpr ⟨(m_gi9 153 rfl rfl), (List.forall_mem_cons.mpr ⟨(m_gi9 155 rfl rfl), (List.forall_mem_cons.mpr ⟨(m_gi9 157 rfl rfl), (List.forall_mem_cons.mpr ⟨(m_gi9 159 rfl rfl), (List.forall_mem_cons.mpr ⟨(m_gi9 161 rfl rfl), (List.forall_mem_cons.mpr ⟨(m_gi9 163 rfl rfl), (List.forall_mem_cons.mpr ⟨(m_gi9 165 rfl rfl), (List.forall_mem_cons.mpr ⟨(m_gi9 167 rfl rfl), (List.forall_mem_cons.mpr ⟨(m_gi9 169 rfl rfl), (List.forall_mem_cons.mpr ⟨(m_gi9 171 rfl rfl), (List.forall_mem_cons.mpr ⟨(m_gi9 173 rfl rfl), (List.forall_mem_cons.mpr ⟨(m_gi9 175 rfl rfl), (List.forall_mem_cons.mpr ⟨(m_gi9 177 rfl rfl), (List.forall_mem_cons.mpr ⟨(m_gi9 179 rfl rfl), (List.forall_mem_cons.mpr ⟨(m_gi9 181 rfl rfl), (List.forall_mem_cons.mpr ⟨(m_gi9 183 rfl rfl), (List.forall_mem_cons.mpr ⟨(m_gi9 185 rfl rfl), (List.forall_mem_cons.mpr ⟨(m_gi9 187 rfl rfl), (List.forall_mem_cons.mpr ⟨(m_gi9 189 rfl rfl), (List.forall_mem_cons.mpr ⟨(m_gi9 191 rfl rfl), (List.forall_mem_cons.mpr ⟨(m_gi9 193 rfl rfl), (List.forall_mem_cons.mpr ⟨(m_gi9 195 rfl rfl), (List.forall_mem_cons.mpr ⟨(m_gi9 197 rfl rfl), (List.forall_mem_cons.mpr ⟨(m_gi9 199 rfl rfl), (List.forall_mem_cons.mpr ⟨(m_gi9 201 rfl rfl), (List.forall_mem_cons.mpr ⟨(m_gi9 203 rfl rfl), (List.forall_mem_cons.mpr ⟨(m_gi9 205 rfl rfl), (List.forall_mem_cons.mpr ⟨(m_gi9 207 rfl rfl), (List.forall_mem_cons.mpr ⟨(m_gi9 209 rfl rfl), (List.forall_mem_cons.mpr ⟨(m_gi9 211 rfl rfl), (List.forall_mem_cons.mpr ⟨(m_gi9 213 rfl rfl), (List.forall_mem_cons.mpr ⟨(m_gi9 215 rfl rfl), (List.forall_mem_cons.mpr ⟨(m_gi9 217 rfl rfl), (List.forall_mem_cons.mpr ⟨(m_gi9 219 rfl rfl), (List.forall_mem_cons.mpr ⟨(m_gi9 221 rfl rfl), (List.forall_mem_cons.mpr ⟨(m_gi9 223 rfl rfl), (List.forall_mem_cons.mpr ⟨(m_gi9 225 rfl rfl), (List.forall_mem_cons.mpr ⟨(m_gi9 227 rfl rfl), (List.forall_mem_cons.mpr ⟨(m_gi9 229 rfl rfl), (List.forall_mem_cons.mpr ⟨(m_gi9 231 rfl rfl), (List.forall_mem_cons.mpr ⟨(m_gi9 233 rfl rfl), (List.forall_mem_cons.mpr ⟨(m_gi9 235 rfl rfl), (List.forall_mem_cons.mpr ⟨(m_gi9 237 rfl rfl), (List.forall_mem_cons.mpr ⟨(m_gi9 239 rfl rfl), (List.forall_mem_cons.mpr ⟨(m_gi10 1 rfl rfl), (List.forall_mem_cons.mpr ⟨(m_gi10 3 rfl rfl), (List.forall_mem_cons.mpr ⟨(m_gi10 5 rfl rfl), (List.forall_mem_cons.mpr ⟨(m_gi10 7 rfl rfl), (List.forall_mem_cons.mpr ⟨(m_gi10 9 rfl rfl), (List.forall_mem_cons.mpr ⟨(m_gi10 11 rfl rfl), (List.forall_mem_cons.mpr ⟨(m_gi10 13 rfl rfl), (List.forall_mem_cons.mpr ⟨(m_gi10 15 rfl rfl), (List.forall_mem_cons.mpr ⟨(m_gi10 17 rfl rfl), (List.forall_mem_cons.mpr ⟨(m_gi10 19 rfl rfl), (List.forall_mem_cons.mpr ⟨(m_gi10 21 rfl rfl), (List.forall_mem_cons.mpr ⟨(m_gi10 23 rfl rfl), (fun _ h => absurd h List.not_mem_nil)⟩)⟩)⟩)⟩)⟩)⟩)⟩)⟩)⟩)⟩)⟩)⟩)⟩)⟩)⟩)⟩)⟩)⟩)⟩)⟩)⟩)⟩)⟩)⟩)⟩)⟩)⟩)⟩)⟩)⟩)⟩)⟩)⟩)⟩)⟩)⟩)⟩)⟩)⟩)⟩)⟩)⟩)⟩)⟩)⟩)⟩)⟩)⟩)⟩)⟩)⟩)⟩)⟩)⟩)⟩)⟩)⟩)⟩)⟩)⟩)⟩)⟩)⟩)⟩)⟩)⟩)⟩)⟩)⟩)⟩)⟩)⟩)⟩)⟩)⟩)⟩)⟩)⟩)⟩)⟩)⟩)⟩)⟩)⟩)⟩)⟩)⟩)⟩)⟩)⟩)⟩)⟩)
set_option maxRecDepth 8000 in
theorem cok_14 : m_clOk 14 (R_14, F_14, 92) := ⟨cin_14, by decide +kernel, by decide +kernel, rfl, rfl, by decide +kernel, by decide +kernel⟩
set_option maxRecDepth 8000 in
theorem m_cl_ok : ∀ ci r, m_cl[ci]? = some r → m_clOk ci r := by
  intro ci r h
  have hl : ci < 15 := (List.getElem?_eq_some_iff.mp h).1
  match ci, hl, h with
  | 0, _, h => cases h; exact cok_0
  | 1, _, h => cases h; exact cok_1
  | 2, _, h => cases h; exact cok_2
  | 3, _, h => cases h; exact cok_3
  | 4, _, h => cases h; exact cok_4
  | 5, _, h => cases h; exact cok_5
  | 6, _, h => cases h; exact cok_6
  | 7, _, h => cases h; exact cok_7
  | 8, _, h => cases h; exact cok_8
  | 9, _, h => cases h; exact cok_9
  | 10, _, h => cases h; exact cok_10
  | 11, _, h => cases h; exact cok_11
  | 12, _, h => cases h; exact cok_12
  | 13, _, h => cases h; exact cok_13
  | 14, _, h => cases h; exact cok_14
end
section
def m_sxl : List (String × Nat × String × Nat) := [("EdgeHouse", 86, "the tape is no thing", 1), ("EdgeHouse", 172, "ticks are 1 to 100", 2), ("EdgeHouse", 222, "no such request", 3), ("EdgeHouse", 227, "what is 0 to 8", 4), ("EdgeHouse$Reader", 41, "PUT ", 5), ("EdgeHouse$Reader", 91, "HEAD ", 6), ("EdgeHouse$Reader", 93, "GET ", 7), ("EdgeHouse$Reader", 157, "length", 8), ("EdgeHouse$Reader", 162, "cache-control", 9), ("EdgeHouse$Reader", 167, "vary", 10), ("EdgeHouse$Reader", 169, "keys", 11), ("EdgeHouse$Reader", 177, "range", 12), ("EdgeHouse$Reader", 182, "if-none-match", 13), ("EdgeHouse$Reader", 187, "if-range", 14), ("EdgeHouse$Reader", 193, "accept-language", 15), ("EdgeHouse$Reader", 195, "accept-encoding", 16), ("EdgeHouse$Reader", 199, "bytes=", 17), ("EdgeHouse$Reader", 240, "en", 18), ("EdgeHouse$Reader", 242, "de", 19), ("EdgeHouse$Reader", 244, "fr", 20), ("EdgeHouse$Reader", 246, "it", 21), ("EdgeHouse$Reader", 248, "gzip", 22), ("EdgeHouse$Reader", 253, "max-stale", 23), ("EdgeHouse$Reader", 259, "no-cache", 24), ("EdgeHouse$Reader", 264, "only-if-cached", 25), ("EdgeHouse$Reader", 269, "max-age", 26), ("EdgeHouse$Reader", 274, "min-fresh", 27), ("EdgeHouse$Reader", 279, "no-store", 28), ("EdgeHouse$Reader", 288, "stale-if-error", 29), ("EdgeHouse$Reader", 293, "stale-while-revalidate", 30), ("EdgeHouse$Reply", 9, "", 31), ("EdgeHouse$Reply", 122, "etag: \"", 32), ("EdgeHouse$Reply", 124, "\"\n", 33), ("EdgeHouse$Reply", 126, "age: ", 34), ("EdgeHouse$Reply", 128, "cache: ", 35), ("EdgeHouse$Reply", 130, "hit", 36), ("EdgeHouse$Reply", 132, "stale", 37), ("EdgeHouse$Reply", 134, "miss", 38), ("EdgeHouse$Reply", 136, "vary: ", 39), ("EdgeHouse$Reply", 138, "accept-language", 40), ("EdgeHouse$Reply", 140, ", ", 41), ("EdgeHouse$Reply", 142, "accept-encoding", 42), ("EdgeHouse$Reply", 144, "content-range: bytes ", 43), ("EdgeHouse$Reply", 146, "content-range: bytes */", 44), ("EdgeHouse$Reply", 148, "length: ", 45), ("EdgeHouse$Reply", 150, "OK", 46), ("EdgeHouse$Reply", 152, "Partial Content", 47), ("EdgeHouse$Reply", 154, "Not Modified", 48), ("EdgeHouse$Reply", 156, "Bad Request", 49), ("EdgeHouse$Reply", 158, "Not Found", 50), ("EdgeHouse$Reply", 160, "Range Not Satisfiable", 51), ("EdgeHouse$Reply", 162, "Bad Gateway", 52), ("EdgeHouse$Reply", 164, "Service Unavailable", 53), ("EdgeHouse$Reply", 166, "Gateway Timeout", 54), ("EdgeHouseModel", 216, "bytes=", 55), ("EdgeHouseModel", 256, "gzip", 56), ("EdgeHouseModel", 264, "no-cache", 57), ("EdgeHouseModel", 269, "only-if-cached", 58), ("EdgeHouseModel", 274, "max-age", 59), ("EdgeHouseModel", 279, "max-stale", 60), ("EdgeHouseModel", 285, "min-fresh", 61), ("EdgeHouseModel", 290, "no-store", 62), ("EdgeHouseModel", 301, "stale-if-error", 63), ("EdgeHouseModel", 306, "stale-while-revalidate", 64), ("EdgeHouseModel", 311, "en", 65), ("EdgeHouseModel", 313, "de", 66), ("EdgeHouseModel", 315, "fr", 67), ("EdgeHouseModel", 317, "it", 68), ("EdgeHouseModel", 322, "accept-language", 69), ("EdgeHouseModel", 324, "accept-encoding", 70), ("EdgeHouseModel", 337, "HEAD", 71), ("EdgeHouseModel", 339, "GET", 72), ("EdgeHouseModel", 341, "PUT", 73), ("EdgeHouseModel", 354, "range", 74), ("EdgeHouseModel", 361, "if-none-match", 75), ("EdgeHouseModel", 366, "if-range", 76), ("EdgeHouseModel", 375, "vary", 77), ("EdgeHouseModel", 376, "cache-control", 78), ("EdgeHouseModel", 378, "length", 79), ("EdgeHouseModel", 379, "keys", 80), ("EdgeHouseModel", 640, "\n", 81), ("EdgeHouseModel", 642, " OK\n", 82), ("EdgeHouseModel", 644, " Partial Content\n", 83), ("EdgeHouseModel", 646, " Not Modified\n", 84), ("EdgeHouseModel", 648, " Bad Request\n", 85), ("EdgeHouseModel", 650, " Not Found\n", 86), ("EdgeHouseModel", 652, " Range Not Satisfiable\n", 87), ("EdgeHouseModel", 654, " Bad Gateway\n", 88), ("EdgeHouseModel", 656, " Service Unavailable\n", 89), ("EdgeHouseModel", 658, " Gateway Timeout\n", 90), ("EdgeHouseModel", 666, "etag: \"", 91), ("EdgeHouseModel", 668, "\"\n", 92), ("EdgeHouseModel", 670, "age: ", 93), ("EdgeHouseModel", 676, "cache: hit\n", 94), ("EdgeHouseModel", 678, "cache: stale\n", 95), ("EdgeHouseModel", 680, "cache: miss\n", 96), ("EdgeHouseModel", 682, "vary: accept-language\n", 97), ("EdgeHouseModel", 684, "vary: accept-encoding\n", 98), ("EdgeHouseModel", 686, "vary: accept-language, accept-encoding\n", 99), ("EdgeHouseModel", 688, "content-range: bytes ", 100), ("EdgeHouseModel", 690, "-", 101), ("EdgeHouseModel", 692, "/", 102), ("EdgeHouseModel", 694, "content-range: bytes */", 103), ("EdgeHouseModel", 696, "length: ", 104), ("java/lang/ArrayIndexOutOfBoundsException", 13, "Array index out of range: ", 105), ("java/lang/StringIndexOutOfBoundsException", 13, "String index out of range: ", 106), ("java/util/Arrays", 48, "fromIndex(", 107), ("java/util/Arrays", 57, ") > toIndex(", 108), ("java/util/Arrays", 59, ")", 109), ("java/util/Arrays", 337, " > ", 110)]
def m_xbl : List (List Int32) := [[116, 104, 101, 32, 116, 97, 112, 101, 32, 105, 115, 32, 110, 111, 32, 116, 104, 105, 110, 103], [116, 105, 99, 107, 115, 32, 97, 114, 101, 32, 49, 32, 116, 111, 32, 49, 48, 48], [110, 111, 32, 115, 117, 99, 104, 32, 114, 101, 113, 117, 101, 115, 116], [119, 104, 97, 116, 32, 105, 115, 32, 48, 32, 116, 111, 32, 56], [80, 85, 84, 32], [72, 69, 65, 68, 32], [71, 69, 84, 32], [108, 101, 110, 103, 116, 104], [99, 97, 99, 104, 101, 45, 99, 111, 110, 116, 114, 111, 108], [118, 97, 114, 121], [107, 101, 121, 115], [114, 97, 110, 103, 101], [105, 102, 45, 110, 111, 110, 101, 45, 109, 97, 116, 99, 104], [105, 102, 45, 114, 97, 110, 103, 101], [97, 99, 99, 101, 112, 116, 45, 108, 97, 110, 103, 117, 97, 103, 101], [97, 99, 99, 101, 112, 116, 45, 101, 110, 99, 111, 100, 105, 110, 103], [98, 121, 116, 101, 115, 61], [101, 110], [100, 101], [102, 114], [105, 116], [103, 122, 105, 112], [109, 97, 120, 45, 115, 116, 97, 108, 101], [110, 111, 45, 99, 97, 99, 104, 101], [111, 110, 108, 121, 45, 105, 102, 45, 99, 97, 99, 104, 101, 100], [109, 97, 120, 45, 97, 103, 101], [109, 105, 110, 45, 102, 114, 101, 115, 104], [110, 111, 45, 115, 116, 111, 114, 101], [115, 116, 97, 108, 101, 45, 105, 102, 45, 101, 114, 114, 111, 114], [115, 116, 97, 108, 101, 45, 119, 104, 105, 108, 101, 45, 114, 101, 118, 97, 108, 105, 100, 97, 116, 101], [], [101, 116, 97, 103, 58, 32, 34], [34, 10], [97, 103, 101, 58, 32], [99, 97, 99, 104, 101, 58, 32], [104, 105, 116], [115, 116, 97, 108, 101], [109, 105, 115, 115], [118, 97, 114, 121, 58, 32], [97, 99, 99, 101, 112, 116, 45, 108, 97, 110, 103, 117, 97, 103, 101], [44, 32], [97, 99, 99, 101, 112, 116, 45, 101, 110, 99, 111, 100, 105, 110, 103], [99, 111, 110, 116, 101, 110, 116, 45, 114, 97, 110, 103, 101, 58, 32, 98, 121, 116, 101, 115, 32], [99, 111, 110, 116, 101, 110, 116, 45, 114, 97, 110, 103, 101, 58, 32, 98, 121, 116, 101, 115, 32, 42, 47], [108, 101, 110, 103, 116, 104, 58, 32], [79, 75], [80, 97, 114, 116, 105, 97, 108, 32, 67, 111, 110, 116, 101, 110, 116], [78, 111, 116, 32, 77, 111, 100, 105, 102, 105, 101, 100], [66, 97, 100, 32, 82, 101, 113, 117, 101, 115, 116], [78, 111, 116, 32, 70, 111, 117, 110, 100], [82, 97, 110, 103, 101, 32, 78, 111, 116, 32, 83, 97, 116, 105, 115, 102, 105, 97, 98, 108, 101], [66, 97, 100, 32, 71, 97, 116, 101, 119, 97, 121], [83, 101, 114, 118, 105, 99, 101, 32, 85, 110, 97, 118, 97, 105, 108, 97, 98, 108, 101], [71, 97, 116, 101, 119, 97, 121, 32, 84, 105, 109, 101, 111, 117, 116], [98, 121, 116, 101, 115, 61], [103, 122, 105, 112], [110, 111, 45, 99, 97, 99, 104, 101], [111, 110, 108, 121, 45, 105, 102, 45, 99, 97, 99, 104, 101, 100], [109, 97, 120, 45, 97, 103, 101], [109, 97, 120, 45, 115, 116, 97, 108, 101], [109, 105, 110, 45, 102, 114, 101, 115, 104], [110, 111, 45, 115, 116, 111, 114, 101], [115, 116, 97, 108, 101, 45, 105, 102, 45, 101, 114, 114, 111, 114], [115, 116, 97, 108, 101, 45, 119, 104, 105, 108, 101, 45, 114, 101, 118, 97, 108, 105, 100, 97, 116, 101], [101, 110], [100, 101], [102, 114], [105, 116], [97, 99, 99, 101, 112, 116, 45, 108, 97, 110, 103, 117, 97, 103, 101], [97, 99, 99, 101, 112, 116, 45, 101, 110, 99, 111, 100, 105, 110, 103], [72, 69, 65, 68], [71, 69, 84], [80, 85, 84], [114, 97, 110, 103, 101], [105, 102, 45, 110, 111, 110, 101, 45, 109, 97, 116, 99, 104], [105, 102, 45, 114, 97, 110, 103, 101], [118, 97, 114, 121], [99, 97, 99, 104, 101, 45, 99, 111, 110, 116, 114, 111, 108], [108, 101, 110, 103, 116, 104], [107, 101, 121, 115], [10], [32, 79, 75, 10], [32, 80, 97, 114, 116, 105, 97, 108, 32, 67, 111, 110, 116, 101, 110, 116, 10], [32, 78, 111, 116, 32, 77, 111, 100, 105, 102, 105, 101, 100, 10], [32, 66, 97, 100, 32, 82, 101, 113, 117, 101, 115, 116, 10], [32, 78, 111, 116, 32, 70, 111, 117, 110, 100, 10], [32, 82, 97, 110, 103, 101, 32, 78, 111, 116, 32, 83, 97, 116, 105, 115, 102, 105, 97, 98, 108, 101, 10], [32, 66, 97, 100, 32, 71, 97, 116, 101, 119, 97, 121, 10], [32, 83, 101, 114, 118, 105, 99, 101, 32, 85, 110, 97, 118, 97, 105, 108, 97, 98, 108, 101, 10], [32, 71, 97, 116, 101, 119, 97, 121, 32, 84, 105, 109, 101, 111, 117, 116, 10], [101, 116, 97, 103, 58, 32, 34], [34, 10], [97, 103, 101, 58, 32], [99, 97, 99, 104, 101, 58, 32, 104, 105, 116, 10], [99, 97, 99, 104, 101, 58, 32, 115, 116, 97, 108, 101, 10], [99, 97, 99, 104, 101, 58, 32, 109, 105, 115, 115, 10], [118, 97, 114, 121, 58, 32, 97, 99, 99, 101, 112, 116, 45, 108, 97, 110, 103, 117, 97, 103, 101, 10], [118, 97, 114, 121, 58, 32, 97, 99, 99, 101, 112, 116, 45, 101, 110, 99, 111, 100, 105, 110, 103, 10], [118, 97, 114, 121, 58, 32, 97, 99, 99, 101, 112, 116, 45, 108, 97, 110, 103, 117, 97, 103, 101, 44, 32, 97, 99, 99, 101, 112, 116, 45, 101, 110, 99, 111, 100, 105, 110, 103, 10], [99, 111, 110, 116, 101, 110, 116, 45, 114, 97, 110, 103, 101, 58, 32, 98, 121, 116, 101, 115, 32], [45], [47], [99, 111, 110, 116, 101, 110, 116, 45, 114, 97, 110, 103, 101, 58, 32, 98, 121, 116, 101, 115, 32, 42, 47], [108, 101, 110, 103, 116, 104, 58, 32], [65, 114, 114, 97, 121, 32, 105, 110, 100, 101, 120, 32, 111, 117, 116, 32, 111, 102, 32, 114, 97, 110, 103, 101, 58, 32], [83, 116, 114, 105, 110, 103, 32, 105, 110, 100, 101, 120, 32, 111, 117, 116, 32, 111, 102, 32, 114, 97, 110, 103, 101, 58, 32], [102, 114, 111, 109, 73, 110, 100, 101, 120, 40], [41, 32, 62, 32, 116, 111, 73, 110, 100, 101, 120, 40], [41], [32, 62, 32]]
def m_sN : Nat := 110
def m_sci : Nat := 12
def m_stl : List (String × String × String × Value) := [("java/util/ArrayList", "DEFAULTCAPACITY_EMPTY_ELEMENTDATA", "[Ljava/lang/Object;", .ref 0), ("java/lang/String", "COMPACT_STRINGS", "Z", .int 1), ("jdk/internal/util/Preconditions", "SIOOBE_FORMATTER", "Ljava/util/function/BiFunction;", .retAddr 0), ("java/lang/StringUTF16", "$assertionsDisabled", "Z", .int 1), ("java/lang/StringUTF16", "HI_BYTE_SHIFT", "I", .int 0), ("java/lang/StringUTF16", "LO_BYTE_SHIFT", "I", .int 8)]
/-! The names are right: every class, method and pool entry has its words among the tables': written by wip/tool/gen.py. -/
def m_fOk (y : MethodName) (q : Nat × Nat × Nat × Nat) : Prop := ∃ r : vw_C, m_cl[q.2.1]? = some r ∧ q.2.2.1 < r.2.2 ∧ (∃ ref : String, Cond.fieldLink y.cls q.1 ref (r.2.1 q.2.2.1).2.1 (r.2.1 q.2.2.1).2.2.1 ∈ m_gt ∧ (ref = (r.2.1 q.2.2.1).1 ∨ Cond.sameField ref (r.2.1 q.2.2.1).1 (r.2.1 q.2.2.1).2.1 (r.2.1 q.2.2.1).2.2.1 ∈ m_gt)) ∧ (q.2.2.2 = 1 → (r.2.1 q.2.2.1).2.2.2 = false) ∧ (q.2.2.2 = 2 → (r.2.1 q.2.2.1).2.2.2 = true ∧ y.name = "<init>" ∧ (r.2.1 q.2.2.1).1 = y.cls)
def m_nwk : Cond → Bool
  | .methodLinkNest .. => true
  | .castable .. => true
  | .declares .. => true
  | _ => false
def m_nw : List Cond := lw_tbl.filter m_nwk
def m_cOk (y : MethodName) (q : Nat × Nat × Nat × Nat) : Prop :=
  (q.2.1 = 4 → Cond.methodLink y.cls q.1 objectInit ∈ m_gt) ∧ (q.2.1 = 5 → Cond.methodLink y.cls q.1 Lib.Math.max.name ∈ m_gt) ∧ (q.2.1 = 6 → Cond.methodLink y.cls q.1 Lib.Math.min.name ∈ m_gt) ∧ (q.2.1 < 4 → ∃ J : mI, m_mt[q.2.2.1]? = some J ∧
    (q.2.1 = 0 → J.1.name = "<init>" ∧ J.2.2.2.2.1 = none ∧ Cond.methodLink y.cls q.1 J.1 ∈ m_gt ∧ Cond.instanceMethod J.1 ∈ m_gt) ∧
    (q.2.1 = 1 → Cond.methodLink y.cls q.1 J.1 ∈ m_gt ∧ Cond.instanceMethod J.1 ∈ m_gt ∧ ∃ r : vw_C, m_cl[q.2.2.2]? = some r ∧ r.1 = J.1.cls ∧ Cond.selects J.1.cls J.1 J.1 ∈ m_gt) ∧
    (q.2.1 = 2 → Cond.methodLink y.cls q.1 J.1 ∈ m_gt ∧ Cond.static J.1 ∈ m_gt) ∧
    (q.2.1 = 3 → J.1.name = "<init>" ∧ J.2.2.2.2.1 = none ∧ Cond.instanceMethod J.1 ∈ m_gt ∧ ∃ host : String, Cond.methodLinkNest y.cls q.1 J.1 host ∈ m_nw))
def m_oOk (y : MethodName) (q : Nat × Nat × Nat × Value) : Prop :=
  (q.2.1 = 0 → ∃ r : vw_C, m_cl[q.2.2.1]? = some r ∧ Cond.classLink y.cls q.1 r.1 ∈ m_gt ∧ Cond.instantiable r.1 r.2.2 ∈ m_gt ∧ Cond.initialized r.1 ∈ m_gt) ∧
  (q.2.1 = 1 → ¬ q.2.2.1 < 6 ∧ ∃ C : String, C ∈ m_obl ∧ m_tyl[q.2.2.1]? = some (.object C) ∧ Cond.classLink y.cls q.1 C ∈ m_gt) ∧
  (q.2.1 = 2 → ∃ x : Int32, q.2.2.2 = .int x ∧ Cond.constant y.cls q.1 x ∈ m_gt) ∧
  (q.2.1 = 3 → ∃ x : Int64, q.2.2.2 = .long x ∧ Cond.constantLong y.cls q.1 x ∈ m_gt) ∧
  (q.2.1 = 4 → ∃ C n d : String, (C, n, d, q.2.2.2) ∈ m_stl ∧ Cond.fieldLink y.cls q.1 C n d ∈ m_gt) ∧
  (q.2.1 = 5 → ∃ tx : String, (y.cls, q.1, tx, q.2.2.1) ∈ m_sxl) ∧
  (q.2.1 = 6 → ∃ r : vw_C, m_cl[q.2.2.1]? = some r ∧ Cond.classLink y.cls q.1 r.1 ∈ m_gt ∧ Cond.castable r.1 r.1 ∈ m_nw) ∧ q.2.1 < 7
def m_mOk (I : mI) : Prop := Cond.code I.1 I.2.1 I.2.2.1 I.2.2.2.2.1 ∈ m_gt ∧ Cond.initialized I.1.cls ∈ m_gt ∧ plainName I.1.cls = true ∧ (I.1.cls ≠ "java/lang/invoke/MethodHandle" ∧ I.1.cls ≠ "java/lang/invoke/VarHandle") ∧ (parseMethodDescriptor I.1.desc).map (fun d => d.parameters.length) = some I.2.2.2.1 ∧ (∀ q ∈ I.2.2.2.2.2.1, m_fOk I.1 q) ∧ (∀ q ∈ I.2.2.2.2.2.2.1, m_cOk I.1 q) ∧ (∀ q ∈ I.2.2.2.2.2.2.2.1, m_oOk I.1 q) ∧ ∀ q ∈ I.2.2.2.2.2.2.2.2, decode I.2.1 q.1 = .ok (q.2.1, q.2.2)
theorem m_n0 {a b : Nat} {P : Prop} (h : (Nat.beq a b) = false) : a = b → P := fun e => by subst e; simp at h
theorem m_n1 {a b : Nat} {P : Prop} (h : (Nat.ble b a) = true) : a < b → P := fun e => absurd (Nat.le_of_ble_eq_true h) (Nat.not_le.mpr e)
def m_asl : List (Nat × Nat) := [(0, 8), (1, 8), (4, 8), (5, 8), (14, 8), (13, 8), (6, 8), (7, 8), (8, 8), (9, 8), (10, 8), (11, 8), (12, 8)]
def m_ass : List (Nat × Nat) := [(13, 6), (4, 7)]
theorem m_asl_ok : ∀ q ∈ m_asl, ∃ (r : vw_C) (C : String), m_cl[q.1]? = some r ∧ m_tyl[q.2]? = some (.object C) ∧ Cond.castable r.1 C ∈ m_nw := (List.forall_mem_cons.mpr ⟨⟨(R_0, F_0, 15), "java/lang/Object", rfl, rfl, (List.mem_filter.mpr ⟨m_in12 (List.mem_of_getElem? (i := 57) rfl), rfl⟩)⟩, (List.forall_mem_cons.mpr ⟨⟨(R_1, F_1, 16), "java/lang/Object", rfl, rfl, (List.mem_filter.mpr ⟨m_in12 (List.mem_of_getElem? (i := 58) rfl), rfl⟩)⟩, (List.forall_mem_cons.mpr ⟨⟨(R_4, F_4, 11), "java/lang/Object", rfl, rfl, (List.mem_filter.mpr ⟨m_in12 (List.mem_of_getElem? (i := 59) rfl), rfl⟩)⟩, (List.forall_mem_cons.mpr ⟨⟨(R_5, F_5, 3), "java/lang/Object", rfl, rfl, (List.mem_filter.mpr ⟨m_in12 (List.mem_of_getElem? (i := 60) rfl), rfl⟩)⟩, (List.forall_mem_cons.mpr ⟨⟨(R_14, F_14, 92), "java/lang/Object", rfl, rfl, (List.mem_filter.mpr ⟨m_in12 (List.mem_of_getElem? (i := 61) rfl), rfl⟩)⟩, (List.forall_mem_cons.mpr ⟨⟨(R_13, F_13, 10), "java/lang/Object", rfl, rfl, (List.mem_filter.mpr ⟨m_in12 (List.mem_of_getElem? (i := 62) rfl), rfl⟩)⟩, (List.forall_mem_cons.mpr ⟨⟨(R_6, F_6, 19), "java/lang/Object", rfl, rfl, (List.mem_filter.mpr ⟨m_in12 (List.mem_of_getElem? (i := 63) rfl), rfl⟩)⟩, (List.forall_mem_cons.mpr ⟨⟨(R_7, F_7, 8), "java/lang/Object", rfl, rfl, (List.mem_filter.mpr ⟨m_in12 (List.mem_of_getElem? (i := 64) rfl), rfl⟩)⟩, (List.forall_mem_cons.mpr ⟨⟨(R_8, F_8, 14), "java/lang/Object", rfl, rfl, (List.mem_filter.mpr ⟨m_in12 (List.mem_of_getElem? (i := 65) rfl), rfl⟩)⟩, (List.forall_mem_cons.mpr ⟨⟨(R_9, F_9, 19), "java/lang/Object", rfl, rfl, (List.mem_filter.mpr ⟨m_in12 (List.mem_of_getElem? (i := 66) rfl), rfl⟩)⟩, (List.forall_mem_cons.mpr ⟨⟨(R_10, F_10, 14), "java/lang/Object", rfl, rfl, (List.mem_filter.mpr ⟨m_in12 (List.mem_of_getElem? (i := 67) rfl), rfl⟩)⟩, (List.forall_mem_cons.mpr ⟨⟨(R_11, F_11, 9), "java/lang/Object", rfl, rfl, (List.mem_filter.mpr ⟨m_in12 (List.mem_of_getElem? (i := 68) rfl), rfl⟩)⟩, (List.forall_mem_cons.mpr ⟨⟨(R_12, F_12, 4), "java/lang/Object", rfl, rfl, (List.mem_filter.mpr ⟨m_in12 (List.mem_of_getElem? (i := 69) rfl), rfl⟩)⟩, (fun _ h => absurd h List.not_mem_nil)⟩)⟩)⟩)⟩)⟩)⟩)⟩)⟩)⟩)⟩)⟩)⟩)⟩)
theorem m_ass_ok : ∀ q ∈ m_ass, ∃ r : vw_C, m_cl[q.1]? = some r ∧ m_tyl[q.2]? = some (.object r.1) := (List.forall_mem_cons.mpr ⟨⟨(R_13, F_13, 10), rfl, rfl⟩, (List.forall_mem_cons.mpr ⟨⟨(R_4, F_4, 11), rfl, rfl⟩, (fun _ h => absurd h List.not_mem_nil)⟩)⟩)
theorem m_ac_int : Cond.arrayClass .int ∈ m_gt := m_gi1 101 rfl rfl
theorem m_ac_long : Cond.arrayClass .long ∈ m_gt := m_gi12 36 rfl rfl
theorem m_ac_char : Cond.arrayClass .char ∈ m_gt := m_gi1 100 rfl rfl
theorem m_ac_byte : Cond.arrayClass .byte ∈ m_gt := m_gi1 164 rfl rfl
theorem m_ac_boolean : Cond.arrayClass .boolean ∈ m_gt := m_gi1 234 rfl rfl
theorem m_oi_i : Cond.instanceMethod objectInit ∈ m_gt := m_gi1 42 rfl rfl
theorem m_oi_c : Cond.code objectInit ⟨#[0xb1]⟩ 1 none ∈ m_gt := m_gi1 43 rfl rfl
theorem m_max_s : Cond.static Lib.Math.max.name ∈ m_gt := m_gi4 1 rfl rfl
theorem m_max_c : Cond.code Lib.Math.max.name Lib.Math.max.code 2 (some .int) ∈ m_gt := m_gi4 2 rfl rfl
theorem m_min_s : Cond.static Lib.Math.min.name ∈ m_gt := m_gi3 159 rfl rfl
theorem m_min_c : Cond.code Lib.Math.min.name Lib.Math.min.code 2 (some .int) ∈ m_gt := m_gi3 160 rfl rfl
theorem m_math_i : Cond.initialized "java/lang/Math" ∈ m_gt := m_gi1 22 rfl rfl
end
section
theorem m_mt_ok : ∀ I ∈ m_mt, m_mOk I := sorry
end
section
/-! The small machine's steps. -/
abbrev mF : Type := Nat × List (Nat × Value) × List Value × List mM
abbrev mR : Type := Option Value × List mM × Nat × Nat × Nat × Nat
def m_fe (I : mI) (k : Nat) : Option (Nat × Nat × Nat) := (I.2.2.2.2.2.1.find? (fun q => q.1 == k)).map (·.2)
def m_ce (I : mI) (k : Nat) : Option (Nat × Nat × Nat) := (I.2.2.2.2.2.2.1.find? (fun q => q.1 == k)).map (·.2)
def m_oe (I : mI) (kd k : Nat) : Option (Nat × Value) := (I.2.2.2.2.2.2.2.1.find? (fun q => q.1 == k && q.2.1 == kd)).map (·.2.2)
def m_de (I : mI) (pc : Nat) : Option (Instr × Nat) := (I.2.2.2.2.2.2.2.2.find? (fun q => q.1 == pc)).map (·.2)
def m_lv (lv : List (Nat × Value)) (i : Nat) : Option Value := (lv.find? (fun q => q.1 == i)).map (·.2)
def m_put1 (lv : List (Nat × Value)) (i : Nat) (v : Value) : List (Nat × Value) := (i, v) :: lv.filter (fun q => !(q.1 == i) && !(q.1 + 1 == i && q.2.category == 2))
def m_put2 (lv : List (Nat × Value)) (i : Nat) (v : Value) : List (Nat × Value) := (i, v) :: lv.filter (fun q => !(q.1 == i) && (!(q.1 == i + 1) && !(q.1 + 1 == i && q.2.category == 2)))
def m_jmp (pc : Nat) (off : Int) : Option Nat := if (((pc : Int) + off).toNat : Int) = (pc : Int) + off then some ((pc : Int) + off).toNat else none
-- the stack alone: the length of the instruction, the new stack
def m_b2 (f : Int32 → Int32 → Int32) (st : List Value) : Option (Nat × List Value) := match st with
  | .int y :: .int x :: r => some (1, .int (f x y) :: r)
  | _ => none
def m_b2n (f : Int32 → Int32 → Int32) (st : List Value) : Option (Nat × List Value) := match st with
  | .int y :: .int x :: r => if y = 0 then none else some (1, .int (f x y) :: r)
  | _ => none
def m_u1 (f : Int32 → Int32) (st : List Value) : Option (Nat × List Value) := match st with
  | .int x :: r => some (1, .int (f x) :: r)
  | _ => none
def m_l2 (f : Int64 → Int64 → Int64) (st : List Value) : Option (Nat × List Value) := match st with
  | .long y :: .long x :: r => some (1, .long (f x y) :: r)
  | _ => none
def m_ls (f : Int64 → Int32 → Int64) (st : List Value) : Option (Nat × List Value) := match st with
  | .int y :: .long x :: r => some (1, .long (f x y) :: r)
  | _ => none
def m_i2l (st : List Value) : Option (Nat × List Value) := match st with
  | .int x :: r => some (1, .long x.toInt64 :: r)
  | _ => none
def m_l2i (st : List Value) : Option (Nat × List Value) := match st with
  | .long x :: r => some (1, .int x.toInt32 :: r)
  | _ => none
def m_lcmp (st : List Value) : Option (Nat × List Value) := match st with
  | .long y :: .long x :: r => some (1, .int (lg_cmp x y) :: r)
  | _ => none
def m_dup (st : List Value) : Option (Nat × List Value) := match st with
  | v :: r => if v.category = 1 then some (1, v :: v :: r) else none
  | _ => none
def m_pop (st : List Value) : Option (Nat × List Value) := match st with
  | v :: r => if v.category = 1 then some (1, r) else none
  | _ => none
def m_dupx1 (st : List Value) : Option (Nat × List Value) := match st with
  | v :: u :: r => if v.category = 1 ∧ u.category = 1 then some (1, v :: u :: v :: r) else none
  | _ => none
def m_dupx2 (st : List Value) : Option (Nat × List Value) := match st with
  | v :: u :: z :: r => if v.category = 1 ∧ u.category = 1 ∧ z.category = 1 then some (1, v :: u :: z :: v :: r) else none
  | _ => none
def m_dup2 (st : List Value) : Option (Nat × List Value) := match st with
  | v :: u :: r => if v.category = 1 ∧ u.category = 1 then some (1, v :: u :: v :: u :: r) else none
  | _ => none
def m_ps (i : Instr) (st : List Value) : Option (Nat × List Value) := match i with
  | .iconst n => some (1, .int (Int32.ofInt n) :: st)
  | .bipush n => some (2, .int (Int8.ofInt n).toInt32 :: st)
  | .sipush n => some (3, .int (Int16.ofInt n).toInt32 :: st)
  | .lconst n => some (1, .long (Int64.ofNat n) :: st)
  | .aconst_null => some (1, .null :: st)
  | .iadd => m_b2 (fun x y => x + y) st
  | .isub => m_b2 (fun x y => x - y) st
  | .imul => m_b2 (fun x y => x * y) st
  | .iand => m_b2 (fun x y => x &&& y) st
  | .ior => m_b2 (fun x y => x ||| y) st
  | .ixor => m_b2 (fun x y => x ^^^ y) st
  | .idiv => m_b2n (fun x y => x / y) st
  | .irem => m_b2n (fun x y => x - x / y * y) st
  | .ishl => m_b2 (fun x y => x <<< (y &&& 31)) st
  | .ishr => m_b2 (fun x y => x >>> (y &&& 31)) st
  | .iushr => m_b2 (fun x y => (x.toUInt32 >>> (y.toUInt32 &&& Int32.toUInt32 31)).toInt32) st
  | .ineg => m_u1 (fun x => -x) st
  | .i2b => m_u1 (fun x => x.toInt8.toInt32) st
  | .i2s => m_u1 (fun x => x.toInt16.toInt32) st
  | .i2c => m_u1 (fun x => (x.toUInt32 % 65536).toInt32) st
  | .ladd => m_l2 (fun x y => x + y) st
  | .lsub => m_l2 (fun x y => x - y) st
  | .land => m_l2 (fun x y => x &&& y) st
  | .lor => m_l2 (fun x y => x ||| y) st
  | .lxor => m_l2 (fun x y => x ^^^ y) st
  | .lushr => m_ls (fun x y => (x.toUInt64 >>> (y.toInt64.toUInt64 &&& Int64.toUInt64 63)).toInt64) st
  | .lshl => m_ls (fun x y => x <<< (y.toInt64 &&& 63)) st
  | .lshr => m_ls (fun x y => x >>> (y.toInt64 &&& 63)) st
  | .i2l => m_i2l st
  | .l2i => m_l2i st
  | .lcmp => m_lcmp st
  | .dup => m_dup st
  | .pop => m_pop st
  | .dup_x1 => m_dupx1 st
  | .dup_x2 => m_dupx2 st
  | .dup2 => m_dup2 st
  | _ => none
-- locals: the length, the new locals, the new stack
def m_ldi (len i : Nat) (lv : List (Nat × Value)) (st : List Value) : Option (Nat × List (Nat × Value) × List Value) := match m_lv lv i with
  | some (.int x) => some (len, lv, .int x :: st)
  | _ => none
def m_ldl (len i : Nat) (lv : List (Nat × Value)) (st : List Value) : Option (Nat × List (Nat × Value) × List Value) := match m_lv lv i with
  | some (.long x) => some (len, lv, .long x :: st)
  | _ => none
def m_lda (len i : Nat) (lv : List (Nat × Value)) (st : List Value) : Option (Nat × List (Nat × Value) × List Value) := match m_lv lv i with
  | some (.ref x) => some (len, lv, .ref x :: st)
  | some .null => some (len, lv, .null :: st)
  | some (.retAddr n) => some (len, lv, .retAddr n :: st)
  | _ => none
def m_sti (nL len i : Nat) (lv : List (Nat × Value)) (st : List Value) : Option (Nat × List (Nat × Value) × List Value) := match st with
  | .int x :: r => if i < nL then some (len, m_put1 lv i (.int x), r) else none
  | _ => none
def m_stl2 (nL len i : Nat) (lv : List (Nat × Value)) (st : List Value) : Option (Nat × List (Nat × Value) × List Value) := match st with
  | .long x :: r => if i + 1 < nL then some (len, m_put2 lv i (.long x), r) else none
  | _ => none
def m_sta (nL len i : Nat) (lv : List (Nat × Value)) (st : List Value) : Option (Nat × List (Nat × Value) × List Value) := match st with
  | .ref x :: r => if i < nL then some (len, m_put1 lv i (.ref x), r) else none
  | .null :: r => if i < nL then some (len, m_put1 lv i .null, r) else none
  | .retAddr n :: r => if i < nL then some (len, m_put1 lv i (.retAddr n), r) else none
  | _ => none
def m_inc (nL i : Nat) (n : Int) (lv : List (Nat × Value)) (st : List Value) : Option (Nat × List (Nat × Value) × List Value) := match m_lv lv i with
  | some (.int x) => if i < nL then some (3, m_put1 lv i (.int (x + Int32.ofInt n)), st) else none
  | _ => none
def m_lo (nL : Nat) (i : Instr) (lv : List (Nat × Value)) (st : List Value) : Option (Nat × List (Nat × Value) × List Value) := match i with
  | .iload k => m_ldi 2 k lv st
  | .iload_n k => m_ldi 1 k lv st
  | .lload k => m_ldl 2 k lv st
  | .lload_n k => m_ldl 1 k lv st
  | .aload k => m_lda 2 k lv st
  | .aload_n k => m_lda 1 k lv st
  | .istore k => m_sti nL 2 k lv st
  | .istore_n k => m_sti nL 1 k lv st
  | .lstore k => m_stl2 nL 2 k lv st
  | .lstore_n k => m_stl2 nL 1 k lv st
  | .astore k => m_sta nL 2 k lv st
  | .astore_n k => m_sta nL 1 k lv st
  | .iinc k n => m_inc nL k n lv st
  | _ => none
-- branches: the new place, the new stack
def m_b1 (pc : Nat) (off : Int) (len : Nat) (f : Int32 → Bool) (st : List Value) : Option (Nat × List Value) := match st with
  | .int x :: r => if len = 3 then (m_jmp pc off).map (fun t => (if f x = true then t else pc + 3, r)) else none
  | _ => none
def m_bb (pc : Nat) (off : Int) (len : Nat) (f : Int32 → Int32 → Bool) (st : List Value) : Option (Nat × List Value) := match st with
  | .int y :: .int x :: r => if len = 3 then (m_jmp pc off).map (fun t => (if f x y = true then t else pc + 3, r)) else none
  | _ => none
def m_c1 (c : ClassFile.Cond) (x : Int32) : Bool := match c with
  | .eq => decide (x = 0)
  | .ne => decide (¬ x = 0)
  | .lt => decide (x < 0)
  | .ge => decide (0 ≤ x)
  | .gt => decide (0 < x)
  | .le => decide (x ≤ 0)
def m_c2 (c : ClassFile.Cond) (x y : Int32) : Bool := match c with
  | .eq => decide (x = y)
  | .ne => decide (¬ x = y)
  | .lt => decide (x < y)
  | .ge => decide (y ≤ x)
  | .gt => decide (y < x)
  | .le => decide (x ≤ y)
def m_bn (pc : Nat) (off : Int) (len : Nat) (onNull : Bool) (st : List Value) : Option (Nat × List Value) := match st with
  | .null :: r => if len = 3 then (m_jmp pc off).map (fun t => (if onNull = true then t else pc + 3, r)) else none
  | .ref _ :: r => if len = 3 then (m_jmp pc off).map (fun t => (if onNull = true then pc + 3 else t, r)) else none
  | _ => none
def m_rf (v : Value) : Option (Option Nat) := match v with
  | .null => some none
  | .ref k => some (some k)
  | _ => none
def m_apart (n : Nat) (a b : Option Nat) : Bool := match a, b with
  | some x, some y => (decide (512 ≤ x) || decide (512 ≤ y)) && decide (x < 512 + n) && decide (y < 512 + n)
  | _, _ => true
def m_ba (n pc : Nat) (off : Int) (len : Nat) (onEq : Bool) (st : List Value) : Option (Nat × List Value) := match st with
  | b :: a :: r => match m_rf a, m_rf b with
    | some x, some y => if len = 3 ∧ (x = y ∨ m_apart n x y = true) then (m_jmp pc off).map (fun t => (if decide (x = y) = onEq then t else pc + 3, r)) else none
    | _, _ => none
  | _ => none
def m_tsw (pc : Nat) (dflt lo hi : Int) (offs : Array Int) (st : List Value) : Option (Nat × List Value) := match st with
  | .int x :: r => if x.toInt < lo ∨ hi < x.toInt then (m_jmp pc dflt).map (fun t => (t, r)) else match offs[(x.toInt - lo).toNat]? with
    | some off => (m_jmp pc off).map (fun t => (t, r))
    | none => none
  | _ => none
def m_lsw (pc : Nat) (dflt : Int) (ps : Array (Int × Int)) (st : List Value) : Option (Nat × List Value) := match st with
  | .int x :: r => if (ps.toList.zip (ps.toList.drop 1)).all (fun (a, next) => a.1 < next.1) = true then (m_jmp pc (Op.lookupswitch.offset ps.toList dflt x.toInt)).map (fun t => (t, r)) else none
  | _ => none
def m_br (n pc : Nat) (i : Instr) (len : Nat) (st : List Value) : Option (Nat × List Value) := match i with
  | .ifCond c off => m_b1 pc off len (m_c1 c) st
  | .if_icmp c off => m_bb pc off len (m_c2 c) st
  | .ifnull off => m_bn pc off len true st
  | .ifnonnull off => m_bn pc off len false st
  | .if_acmp .eq off => m_ba n pc off len true st
  | .if_acmp .ne off => m_ba n pc off len false st
  | .goto off => if len = 3 then (m_jmp pc off).map (fun t => (t, st)) else none
  | .tableswitch dflt lo hi offs => m_tsw pc dflt lo hi offs st
  | .lookupswitch dflt ps => m_lsw pc dflt ps st
  | _ => none
-- the heap: the length, the new stack, the new world, cells, slots
abbrev mH : Type := Option (Nat × List Value × List mM × Nat × Nat)
def m_at (w : List mM) (a : Nat) : Option mM := if a < 512 then none else w[a - 512]?
def m_getf (I : mI) (k : Nat) (st : List Value) (w : List mM) : mH := match st with
  | .ref a :: r => match m_fe I k, m_at w a with
    | some (ci, fk, _), some (.inr (cj, fs)) => if ci = cj then (match fs[fk]? with
      | some v => some (3, v :: r, w, 0, 0)
      | none => none) else none
    | _, _ => none
  | _ => none
def m_ft (ci fk : Nat) : Option FieldType := match m_fl[ci]? with
  | some l => l[fk]?
  | none => none
def m_putf (I : mI) (k : Nat) (st : List Value) (w : List mM) : mH := match st with
  | v :: .ref a :: r => match m_fe I k, m_at w a with
    | some (ci, fk, fl), some (.inr (cj, fs)) => match m_ft ci fk with
      | some ty => if ci = cj ∧ (fl = 1 ∨ fl = 2) ∧ fk < fs.length ∧ narrow ty v = v ∧ fits ty v = true ∧ m_okv w.length v = true then some (3, r, w.set (a - 512) (.inr (ci, fs.set fk v)), 0, 0) else none
      | none => none
    | _, _ => none
  | _ => none
def m_new (I : mI) (k : Nat) (st : List Value) (w : List mM) : mH := match m_oe I 0 k with
  | some (ci, _) => match m_fd[ci]? with
    | some fs => some (3, .ref (512 + w.length) :: st, w ++ [.inr (ci, fs)], 1, fs.length)
    | none => none
  | none => none
def m_aty (t : ArrayType) : Option Nat := match t with
  | .int => some 0
  | .long => some 1
  | .char => some 2
  | .byte => some 3
  | .boolean => some 4
  | _ => none
def m_mka (t len : Nat) (st : List Value) (w : List mM) : mH := match st with
  | .int n :: r => if n < 0 ∨ 65536 < n.toNatClampNeg then none else some (len, .ref (512 + w.length) :: r, w ++ [.inl (t, n.toNatClampNeg, [])], 1, n.toNatClampNeg)
  | _ => none
def m_newa (t : ArrayType) (st : List Value) (w : List mM) : mH := match m_aty t with
  | some t => m_mka t 2 st w
  | none => none
def m_anew (I : mI) (k : Nat) (st : List Value) (w : List mM) : mH := match m_oe I 1 k with
  | some (t, _) => m_mka t 3 st w
  | none => none
def m_alen (st : List Value) (w : List mM) : mH := match st with
  | .ref a :: r => match m_at w a with
    | some (.inl (t, n, _)) => match m_tyl[t]? with
      | some _ => some (1, .int (Int32.ofNat n) :: r, w, 0, 0)
      | none => none
    | _ => none
  | _ => none
def m_ald (ok : Nat → Bool) (st : List Value) (w : List mM) : mH := match st with
  | .int i :: .ref a :: r => match m_at w a with
    | some (.inl (t, n, els)) => if ok t = true ∧ ¬ (i < 0 ∨ n ≤ i.toNatClampNeg) then some (1, (if t = 1 then .long (m_toL (m_el t els i.toNatClampNeg)) else .int (m_toI (m_el t els i.toNatClampNeg))) :: r, w, 0, 0) else none
    | _ => none
  | _ => none
def m_aald (st : List Value) (w : List mM) : mH := match st with
  | .int i :: .ref a :: r => match m_at w a with
    | some (.inl (t, n, els)) => match m_tyl[t]? with
      | some (.object _) => if ¬ t < 6 ∧ ¬ (i < 0 ∨ n ≤ i.toNatClampNeg) then (match m_el t els i.toNatClampNeg with
        | .ref k => some (1, .ref k :: r, w, 0, 0)
        | _ => some (1, .null :: r, w, 0, 0)) else none
      | _ => none
    | _ => none
  | _ => none
def m_ast (ty : Nat → Option FieldType) (st : List Value) (w : List mM) : mH := match st with
  | .int x :: .int i :: .ref a :: r => match m_at w a with
    | some (.inl (t, n, els)) => match ty t with
      | some f => if ¬ (i < 0 ∨ n ≤ i.toNatClampNeg) then some (1, r, w.set (a - 512) (.inl (t, n, m_sel els i.toNatClampNeg (.int (vp_nar f x)))), 0, 0) else none
      | none => none
    | _ => none
  | _ => none
def m_last (st : List Value) (w : List mM) : mH := match st with
  | .long x :: .int i :: .ref a :: r => match m_at w a with
    | some (.inl (t, n, els)) => if t = 1 ∧ ¬ (i < 0 ∨ n ≤ i.toNatClampNeg) then some (1, r, w.set (a - 512) (.inl (t, n, m_sel els i.toNatClampNeg (.long x))), 0, 0) else none
    | _ => none
  | _ => none
def m_aast (st : List Value) (w : List mM) : mH := match st with
  | v :: .int i :: .ref a :: r => match m_at w a with
    | some (.inl (t, n, els)) => match m_tyl[t]? with
      | some (.object _) => if ¬ t < 6 ∧ ¬ (i < 0 ∨ n ≤ i.toNatClampNeg) then (match v with
        | .null => some (1, r, w.set (a - 512) (.inl (t, n, m_sel els i.toNatClampNeg .null)), 0, 0)
        | .ref k => match m_at w k with
          | some (.inr (ci, _)) => if (ci, t) ∈ m_ass ∨ (ci, t) ∈ m_asl then some (1, r, w.set (a - 512) (.inl (t, n, m_sel els i.toNatClampNeg (.ref k))), 0, 0) else none
          | _ => none
        | _ => none) else none
      | _ => none
    | _ => none
  | _ => none
def m_gst (I : mI) (k : Nat) (st : List Value) (w : List mM) : mH := match m_oe I 4 k with
  | some (_, v) => some (3, v :: st, w, 0, 0)
  | none => none
def m_ldc (I : mI) (k len : Nat) (st : List Value) (w : List mM) : mH := match m_oe I 2 k with
  | some (_, v) => some (len, v :: st, w, 0, 0)
  | none => none
def m_ldc2 (I : mI) (k : Nat) (st : List Value) (w : List mM) : mH := match m_oe I 3 k with
  | some (_, v) => some (3, v :: st, w, 0, 0)
  | none => none
def m_hs (I : mI) (i : Instr) (st : List Value) (w : List mM) : mH := match i with
  | .getfield k => m_getf I k st w
  | .putfield k => m_putf I k st w
  | .new k => m_new I k st w
  | .newarray t => m_newa t st w
  | .anewarray k => m_anew I k st w
  | .arraylength => m_alen st w
  | .iaload => m_ald (fun t => decide (t = 0)) st w
  | .laload => m_ald (fun t => decide (t = 1)) st w
  | .caload => m_ald (fun t => decide (t = 2)) st w
  | .baload => m_ald (fun t => decide (t = 3 ∨ t = 4)) st w
  | .aaload => m_aald st w
  | .iastore => m_ast (fun t => if t = 0 then some .int else none) st w
  | .castore => m_ast (fun t => if t = 2 then some .char else none) st w
  | .bastore => m_ast (fun t => if t = 3 then some .byte else if t = 4 then some .boolean else none) st w
  | .lastore => m_last st w
  | .aastore => m_aast st w
  | .getstatic k => m_gst I k st w
  | .ldc k => m_ldc I k 2 st w
  | .ldc_w k => m_ldc I k 3 st w
  | .ldc2_w k => m_ldc2 I k st w
  | _ => none
-- outside cells (the empty list's array, texts and their bytes), texts, casts: the length, the new stack
def m_xget (ci fk a : Nat) : Option Value := if ci = m_sci ∧ 1 ≤ a ∧ a ≤ m_sN then (if fk = 0 then some (.ref (a + 200)) else if fk = 1 then some (.int 0) else none) else none
def m_xby (a : Nat) : Option (List Int32) := if 201 ≤ a ∧ a < 201 + m_sN then m_xbl[a - 201]? else none
def m_xg (I : mI) (k : Nat) (st : List Value) : Option (Nat × List Value) := match st with
  | .ref a :: r => match m_fe I k with
    | some (ci, fk, _) => (m_xget ci fk a).map (fun v => (3, v :: r))
    | none => none
  | _ => none
def m_xl (st : List Value) : Option (Nat × List Value) := match st with
  | .ref a :: r => if a = 0 then some (1, .int 0 :: r) else (m_xby a).map (fun l => (1, .int (Int32.ofNat l.length) :: r))
  | _ => none
def m_xb (st : List Value) : Option (Nat × List Value) := match st with
  | .int i :: .ref a :: r => match m_xby a with
    | some l => if ¬ (i < 0 ∨ l.length ≤ i.toNatClampNeg) then some (1, .int (l.getD i.toNatClampNeg 0) :: r) else none
    | none => none
  | _ => none
def m_xt (I : mI) (k len : Nat) (st : List Value) : Option (Nat × List Value) := (m_oe I 5 k).map (fun q => (len, .ref q.1 :: st))
def m_xc (I : mI) (k : Nat) (st : List Value) (w : List mM) : Option (Nat × List Value) := match st with
  | .null :: r => some (3, .null :: r)
  | .ref a :: r => match m_oe I 6 k, m_at w a with
    | some (ci, _), some (.inr (cj, _)) => if ci = cj then some (3, .ref a :: r) else none
    | _, _ => none
  | _ => none
def m_xs (I : mI) (i : Instr) (st : List Value) (w : List mM) : Option (Nat × List Value) := match i with
  | .getfield k => m_xg I k st
  | .arraylength => m_xl st
  | .baload => m_xb st
  | .ldc k => m_xt I k 2 st
  | .ldc_w k => m_xt I k 3 st
  | .checkcast k => m_xc I k st w
  | _ => none
-- calls that are one step: Object's constructor, Math.max, Math.min: the new stack, room of frames and locals
def m_c0 (I : mI) (i : Instr) (st : List Value) : Option (List Value × Nat × Nat) := match i with
  | .invokespecial k => match m_ce I k, st with
    | some (4, _, _), .ref _ :: r => if (r.map fun v => v.category).sum ≤ 8 then some (r, 1, 20) else none
    | _, _ => none
  | .invokestatic k => match m_ce I k, st with
    | some (5, _, _), .int y :: .int x :: r => if (r.map fun v => v.category).sum ≤ 8 then some (.int (if x < y then y else x) :: r, 1, 21) else none
    | some (6, _, _), .int y :: .int x :: r => if (r.map fun v => v.category).sum ≤ 8 then some (.int (if y < x then y else x) :: r, 1, 21) else none
    | _, _ => none
  | _ => none
-- calls: the callee, the kind, its arguments, what stays on the stack
def m_takeI (J : mI) (st : List Value) : Option (mI × List Value × List Value) := match st[J.2.2.2.1]? with
  | some (.ref a) => if ((st.drop (J.2.2.2.1 + 1)).map fun v => v.category).sum ≤ 8 then some (J, .ref a :: (st.take J.2.2.2.1).reverse, st.drop (J.2.2.2.1 + 1)) else none
  | _ => none
def m_takeS (J : mI) (st : List Value) : Option (mI × List Value × List Value) := if J.2.2.2.1 ≤ st.length ∧ ((st.drop J.2.2.2.1).map fun v => v.category).sum ≤ 8 then some (J, (st.take J.2.2.2.1).reverse, st.drop J.2.2.2.1) else none
def m_isRecv (st : List Value) (w : List mM) (n ci : Nat) : Bool := match st[n]? with
  | some (.ref a) => match m_at w a with
    | some (.inr (cj, _)) => decide (ci = cj)
    | some (.inl _) => false
    | none => decide (ci = m_sci ∧ 1 ≤ a ∧ a ≤ m_sN)
  | _ => false
def m_ca (I : mI) (i : Instr) (st : List Value) (w : List mM) : Option (mI × List Value × List Value) := match i with
  | .invokespecial k => match m_ce I k with
    | some (kd, mid, _) => if kd = 0 ∨ kd = 3 then (match m_mt[mid]? with
      | some J => m_takeI J st
      | none => none) else none
    | none => none
  | .invokevirtual k => match m_ce I k with
    | some (kd, mid, ci) => if kd = 1 then (match m_mt[mid]? with
      | some J => if m_isRecv st w J.2.2.2.1 ci = true then m_takeI J st else none
      | none => none) else none
    | none => none
  | .invokestatic k => match m_ce I k with
    | some (kd, mid, _) => if kd = 2 then (match m_mt[mid]? with
      | some J => m_takeS J st
      | none => none) else none
    | none => none
  | _ => none
-- returns
def m_re (I : mI) (i : Instr) (len : Nat) (st : List Value) : Option (Option Value) := match i, st, I.2.2.2.2.1 with
  | .return_, [], none => if len = 1 then some none else none
  | .ireturn, [.int v], some ty => if len = 1 ∧ narrow ty (.int v) = .int v then some (some (.int v)) else none
  | .lreturn, [.long v], some .long => if len = 1 then some (some (.long v)) else none
  | .areturn, [.null], some (.object _) => if len = 1 then some (some .null) else none
  | .areturn, [.ref k], some (.object _) => if len = 1 then some (some (.ref k)) else none
  | .areturn, [.null], some (.array _) => if len = 1 then some (some .null) else none
  | .areturn, [.ref k], some (.array _) => if len = 1 then some (some (.ref k)) else none
  | _, _, _ => none
def m_okf (F : mF) : Bool := F.2.1.all (fun q => m_okv F.2.2.2.length q.2) && F.2.2.1.all (m_okv F.2.2.2.length)
def m_ent (J : mI) (as : List Value) (w : List mM) : mF := (0, lv_args 0 as, [], w)
def m_add (c s f l : Nat) (r : mR) : mR := (r.1, r.2.1, c + r.2.2.1, s + r.2.2.2.1, max f r.2.2.2.2.1, max l r.2.2.2.2.2)
/-- one step, or a call ('ic' runs the callee): the next place, cells, slots, frames, locals -/
def m_nx (ic : mI → mF → Option mR) (I : mI) (F : mF) : Option (mF × Nat × Nat × Nat × Nat) := match m_de I F.1 with
  | some (i, len) =>
    match m_ps i F.2.2.1 with
    | some (n, st') => if n = len then some ((F.1 + len, F.2.1, st', F.2.2.2), 0, 0, 0, 0) else none
    | none => match m_lo I.2.2.1 i F.2.1 F.2.2.1 with
      | some (n, lv', st') => if n = len then some ((F.1 + len, lv', st', F.2.2.2), 0, 0, 0, 0) else none
      | none => match m_br F.2.2.2.length F.1 i len F.2.2.1 with
        | some (pc', st') => some ((pc', F.2.1, st', F.2.2.2), 0, 0, 0, 0)
        | none => match m_hs I i F.2.2.1 F.2.2.2 with
          | some (n, st', w', dc, ds) => if n = len ∧ (dc = 0 ∨ m_okf F = true) then some ((F.1 + len, F.2.1, st', w'), dc, ds, 0, 0) else none
          | none => match m_xs I i F.2.2.1 F.2.2.2 with
            | some (n, st') => if n = len then some ((F.1 + len, F.2.1, st', F.2.2.2), 0, 0, 0, 0) else none
            | none => match m_c0 I i F.2.2.1 with
              | some (st', f, l) => if len = 3 then some ((F.1 + 3, F.2.1, st', F.2.2.2), 0, 0, f, l) else none
              | none => match m_ca I i F.2.2.1 F.2.2.2 with
                | some (J, as, rest) => if len = 3 ∧ m_okf F = true ∧ (lg_sl as).length ≤ J.2.2.1 then (match ic J (m_ent J as F.2.2.2) with
                  | some r => some ((F.1 + 3, F.2.1, r.1.toList ++ rest, r.2.1), r.2.2.1, r.2.2.2.1, r.2.2.2.2.1 + 1, 8 + (J.2.2.1 + 11) + r.2.2.2.2.2)
                  | none => none) else none
                | none => none
  | none => none
def m_rt (I : mI) (F : mF) : Option (Option Value) := match m_de I F.1 with
  | some (i, len) => m_re I i len F.2.2.1
  | none => none
/-- a method to its end -/
def m_exec (f : Nat) : mI → mF → Option mR := Nat.rec (fun _ _ => none) (fun _ ih I F => match m_nx ih I F with
  | some (F', c, s, f, l) => (ih I F').map (m_add c s f l)
  | none => match m_rt I F with
    | some v => some (v, F.2.2.2, 0, 0, 0, 0)
    | none => none) f
theorem m_exec_s (f : Nat) (I : mI) (F : mF) : m_exec (f + 1) I F = match m_nx (m_exec f) I F with
  | some (F', c, s, f9, l) => (m_exec f I F').map (m_add c s f9 l)
  | none => match m_rt I F with
    | some v => some (v, F.2.2.2, 0, 0, 0, 0)
    | none => none := rfl
/-- a method until it comes to the place 'stop' -/
def m_seg (stop : Nat) (g f : Nat) (I : mI) : mF → Option (mF × Nat × Nat × Nat × Nat) := Nat.rec (fun _ => none) (fun _ ih F => if F.1 = stop then some (F, 0, 0, 0, 0) else match m_nx (m_exec g) I F with
  | some (F', c, s, f, l) => (ih F').map (fun r => (r.1, c + r.2.1, s + r.2.2.1, max f r.2.2.2.1, max l r.2.2.2.2))
  | none => none) f
theorem m_seg_s (stop g f : Nat) (I : mI) (F : mF) : m_seg stop g (f + 1) I F = if F.1 = stop then some (F, 0, 0, 0, 0) else match m_nx (m_exec g) I F with
  | some (F', c, s, f9, l) => (m_seg stop g f I F').map (fun r => (r.1, c + r.2.1, s + r.2.2.1, max f9 r.2.2.2.1, max l r.2.2.2.2))
  | none => none := rfl
end
section
/-! The small machine's steps on the stack, the locals and the places are steps of the machine. -/
theorem m_b2_inv {f : Int32 → Int32 → Int32} {st : List Value} {q : Nat × List Value} (h : m_b2 f st = some q) : ∃ x y r, st = .int y :: .int x :: r ∧ q = (1, .int (f x y) :: r) := by
  unfold m_b2 at h
  split at h
  · exact ⟨_, _, _, rfl, (Option.some.inj h).symm⟩
  · cases h
theorem m_b2n_inv {f : Int32 → Int32 → Int32} {st : List Value} {q : Nat × List Value} (h : m_b2n f st = some q) : ∃ x y r, st = .int y :: .int x :: r ∧ ¬ y = 0 ∧ q = (1, .int (f x y) :: r) := by
  unfold m_b2n at h
  split at h
  · split at h
    · cases h
    · rename_i h0
      exact ⟨_, _, _, rfl, h0, (Option.some.inj h).symm⟩
  · cases h
theorem m_u1_inv {f : Int32 → Int32} {st : List Value} {q : Nat × List Value} (h : m_u1 f st = some q) : ∃ x r, st = .int x :: r ∧ q = (1, .int (f x) :: r) := by
  unfold m_u1 at h
  split at h
  · exact ⟨_, _, rfl, (Option.some.inj h).symm⟩
  · cases h
theorem m_l2_inv {f : Int64 → Int64 → Int64} {st : List Value} {q : Nat × List Value} (h : m_l2 f st = some q) : ∃ x y r, st = .long y :: .long x :: r ∧ q = (1, .long (f x y) :: r) := by
  unfold m_l2 at h
  split at h
  · exact ⟨_, _, _, rfl, (Option.some.inj h).symm⟩
  · cases h
theorem m_ls_inv {f : Int64 → Int32 → Int64} {st : List Value} {q : Nat × List Value} (h : m_ls f st = some q) : ∃ x y r, st = .int y :: .long x :: r ∧ q = (1, .long (f x y) :: r) := by
  unfold m_ls at h
  split at h
  · exact ⟨_, _, _, rfl, (Option.some.inj h).symm⟩
  · cases h
section MP
variable {p : Program} {l : Launch} {e : Env} {R : Room} {s : State} {m : MethodId} {args : Array Value} {below : List Frame} {meth : Method} {c : Code} {H : Heap} {locs : List Loc} {cells slots : Nat} {Q : State → Prop} {cc : ByteArray} {X : Nat → Nat} {L : List Nat} {pc len : Nat} {ls : Array Slot} {i : Instr} {st st' : List Value}
theorem m_ps_sound (hx : p.tables.exec = Jvm.exec) (hb : c.code = cc) (hd : decode cc pc = .ok (i, len)) (h : m_ps i st = some (len, st'))
    (k : W p l e R s m args below meth c H locs cells slots Q (F0 m (pc + len) ls (st'.map (m_tr X L)))) : W p l e R s m args below meth c H locs cells slots Q (F0 m pc ls (st.map (m_tr X L))) := by
  unfold m_ps at h
  split at h
  · cases h; exact lv_iconst hx hb hd rfl k
  · cases h; exact lv_bipush hx hb hd rfl k
  · cases h; exact lv_sipush hx hb hd rfl k
  · cases h; exact lv_lconst hx hb hd rfl k
  · cases h; exact lv_null hx hb hd k
  · obtain ⟨x, y, r, rfl, e1⟩ := m_b2_inv h; cases e1; exact lv_iadd hx hb hd k
  · obtain ⟨x, y, r, rfl, e1⟩ := m_b2_inv h; cases e1; exact lv_isub hx hb hd k
  · obtain ⟨x, y, r, rfl, e1⟩ := m_b2_inv h; cases e1; exact lv_imul hx hb hd k
  · obtain ⟨x, y, r, rfl, e1⟩ := m_b2_inv h; cases e1; exact lv_iand hx hb hd k
  · obtain ⟨x, y, r, rfl, e1⟩ := m_b2_inv h; cases e1; exact lv_ior hx hb hd k
  · obtain ⟨x, y, r, rfl, e1⟩ := m_b2_inv h; cases e1; exact lv_ixor hx hb hd k
  · obtain ⟨x, y, r, rfl, h0, e1⟩ := m_b2n_inv h; cases e1; exact lv_idiv hx hb hd h0 k
  · obtain ⟨x, y, r, rfl, h0, e1⟩ := m_b2n_inv h; cases e1; exact lv_irem hx hb hd h0 k
  · obtain ⟨x, y, r, rfl, e1⟩ := m_b2_inv h; cases e1; exact lv_ishl hx hb hd k
  · obtain ⟨x, y, r, rfl, e1⟩ := m_b2_inv h; cases e1; exact lv_ishr hx hb hd k
  · obtain ⟨x, y, r, rfl, e1⟩ := m_b2_inv h; cases e1; exact lv_iushr hx hb hd rfl k
  · obtain ⟨x, r, rfl, e1⟩ := m_u1_inv h; cases e1; exact lv_ineg hx hb hd k
  · obtain ⟨x, r, rfl, e1⟩ := m_u1_inv h; cases e1; exact lv_i2b hx hb hd rfl k
  · obtain ⟨x, r, rfl, e1⟩ := m_u1_inv h; cases e1; exact lv_i2s hx hb hd rfl k
  · obtain ⟨x, r, rfl, e1⟩ := m_u1_inv h; cases e1; exact lv_i2c hx hb hd rfl k
  · obtain ⟨x, y, r, rfl, e1⟩ := m_l2_inv h; cases e1; exact lv_ladd hx hb hd k
  · obtain ⟨x, y, r, rfl, e1⟩ := m_l2_inv h; cases e1; exact lv_lsub hx hb hd k
  · obtain ⟨x, y, r, rfl, e1⟩ := m_l2_inv h; cases e1; exact lv_land hx hb hd k
  · obtain ⟨x, y, r, rfl, e1⟩ := m_l2_inv h; cases e1; exact lv_lor hx hb hd k
  · obtain ⟨x, y, r, rfl, e1⟩ := m_l2_inv h; cases e1; exact lv_lxor hx hb hd k
  · obtain ⟨x, y, r, rfl, e1⟩ := m_ls_inv h; cases e1; exact lv_lushr hx hb hd rfl k
  · obtain ⟨x, y, r, rfl, e1⟩ := m_ls_inv h; cases e1; exact lv_lshl hx hb hd rfl k
  · obtain ⟨x, y, r, rfl, e1⟩ := m_ls_inv h; cases e1; exact lv_lshr hx hb hd rfl k
  · unfold m_i2l at h; split at h
    · cases h; exact lv_i2l hx hb hd rfl k
    · cases h
  · unfold m_l2i at h; split at h
    · cases h; exact lv_l2i hx hb hd rfl k
    · cases h
  · unfold m_lcmp at h; split at h
    · cases h; exact W.lcmp hx hb hd k
    · cases h
  · unfold m_dup at h; split at h
    · split at h
      · rename_i h1
        cases h; exact lv_dup hx hb hd (by rw [m_tr_cat]; exact h1) k
      · cases h
    · cases h
  · unfold m_pop at h; split at h
    · split at h
      · rename_i h1
        cases h; exact lv_pop hx hb hd (by rw [m_tr_cat]; exact h1) k
      · cases h
    · cases h
  · unfold m_dupx1 at h; split at h
    · split at h
      · rename_i h1
        cases h; exact lv_dup_x1 hx hb hd (by rw [m_tr_cat]; exact h1.1) (by rw [m_tr_cat]; exact h1.2) k
      · cases h
    · cases h
  · unfold m_dupx2 at h; split at h
    · split at h
      · rename_i h1
        cases h; exact lv_dup_x2 hx hb hd (by rw [m_tr_cat]; exact h1.1) (by rw [m_tr_cat]; exact h1.2.1) (by rw [m_tr_cat]; exact h1.2.2) k
      · cases h
    · cases h
  · unfold m_dup2 at h; split at h
    · split at h
      · rename_i h1
        cases h; exact lv_dup2_11 hx hb hd (by rw [m_tr_cat]; exact h1.1) (by rw [m_tr_cat]; exact h1.2) k
      · cases h
    · cases h
  · cases h
def m_lvt (X : Nat → Nat) (L : List Nat) (lv : List (Nat × Value)) : List (Nat × Value) := lv.map (fun q => (q.1, m_tr X L q.2))
theorem m_lvt_ext {L2 : List Nat} {lv : List (Nat × Value)} (h : ∀ q ∈ lv, m_okv L.length q.2 = true) : m_lvt X (L ++ L2) lv = m_lvt X L lv :=
  List.map_congr_left (fun q hq => by rw [m_tr_ext (h q hq)])
theorem m_put1_t {lv : List (Nat × Value)} {k : Nat} {v : Value} : m_lvt X L (m_put1 lv k v) = (k, m_tr X L v) :: (m_lvt X L lv).filter (fun q => !(q.1 == k) && !(q.1 + 1 == k && q.2.category == 2)) := by
  unfold m_lvt m_put1
  rw [List.map_cons, List.filter_map]
  congr 2
  apply List.filter_congr
  intro q _
  simp [m_tr_cat]
theorem m_put2_t {lv : List (Nat × Value)} {k : Nat} {v : Value} : m_lvt X L (m_put2 lv k v) = (k, m_tr X L v) :: (m_lvt X L lv).filter (fun q => !(q.1 == k) && (!(q.1 == k + 1) && !(q.1 + 1 == k && q.2.category == 2))) := by
  unfold m_lvt m_put2
  rw [List.map_cons, List.filter_map]
  congr 2
  apply List.filter_congr
  intro q _
  simp [m_tr_cat]
theorem m_lv_get {nL k : Nat} {lv : List (Nat × Value)} {v : Value} (hl : lv_has ls nL (m_lvt X L lv)) (h : m_lv lv k = some v) : ls[k]? = some (.val (m_tr X L v)) := by
  unfold m_lv at h
  cases hf : lv.find? (fun q => q.1 == k) with
  | none => rw [hf] at h; cases h
  | some q =>
    rw [hf] at h
    cases h
    have h1 : q.1 = k := by simpa using List.find?_some hf
    have h2 := hl.2.2 (q.1, m_tr X L q.2) (List.mem_map.mpr ⟨q, List.mem_of_find?_eq_some hf, rfl⟩)
    rw [← h1]; exact h2
theorem m_lv_pos {k : Nat} {lv : List (Nat × Value)} {v : Value} (h : m_lv lv k = some v) : ∃ j : Nat, (m_lvt X L lv)[j]? = some (k, m_tr X L v) := by
  unfold m_lv at h
  cases hf : lv.find? (fun q => q.1 == k) with
  | none => rw [hf] at h; cases h
  | some q =>
    rw [hf] at h
    cases h
    have h1 : q.1 = k := by simpa using List.find?_some hf
    have h2 : (k, m_tr X L q.2) ∈ m_lvt X L lv := List.mem_map.mpr ⟨q, List.mem_of_find?_eq_some hf, by rw [h1]⟩
    exact List.mem_iff_getElem?.mp h2
theorem m_lo_sound (hx : p.tables.exec = Jvm.exec) (hb : c.code = cc) {nL : Nat} {lv lv' : List (Nat × Value)} (hl : lv_has ls nL (m_lvt X L lv)) (hd : decode cc pc = .ok (i, len)) (h : m_lo nL i lv st = some (len, lv', st'))
    (k : ∀ ls' : Array Slot, lv_has ls' nL (m_lvt X L lv') → W p l e R s m args below meth c H locs cells slots Q (F0 m (pc + len) ls' (st'.map (m_tr X L)))) : W p l e R s m args below meth c H locs cells slots Q (F0 m pc ls (st.map (m_tr X L))) := by
  unfold m_lo at h
  split at h
  · unfold m_ldi at h; split at h
    · rename_i h1; cases h; exact lv_iload hx hb hd (m_lv_get hl h1) (k ls hl)
    · cases h
  · unfold m_ldi at h; split at h
    · rename_i h1; cases h; exact lv_iload_n hx hb hd rfl (m_lv_get hl h1) (k ls hl)
    · cases h
  · unfold m_ldl at h; split at h
    · rename_i h1; cases h; exact lv_lload hx hb hd (m_lv_get hl h1) (k ls hl)
    · cases h
  · unfold m_ldl at h; split at h
    · rename_i h1; cases h; exact lv_lload_n hx hb hd rfl (m_lv_get hl h1) (k ls hl)
    · cases h
  · unfold m_lda at h; split at h
    · rename_i h1; cases h; exact lv_aload hx hb hd (m_lv_get hl h1) (k ls hl)
    · rename_i h1; cases h; exact lv_aloadN hx hb hd (m_lv_get hl h1) (k ls hl)
    · rename_i n h1; cases h
      have h2 := m_lv_get hl h1
      rw [show m_tr X L (.retAddr n) = m_op X from rfl] at h2
      have k2 := k ls hl
      rw [List.map_cons, show m_tr X L (.retAddr n) = m_op X from rfl] at k2
      rcases m_op_or X with h3 | ⟨a, h3⟩ <;> rw [h3] at h2 k2
      · exact lv_aloadN hx hb hd h2 k2
      · exact lv_aload hx hb hd h2 k2
    · cases h
  · unfold m_lda at h; split at h
    · rename_i h1; cases h; exact lv_aload_n hx hb hd rfl (m_lv_get hl h1) (k ls hl)
    · rename_i h1; cases h; exact lv_aload_nN hx hb hd rfl (m_lv_get hl h1) (k ls hl)
    · rename_i n h1; cases h
      have h2 := m_lv_get hl h1
      rw [show m_tr X L (.retAddr n) = m_op X from rfl] at h2
      have k2 := k ls hl
      rw [List.map_cons, show m_tr X L (.retAddr n) = m_op X from rfl] at k2
      rcases m_op_or X with h3 | ⟨a, h3⟩ <;> rw [h3] at h2 k2
      · exact lv_aload_nN hx hb hd rfl h2 k2
      · exact lv_aload_n hx hb hd rfl h2 k2
    · cases h
  · unfold m_sti at h; split at h
    · split at h
      · rename_i h1; cases h; exact lv_istore hx hb hd hl h1 (m_put1_t (v := Value.int _)).symm k
      · cases h
    · cases h
  · unfold m_sti at h; split at h
    · split at h
      · rename_i h1; cases h; exact lv_istore_n hx hb hd rfl hl h1 (m_put1_t (v := Value.int _)).symm k
      · cases h
    · cases h
  · unfold m_stl2 at h; split at h
    · split at h
      · rename_i h1; cases h; exact lv_lstore hx hb hd hl h1 (m_put2_t (v := Value.long _)).symm k
      · cases h
    · cases h
  · unfold m_stl2 at h; split at h
    · split at h
      · rename_i h1; cases h; exact lv_lstore_n hx hb hd rfl hl h1 (m_put2_t (v := Value.long _)).symm k
      · cases h
    · cases h
  · unfold m_sta at h; split at h
    · split at h
      · rename_i h1; cases h; exact lv_astore hx hb hd hl h1 (m_put1_t (v := Value.ref _)).symm k
      · cases h
    · split at h
      · rename_i h1; cases h; exact lv_astoreN hx hb hd hl h1 (m_put1_t (v := Value.null)).symm k
      · cases h
    · split at h
      · rename_i n r h1; cases h
        have e9 : m_tr X L (.retAddr n) = m_op X := rfl
        rw [List.map_cons, e9]
        rcases m_op_or X with h3 | ⟨a, h3⟩
        · rw [h3]; exact lv_astoreN hx hb hd hl h1 (by rw [m_put1_t, e9, h3]) k
        · rw [h3]; exact lv_astore hx hb hd hl h1 (by rw [m_put1_t, e9, h3]) k
      · cases h
    · cases h
  · unfold m_sta at h; split at h
    · split at h
      · rename_i h1; cases h; exact lv_astore_n hx hb hd rfl hl h1 (m_put1_t (v := Value.ref _)).symm k
      · cases h
    · split at h
      · rename_i h1; cases h; exact lv_astore_nN hx hb hd rfl hl h1 (m_put1_t (v := Value.null)).symm k
      · cases h
    · split at h
      · rename_i n r h1; cases h
        have e9 : m_tr X L (.retAddr n) = m_op X := rfl
        rw [List.map_cons, e9]
        rcases m_op_or X with h3 | ⟨a, h3⟩
        · rw [h3]; exact lv_astore_nN hx hb hd rfl hl h1 (by rw [m_put1_t, e9, h3]) k
        · rw [h3]; exact lv_astore_n hx hb hd rfl hl h1 (by rw [m_put1_t, e9, h3]) k
      · cases h
    · cases h
  · unfold m_inc at h; split at h
    · rename_i h0
      split at h
      · rename_i h1
        cases h
        obtain ⟨j, hj⟩ := m_lv_pos (X := X) (L := L) h0
        exact lv_iinc hx hb hd hl hj rfl h1 (m_put1_t (v := Value.int _)).symm k
      · cases h
    · cases h
  · cases h
theorem m_jmp_ok {off : Int} {t : Nat} (h : m_jmp pc off = some t) : (pc : Int) + off = (t : Int) := by
  unfold m_jmp at h
  split at h
  · rename_i h1; cases h; exact h1.symm
  · cases h
theorem m_mapj {off : Int} {r : List Value} {q : Nat × List Value} (h : (m_jmp pc off).map (fun t => (t, r)) = some q) : ∃ t, m_jmp pc off = some t ∧ q = (t, r) := by
  cases hj : m_jmp pc off with
  | none => rw [hj] at h; cases h
  | some t => rw [hj] at h; exact ⟨t, rfl, (Option.some.inj h).symm⟩
end MP
section MB
variable {p : Program} {l : Launch} {e : Env} {R : Room} {s : State} {m : MethodId} {args : Array Value} {below : List Frame} {meth : Method} {c : Code} {H : Heap} {locs : List Loc} {cells slots : Nat} {Q : State → Prop} {cc : ByteArray} {X : Nat → Nat} {L : List Nat} {pc len pc' : Nat} {ls : Array Slot} {i : Instr} {st st' : List Value}
theorem m_b1_inv {off : Int} {f : Int32 → Bool} (h : m_b1 pc off len f st = some (pc', st')) : ∃ (x : Int32) (r : List Value) (t : Nat), st = .int x :: r ∧ len = 3 ∧ (pc : Int) + off = (t : Int) ∧ st' = r ∧ pc' = if f x = true then t else pc + 3 := by
  unfold m_b1 at h
  split at h
  · split at h
    · rename_i h3
      obtain ⟨t, ht, e1⟩ := Option.map_eq_some_iff.mp h
      cases e1
      exact ⟨_, _, t, rfl, h3, m_jmp_ok ht, rfl, rfl⟩
    · cases h
  · cases h
theorem m_bb_inv {off : Int} {f : Int32 → Int32 → Bool} (h : m_bb pc off len f st = some (pc', st')) : ∃ (x y : Int32) (r : List Value) (t : Nat), st = .int y :: .int x :: r ∧ len = 3 ∧ (pc : Int) + off = (t : Int) ∧ st' = r ∧ pc' = if f x y = true then t else pc + 3 := by
  unfold m_bb at h
  split at h
  · split at h
    · rename_i h3
      obtain ⟨t, ht, e1⟩ := Option.map_eq_some_iff.mp h
      cases e1
      exact ⟨_, _, _, t, rfl, h3, m_jmp_ok ht, rfl, rfl⟩
    · cases h
  · cases h
theorem m_c1_sound {cnd : ClassFile.Cond} {off : Int} {x : Int32} {r : List Value} (hx : p.tables.exec = Jvm.exec) (hb : c.code = cc) (hd : decode cc pc = .ok (.ifCond cnd off, 3)) {tgt : Nat} (ht : (pc : Int) + off = (tgt : Int))
    (kt : m_c1 cnd x = true → W p l e R s m args below meth c H locs cells slots Q (F0 m tgt ls r)) (kf : m_c1 cnd x = false → W p l e R s m args below meth c H locs cells slots Q (F0 m (pc + 3) ls r)) : W p l e R s m args below meth c H locs cells slots Q (F0 m pc ls (.int x :: r)) := by
  cases cnd
  · exact lv_if_eq hx hb hd ht (fun h => kt (decide_eq_true h)) (fun h => kf (decide_eq_false h))
  · exact lv_if_ne hx hb hd ht (fun h => kt (decide_eq_true h)) (fun h => kf (decide_eq_false (fun g => g h)))
  · exact lv_if_lt hx hb hd ht (fun h => kt (decide_eq_true h)) (fun h => kf (decide_eq_false h))
  · exact lv_if_ge hx hb hd ht (fun h => kt (decide_eq_true h)) (fun h => kf (decide_eq_false h))
  · exact lv_if_gt hx hb hd ht (fun h => kt (decide_eq_true h)) (fun h => kf (decide_eq_false h))
  · exact lv_if_le hx hb hd ht (fun h => kt (decide_eq_true h)) (fun h => kf (decide_eq_false h))
theorem m_c2_sound {cnd : ClassFile.Cond} {off : Int} {x y : Int32} {r : List Value} (hx : p.tables.exec = Jvm.exec) (hb : c.code = cc) (hd : decode cc pc = .ok (.if_icmp cnd off, 3)) {tgt : Nat} (ht : (pc : Int) + off = (tgt : Int))
    (kt : m_c2 cnd x y = true → W p l e R s m args below meth c H locs cells slots Q (F0 m tgt ls r)) (kf : m_c2 cnd x y = false → W p l e R s m args below meth c H locs cells slots Q (F0 m (pc + 3) ls r)) : W p l e R s m args below meth c H locs cells slots Q (F0 m pc ls (.int y :: .int x :: r)) := by
  cases cnd
  · exact lv_icmp_eq hx hb hd ht (fun h => kt (decide_eq_true h)) (fun h => kf (decide_eq_false h))
  · exact lv_icmp_ne hx hb hd ht (fun h => kt (decide_eq_true h)) (fun h => kf (decide_eq_false (fun g => g h)))
  · exact lv_icmp_lt hx hb hd ht (fun h => kt (decide_eq_true h)) (fun h => kf (decide_eq_false h))
  · exact lv_icmp_ge hx hb hd ht (fun h => kt (decide_eq_true h)) (fun h => kf (decide_eq_false h))
  · exact lv_icmp_gt hx hb hd ht (fun h => kt (decide_eq_true h)) (fun h => kf (decide_eq_false h))
  · exact lv_icmp_le hx hb hd ht (fun h => kt (decide_eq_true h)) (fun h => kf (decide_eq_false h))
theorem m_rf_t {v : Value} {x : Option Nat} (h : m_rf v = some x) : m_tr X L v = va_rf (x.map (m_ad X L)) := by
  cases v <;> cases h <;> rfl
theorem m_ad_ne {x y : Nat} (hN : ∀ (i j a : Nat), L[i]? = some a → L[j]? = some a → i = j) (hE : ∀ (k i a : Nat), k < 512 → L[i]? = some a → a ≠ X k) (hne : ¬ x = y) (h : m_apart L.length (some x) (some y) = true) : m_ad X L x ≠ m_ad X L y := by
  simp only [m_apart, Bool.and_eq_true, Bool.or_eq_true, decide_eq_true_eq] at h
  obtain ⟨⟨h0, hx⟩, hy⟩ := h
  have key : ∀ z : Nat, ¬ z < 512 → z < 512 + L.length → L[z - 512]? = some (m_ad X L z) := fun z h1 h2 => by
    unfold m_ad
    rw [if_neg h1, List.getD_eq_getElem?_getD]
    cases hz : L[z - 512]? with
    | none => rw [List.getElem?_eq_none_iff] at hz; omega
    | some a => rfl
  intro e1
  by_cases h1 : x < 512
  · by_cases h2 : y < 512
    · omega
    · exact hE x _ _ h1 (key y h2 hy) (by rw [← e1]; unfold m_ad; rw [if_pos h1])
  · by_cases h2 : y < 512
    · exact hE y _ _ h2 (key x h1 hx) (by rw [e1]; unfold m_ad; rw [if_pos h2])
    · have := hN _ _ _ (key x h1 hx) (by rw [e1]; exact key y h2 hy)
      omega
theorem m_br_sound (hx : p.tables.exec = Jvm.exec) (hb : c.code = cc) (hN : ∀ (i j a : Nat), L[i]? = some a → L[j]? = some a → i = j) (hE : ∀ (k i a : Nat), k < 512 → L[i]? = some a → a ≠ X k) (hd : decode cc pc = .ok (i, len)) (h : m_br L.length pc i len st = some (pc', st'))
    (k : W p l e R s m args below meth c H locs cells slots Q (F0 m pc' ls (st'.map (m_tr X L)))) : W p l e R s m args below meth c H locs cells slots Q (F0 m pc ls (st.map (m_tr X L))) := by
  unfold m_br at h
  split at h
  · obtain ⟨x, r, t, rfl, rfl, ht, rfl, rfl⟩ := m_b1_inv h
    exact m_c1_sound hx hb hd ht (fun h1 => by rw [if_pos h1] at k; exact k) (fun h1 => by rw [if_neg (by rw [h1]; decide)] at k; exact k)
  · obtain ⟨x, y, r, t, rfl, rfl, ht, rfl, rfl⟩ := m_bb_inv h
    exact m_c2_sound hx hb hd ht (fun h1 => by rw [if_pos h1] at k; exact k) (fun h1 => by rw [if_neg (by rw [h1]; decide)] at k; exact k)
  · unfold m_bn at h
    split at h
    · split at h
      · rename_i h3; subst h3
        obtain ⟨t, ht, e1⟩ := Option.map_eq_some_iff.mp h
        cases e1
        exact lv_ifnullN hx hb hd (m_jmp_ok ht) k
      · cases h
    · split at h
      · rename_i h3; subst h3
        obtain ⟨t, ht, e1⟩ := Option.map_eq_some_iff.mp h
        cases e1
        exact lv_ifnull hx hb hd k
      · cases h
    · cases h
  · unfold m_bn at h
    split at h
    · split at h
      · rename_i h3; subst h3
        obtain ⟨t, ht, e1⟩ := Option.map_eq_some_iff.mp h
        cases e1
        exact lv_ifnonnullN hx hb hd k
      · cases h
    · split at h
      · rename_i h3; subst h3
        obtain ⟨t, ht, e1⟩ := Option.map_eq_some_iff.mp h
        cases e1
        exact lv_ifnonnull hx hb hd (m_jmp_ok ht) k
      · cases h
    · cases h
  · unfold m_ba at h
    split at h
    · rename_i vb va r
      split at h
      · rename_i x y hxa hyb
        split at h
        · rename_i h3
          obtain ⟨rfl, h4⟩ := h3
          obtain ⟨t, ht, e1⟩ := Option.map_eq_some_iff.mp h
          cases e1
          show W p l e R s m args below meth c H locs cells slots Q (F0 m pc ls (m_tr X L vb :: m_tr X L va :: st'.map (m_tr X L)))
          rw [m_rf_t hxa, m_rf_t hyb]
          refine lv_acmp_eq hx hb hd (m_jmp_ok ht) (fun h1 => ?_) (fun h1 => ?_)
          · by_cases hxy : x = y
            · simpa [hxy] using k
            · exfalso
              have h5 := h4.resolve_left hxy
              cases x with
              | none => cases y with
                | none => exact hxy rfl
                | some b => cases h1
              | some a => cases y with
                | none => cases h1
                | some b => exact m_ad_ne hN hE (fun e2 => hxy (by rw [e2])) h5 (Option.some.inj h1)
          · have hxy : ¬ x = y := fun e2 => h1 (by rw [e2])
            simpa [hxy] using k
        · cases h
      · cases h
    · cases h
  · unfold m_ba at h
    split at h
    · rename_i vb va r
      split at h
      · rename_i x y hxa hyb
        split at h
        · rename_i h3
          obtain ⟨rfl, h4⟩ := h3
          obtain ⟨t, ht, e1⟩ := Option.map_eq_some_iff.mp h
          cases e1
          show W p l e R s m args below meth c H locs cells slots Q (F0 m pc ls (m_tr X L vb :: m_tr X L va :: st'.map (m_tr X L)))
          rw [m_rf_t hxa, m_rf_t hyb]
          refine lv_acmp_ne hx hb hd (m_jmp_ok ht) (fun h1 => ?_) (fun h1 => ?_)
          · have hxy : ¬ x = y := fun e2 => h1 (by rw [e2])
            simpa [hxy] using k
          · by_cases hxy : x = y
            · simpa [hxy] using k
            · exfalso
              have h5 := h4.resolve_left hxy
              cases x with
              | none => cases y with
                | none => exact hxy rfl
                | some b => cases h1
              | some a => cases y with
                | none => cases h1
                | some b => exact m_ad_ne hN hE (fun e2 => hxy (by rw [e2])) h5 (Option.some.inj h1)
        · cases h
      · cases h
    · cases h
  · split at h
    · rename_i h3; subst h3
      obtain ⟨t, ht, e1⟩ := Option.map_eq_some_iff.mp h
      cases e1
      exact lv_goto hx hb hd (m_jmp_ok ht) k
    · cases h
  · unfold m_tsw at h
    split at h
    · split at h
      · rename_i h1
        obtain ⟨t, ht, e1⟩ := Option.map_eq_some_iff.mp h
        cases e1
        exact lv_tableOut hx hb hd h1 (m_jmp_ok ht) k
      · rename_i h1
        split at h
        · rename_i ho
          obtain ⟨t, ht, e1⟩ := Option.map_eq_some_iff.mp h
          cases e1
          exact lv_tableIn hx hb hd (fun g => h1 (Or.inl g)) (fun g => h1 (Or.inr g)) ho (m_jmp_ok ht) k
        · cases h
    · cases h
  · unfold m_lsw at h
    split at h
    · split at h
      · rename_i h1
        obtain ⟨t, ht, e1⟩ := Option.map_eq_some_iff.mp h
        cases e1
        exact lv_lookup hx hb hd h1 rfl (m_jmp_ok ht) k
      · cases h
    · cases h
  · cases h
end MB
end
section
/-! The small machine's steps on the world are steps of the machine. -/
/-- what a walk of a method needs of its own names (its code's word apart) -/
def m_bOk (I : mI) : Prop := True ∧ True ∧ True ∧ True ∧ True ∧ (∀ q ∈ I.2.2.2.2.2.1, m_fOk I.1 q) ∧ (∀ q ∈ I.2.2.2.2.2.2.1, m_cOk I.1 q) ∧ (∀ q ∈ I.2.2.2.2.2.2.2.1, m_oOk I.1 q) ∧ ∀ q ∈ I.2.2.2.2.2.2.2.2, decode I.2.1 q.1 = .ok (q.2.1, q.2.2)
theorem m_mOk.body {I : mI} (h : m_mOk I) : m_bOk I := ⟨trivial, trivial, trivial, trivial, trivial, h.2.2.2.2.2⟩
def m_tys (dA : Nat → ClassId) : List (ClassId × FieldType) := m_tyl.mapIdx (fun t ty => (dA t, ty))
theorem m_tys_get {dA : Nat → ClassId} {t : Nat} {ty : FieldType} (h : m_tyl[t]? = some ty) : (m_tys dA)[t]? = some (dA t, ty) := by
  unfold m_tys; rw [List.getElem?_mapIdx, h]; rfl
def m_Kx (D : va_G) (dA : Nat → ClassId) (U : State) : Prop := va_K D m_cl (m_tys dA) U ∧ (∀ w ∈ m_nw, va_Nw w U) ∧ (∀ C ∈ m_obl, va_AO C U)
/-- an outside text: its object X k, its bytes X (k + 200) -/
def m_Sx (X : Nat → Nat) (A : Nat → Prop) (U : State) (H : Heap) (k : Nat) : Prop := va_O "java/lang/String" (X k) A U H ∧ va_OF "java/lang/String" "coder" "B" (.int 0) (X k) A U H ∧ va_OF "java/lang/String" "value" "[B" (.ref (X (k + 200))) (X k) A U H ∧ va_T .byte (X (k + 200)) (m_xbl.getD (k - 1) []).length (fun j => .int ((m_xbl.getD (k - 1) []).getD j 0)) A U H
def m_Ex (X : Nat → Nat) (A : Nat → Prop) (U : State) (H : Heap) : Prop := (∀ q ∈ m_stl, va_Z q.1 q.2.1 q.2.2.1 (m_tr X [] q.2.2.2) A U H) ∧ (∀ k, k < 512 → ¬ A (X k)) ∧ (∀ q ∈ m_sxl, vk_R q.1 q.2.1 q.2.2.1 (X q.2.2.2) U) ∧ (∀ k, 1 ≤ k → k ≤ m_sN → m_Sx X A U H k) ∧ va_T (.object "java/lang/Object") (X 0) 0 (fun _ => .null) A U H
def m_St (D : va_G) (dA : Nat → ClassId) (X : Nat → Nat) (A : Nat → Prop) (H0 H : Heap) (locs : List Loc) (L : List Nat) (w : List mM) : Prop := L.length = w.length ∧ m_okw w.length w ∧ va_P D m_cl (m_wd X L dA w) H ∧ va_D A (m_wd X L dA w) ∧ va_S A H0 H locs
theorem m_fe_mem {I : mI} {k : Nat} {q : Nat × Nat × Nat} (h : m_fe I k = some q) : (k, q) ∈ I.2.2.2.2.2.1 := by
  unfold m_fe at h
  obtain ⟨x, hx, rfl⟩ := Option.map_eq_some_iff.mp h
  have h1 : x.1 = k := by simpa using List.find?_some hx
  have h2 := List.mem_of_find?_eq_some hx
  rw [← h1]; exact h2
theorem m_ce_mem {I : mI} {k : Nat} {q : Nat × Nat × Nat} (h : m_ce I k = some q) : (k, q) ∈ I.2.2.2.2.2.2.1 := by
  unfold m_ce at h
  obtain ⟨x, hx, rfl⟩ := Option.map_eq_some_iff.mp h
  have h1 : x.1 = k := by simpa using List.find?_some hx
  have h2 := List.mem_of_find?_eq_some hx
  rw [← h1]; exact h2
theorem m_oe_mem {I : mI} {kd k : Nat} {q : Nat × Value} (h : m_oe I kd k = some q) : (k, kd, q) ∈ I.2.2.2.2.2.2.2.1 := by
  unfold m_oe at h
  obtain ⟨x, hx, rfl⟩ := Option.map_eq_some_iff.mp h
  have h1 : x.1 = k ∧ x.2.1 = kd := by simpa using List.find?_some hx
  have h2 := List.mem_of_find?_eq_some hx
  rw [← h1.1, ← h1.2]; exact h2
theorem m_de_ok {I : mI} {pc : Nat} {i : Instr} {len : Nat} (hI : m_bOk I) (h : m_de I pc = some (i, len)) : decode I.2.1 pc = .ok (i, len) := by
  unfold m_de at h
  obtain ⟨x, hx, e1⟩ := Option.map_eq_some_iff.mp h
  have h1 : x.1 = pc := by simpa using List.find?_some hx
  have h2 := hI.2.2.2.2.2.2.2.2 x (List.mem_of_find?_eq_some hx)
  rw [← h1, h2, e1]
theorem m_at_ok {w : List mM} {a : Nat} {q : mM} (h : m_at w a = some q) : ¬ a < 512 ∧ w[a - 512]? = some q := by
  unfold m_at at h
  split at h
  · cases h
  · rename_i h1; exact ⟨h1, h⟩
theorem m_at_L {X : Nat → Nat} {L : List Nat} {w : List mM} {a : Nat} {q : mM} (hL : L.length = w.length) (h : m_at w a = some q) : L[a - 512]? = some (m_ad X L a) ∧ w[a - 512]? = some q := by
  obtain ⟨h1, h2⟩ := m_at_ok h
  have h3 : a - 512 < L.length := by rw [hL]; exact (List.getElem?_eq_some_iff.mp h2).1
  refine ⟨?_, h2⟩
  unfold m_ad
  rw [if_neg h1, List.getD_eq_getElem?_getD, List.getElem?_eq_getElem h3]; rfl
theorem m_tr_stat {X : Nat → Nat} {L : List Nat} {v : Value} (h : m_okv 0 v = true) : m_tr X L v = m_tr X [] v := by
  have := m_tr_ext (X := X) (L := []) (L2 := L) (v := v) h
  simpa using this
theorem m_stl_ok : ∀ q ∈ m_stl, m_okv 0 q.2.2.2 = true := by decide
section MH
variable {p : Program} {l : Launch} {e : Env} {R : Room} {s : State} {m : MethodId} {args : Array Value} {below : List Frame} {meth : Method} {c : Code} {H : Heap} {locs : List Loc} {cells slots : Nat} {Q : State → Prop} {I : mI} {X : Nat → Nat} {L : List Nat} {pc len : Nat} {ls : Array Slot} {i : Instr} {st st' : List Value} {w w' : List mM} {D : va_G} {dA : Nat → ClassId} {A : Nat → Prop} {H0 : Heap} {dc ds : Nat}
theorem m_getf_sound (hx : p.tables.exec = Jvm.exec) (hb : c.code = I.2.1) (hown : s.vm.findClass I.1.cls = some m.cls) (hts : ∀ w ∈ m_gt, w.before args s = true) (hK : m_Kx D dA s) (hI : m_bOk I) (hS : m_St D dA X A H0 H locs L w) {k : Nat} (hd : decode I.2.1 pc = .ok (.getfield k, len)) (h : m_getf I k st w = some (len, st', w', dc, ds))
    (kk : w' = w → dc = 0 → ds = 0 → W p l e R s m args below meth c H locs cells slots Q (F0 m (pc + len) ls (st'.map (m_tr X L)))) : W p l e R s m args below meth c H locs cells slots Q (F0 m pc ls (st.map (m_tr X L))) := by
  unfold m_getf at h
  split at h
  · rename_i a r
    split at h
    · rename_i ci fk fl cj fs hf ha
      split at h
      · rename_i hc
        subst hc
        split at h
        · rename_i v hv
          cases h
          obtain ⟨rr, h1, h2, ⟨ref, h3, h4⟩, -, -⟩ := hI.2.2.2.2.2.1 _ (m_fe_mem hf)
          obtain ⟨h5, h6⟩ := m_at_L (X := X) hS.1 ha
          have ok := m_cl_ok ci rr h1
          refine va_get (C := rr.1) (T := rr.2.1) (N := rr.2.2) (ci := ci) (a := m_ad X L a) hx hb hts ok.1 hown hK.1 hS.2.2.1 (a - 512) (m_wd_get (dA := dA) h5 h6) h1 fk h2 (hts _ h3) ?_ (v := m_tr X L v) (by rw [List.getElem?_map, hv]; rfl) hd (kk rfl rfl rfl)
          rcases h4 with h4 | h4
          · intro x hx9; rw [h4]; exact hx9
          · exact u_same (hts _ h4)
        · cases h
      · cases h
    · cases h
  · cases h
theorem m_putf_sound (hx : p.tables.exec = Jvm.exec) (hb : c.code = I.2.1) (hown : s.vm.findClass I.1.cls = some m.cls) (hts : ∀ w ∈ m_gt, w.before args s = true) (hnm : meth.name = I.1.name) (hK : m_Kx D dA s) (hI : m_bOk I) (hS : m_St D dA X A H0 H locs L w) {k : Nat} (hd : decode I.2.1 pc = .ok (.putfield k, len)) (h : m_putf I k st w = some (len, st', w', dc, ds))
    (kk : ∀ (H1 : Heap) (locs1 : List Loc), m_St D dA X A H0 H1 locs1 L w' → dc = 0 → ds = 0 → W p l e R s m args below meth c H1 locs1 cells slots Q (F0 m (pc + len) ls (st'.map (m_tr X L)))) : W p l e R s m args below meth c H locs cells slots Q (F0 m pc ls (st.map (m_tr X L))) := by
  unfold m_putf at h
  split at h
  · rename_i v a r
    split at h
    · rename_i ci fk fl cj fs hf ha
      split at h
      · rename_i ty hty
        split at h
        · rename_i hc
          obtain ⟨rfl, hfl, hfs, hnar, hfit, hokv⟩ := hc
          cases h
          obtain ⟨rr, h1, h2, ⟨ref, h3, h4⟩, hq1, hq2⟩ := hI.2.2.2.2.2.1 _ (m_fe_mem hf)
          obtain ⟨h5, h6⟩ := m_at_L (X := X) hS.1 ha
          have ok := m_cl_ok ci rr h1
          have hty2 : (m_fl.getD ci []).getD fk .int = ty := by
            unfold m_ft at hty
            cases hci : m_fl[ci]? with
            | none => rw [hci] at hty; cases hty
            | some fl2 =>
              rw [hci] at hty
              have e0 : m_fl.getD ci [] = fl2 := by rw [List.getD_eq_getElem?_getD, hci]; rfl
              rw [e0, List.getD_eq_getElem?_getD, show fl2[fk]? = some ty from hty]; rfl
          have hd2 : parseFieldDescriptor (rr.2.1 fk).2.2.1 = some ty := by rw [ok.2.1 fk h2, hty2]
          have hsame : ∀ x, s.fieldFound? (rr.2.1 fk).1 (rr.2.1 fk).2.1 (rr.2.1 fk).2.2.1 = some x → s.fieldFound? ref (rr.2.1 fk).2.1 (rr.2.1 fk).2.2.1 = some x := by
            rcases h4 with h4 | h4
            · intro x hx9; rw [h4]; exact hx9
            · exact u_same (hts _ h4)
          have hfin : ∀ (H1 : Heap) (locs1 : List Loc), va_P D m_cl ((m_wd X L dA w).set (a - 512) (m_ad X L a, .inr (ci, (fs.map (m_tr X L)).set fk (m_tr X L v)))) H1 → va_D A ((m_wd X L dA w).set (a - 512) (m_ad X L a, .inr (ci, (fs.map (m_tr X L)).set fk (m_tr X L v)))) → va_S A H0 H1 locs1 → W p l e R s m args below meth c H1 locs1 cells slots Q (F0 m (pc + 3) ls (st'.map (m_tr X L))) := by
            intro H1 locs1 g1 g2 g3
            have e1 : m_cell X L dA (.inr (ci, fs.set fk v)) = .inr (ci, (fs.map (m_tr X L)).set fk (m_tr X L v)) := by
              show Sum.inr (ci, (fs.set fk v).map (m_tr X L)) = _
              rw [List.map_set]
            rw [← e1, ← m_wd_set h5] at g1 g2
            refine kk H1 locs1 ⟨by rw [List.length_set]; exact hS.1, ?_, g1, g2, g3⟩ rfl rfl
            rw [List.length_set]
            exact m_okw_set hS.2.1 (m_okc_set (hS.2.1 _ (List.mem_of_getElem? h6)) hokv)
          rcases hfl with hfl | hfl
          · exact va_put (C := rr.1) (T := rr.2.1) (N := rr.2.2) (ci := ci) (a := m_ad X L a) hx hb hts ok.1 (fun k => (m_fl.getD ci []).getD k .int) ok.2.1 ok.2.2.1 hown hK.1 hS.2.2.1 hS.2.2.2.1 hS.2.2.2.2 (a - 512) (m_wd_get (dA := dA) h5 h6) h1 fk h2 (hts _ h3) hsame (hq1 hfl) (v := m_tr X L v) hd2 (m_tr_narrow X L ty v hnar) (m_tr_fits X L ty v hfit) (by rw [List.length_map]; exact hfs) hd hfin
          · obtain ⟨g1, g2, g3⟩ := hq2 hfl
            exact va_putF (C := rr.1) (T := rr.2.1) (N := rr.2.2) (ci := ci) (a := m_ad X L a) hx hb hts ok.1 (fun k => (m_fl.getD ci []).getD k .int) ok.2.1 ok.2.2.1 hown hK.1 hS.2.2.1 hS.2.2.2.1 hS.2.2.2.2 (a - 512) (m_wd_get (dA := dA) h5 h6) h1 fk h2 (hts _ h3) hsame g1 (by rw [hnm]; exact g2) g3 (v := m_tr X L v) hd2 (m_tr_narrow X L ty v hnar) (m_tr_fits X L ty v hfit) (by rw [List.length_map]; exact hfs) hd hfin
        · cases h
      · cases h
    · cases h
  · cases h
theorem m_RA_uniq {U : State} {a b : ClassId} {ty : FieldType} (h1 : va_RA U a ty) (h2 : va_RA U b ty) : a = b := by
  cases ty with
  | object C =>
    obtain ⟨_, _, _, _, _, h4⟩ := h1
    obtain ⟨_, _, _, _, _, g4⟩ := h2
    exact Option.some.inj (h4.symm.trans g4)
  | _ => exact Option.some.inj (h1.symm.trans h2)
theorem m_new_sound (hx : p.tables.exec = Jvm.exec) (hb : c.code = I.2.1) (hown : s.vm.findClass I.1.cls = some m.cls) (hts : ∀ w ∈ m_gt, w.before args s = true) (hK : m_Kx D dA s) (hA : ∀ q, H0.size ≤ q → A q) (hI : m_bOk I) (hS : m_St D dA X A H0 H locs L w) {k : Nat} (hd : decode I.2.1 pc = .ok (.new k, len)) (h : m_new I k st w = some (len, st', w', dc, ds)) (hok : m_oks L.length st) (hc : cells + dc ≤ R.cells) (hs : slots + ds ≤ R.slots)
    (kk : ∀ (H1 : Heap) (a : Nat), m_St D dA X A H0 H1 locs (L ++ [a]) w' → W p l e R s m args below meth c H1 locs (cells + dc) (slots + ds) Q (F0 m (pc + len) ls (st'.map (m_tr X (L ++ [a]))))) : W p l e R s m args below meth c H locs cells slots Q (F0 m pc ls (st.map (m_tr X L))) := by
  unfold m_new at h
  split at h
  · rename_i ci v0 ho
    split at h
    · rename_i fs hfs
      cases h
      obtain ⟨rr, h1, h2, h3, h4⟩ := (hI.2.2.2.2.2.2.2.1 _ (m_oe_mem ho)).1 rfl
      have ok := m_cl_ok ci rr h1
      have e0 : m_fd.getD ci [] = fs := by rw [List.getD_eq_getElem?_getD, hfs]; rfl
      have hlen : fs.length = rr.2.2 := by rw [← e0]; exact ok.2.2.2.2.1
      have hall : fs.all (m_okv 0) = true := by rw [← e0]; exact ok.2.2.2.2.2.2
      rw [hlen] at hs kk
      refine va_new (C := rr.1) (T := rr.2.1) (N := rr.2.2) (ci := ci) (fs := fs.map (m_tr X L)) hx hb hts ok.1 (fun k => (m_fl.getD ci []).getD k .int) ok.2.1 hown (hts _ h2) (hts _ h3) (hts _ h4) hK.1 hS.2.2.1 hS.2.2.2.1 hS.2.2.2.2 hA h1 ?_ hc hs hd ?_
      · intro j hj
        rw [ok.2.2.2.2.2.1 j hj, e0]
        unfold vp_V
        rw [List.getD_eq_getElem?_getD, List.getD_eq_getElem?_getD, List.getElem?_map]
        cases hj2 : fs[j]? with
        | none => rfl
        | some v =>
          have hv := List.all_eq_true.mp hall v (List.mem_of_getElem? hj2)
          show v = m_tr X L v
          rw [m_tr_stat hv]
          have hdj := ok.2.2.2.2.2.1 j hj
          rw [e0] at hdj
          unfold vp_V at hdj
          rw [List.getD_eq_getElem?_getD (l := fs), hj2] at hdj
          have hdj : defaultValue ((m_fl.getD ci []).getD j .int) = v := hdj
          rw [← hdj]
          cases (m_fl.getD ci []).getD j .int <;> rfl
      · intro q H1 g1 g2 g3
        have hL : (L ++ [q]).length = (w ++ [Sum.inr (ci, fs)]).length := by rw [List.length_append, List.length_append, hS.1]; rfl
        have hokw : m_okw L.length w := by rw [hS.1]; exact hS.2.1
        have hall2 : ∀ n, fs.all (m_okv n) = true := fun n => List.all_eq_true.mpr (fun v hv => m_okv_mono (List.all_eq_true.mp hall v hv) (Nat.zero_le n))
        have e1 : m_cell X (L ++ [q]) dA (.inr (ci, fs)) = .inr (ci, fs.map (m_tr X L)) := m_cell_ext (q := .inr (ci, fs)) (hall2 L.length)
        have e2 : m_wd X (L ++ [q]) dA (w ++ [.inr (ci, fs)]) = m_wd X L dA w ++ [(q, .inr (ci, fs.map (m_tr X L)))] := by rw [m_wd_push hS.1 hokw, e1]
        have e3 : (Value.ref (512 + w.length) :: st).map (m_tr X (L ++ [q])) = .ref q :: st.map (m_tr X L) := by
          rw [List.map_cons, m_trs_ext hok]
          congr 1
          show Value.ref (m_ad X (L ++ [q]) (512 + w.length)) = .ref q
          congr 1
          unfold m_ad
          rw [if_neg (by omega), List.getD_eq_getElem?_getD, show 512 + w.length - 512 = L.length by rw [hS.1]; omega]
          simp
        have g := kk H1 q ⟨hL, ?_, by rw [e2]; exact g1, by rw [e2]; exact g2, g3⟩
        · rw [e3] at g; exact g
        · rw [List.length_append]
          exact m_okw_push hS.2.1 (hall2 _)
    · cases h
  · cases h
end MH
end
section
/-! The small machine's steps on arrays, statics and constants are steps of the machine. -/
theorem m_lt64 {k n : Nat} (h1 : ¬ k < 512) (h2 : k - 512 < n) : k < 512 + n := by omega
theorem m_el_nil (t j : Nat) : m_el t [] j = m_zero t := rfl
theorem m_acw {t : ArrayType} {k : Nat} (h : m_aty t = some k) : Cond.arrayClass (newarray.typeOf t) ∈ m_gt ∧ m_tyl[k]? = some (newarray.typeOf t) ∧ k < 6 := by
  cases t <;> cases h
  · exact ⟨m_ac_boolean, rfl, by decide⟩
  · exact ⟨m_ac_char, rfl, by decide⟩
  · exact ⟨m_ac_byte, rfl, by decide⟩
  · exact ⟨m_ac_int, rfl, by decide⟩
  · exact ⟨m_ac_long, rfl, by decide⟩
theorem m_arr0 {t : ArrayType} {k : Nat} (h : m_aty t = some k) (X : Nat → Nat) (L : List Nat) (N : Nat) (cA : ClassId) : vp_cell cA (m_arr X L k N []) = arrV cA N (fun _ => defaultValue (newarray.typeOf t)) := by
  cases t <;> cases h <;> rfl
theorem m_arrq0 {t : Nat} (h6 : ¬ t < 6) (X : Nat → Nat) (L : List Nat) (N : Nat) : m_arr X L t N [] = (N, .inr (.inr (.inr (.inr (fun _ => none))))) := by
  rw [m_arr_q h6]
  have e0 : m_zero t = .null := by unfold m_zero; rw [if_neg (by omega), if_neg h6]
  congr 5
  funext j
  rw [m_el_nil, e0]; rfl
theorem m_cb (ty : FieldType) : componentBytes ty ≤ 8 := by cases ty <;> exact Nat.le_of_ble_eq_true rfl
section MA
variable {p : Program} {l : Launch} {e : Env} {R : Room} {s : State} {m : MethodId} {args : Array Value} {below : List Frame} {meth : Method} {c : Code} {H : Heap} {locs : List Loc} {cells slots : Nat} {Q : State → Prop} {I : mI} {X : Nat → Nat} {L : List Nat} {pc len : Nat} {ls : Array Slot} {i : Instr} {st st' : List Value} {w w' : List mM} {D : va_G} {dA : Nat → ClassId} {A : Nat → Prop} {H0 : Heap} {dc ds : Nat}
/-- a new cell at the world's end -/
theorem m_St_push (hS : m_St D dA X A H0 H locs L w) {q : mM} {a : Nat} {H1 : Heap} {e1 : va_E} (he : m_cell X L dA q = e1) (hq : m_okc L.length q = true) (g1 : va_P D m_cl (m_wd X L dA w ++ [(a, e1)]) H1) (g2 : va_D A (m_wd X L dA w ++ [(a, e1)])) (g3 : va_S A H0 H1 locs) : m_St D dA X A H0 H1 locs (L ++ [a]) (w ++ [q]) := by
  have hokw : m_okw L.length w := by rw [hS.1]; exact hS.2.1
  have e2 : m_wd X (L ++ [a]) dA (w ++ [q]) = m_wd X L dA w ++ [(a, e1)] := by rw [m_wd_push hS.1 hokw, m_cell_ext hq, he]
  refine ⟨by rw [List.length_append, List.length_append, hS.1]; rfl, ?_, by rw [e2]; exact g1, by rw [e2]; exact g2, g3⟩
  rw [List.length_append]
  exact m_okw_push hS.2.1 (m_okc_mono hq (by rw [hS.1]; exact Nat.le_succ _))
theorem m_st_push {a : Nat} (hL : L.length = w.length) (hok : m_oks L.length st) : (Value.ref (512 + w.length) :: st).map (m_tr X (L ++ [a])) = .ref a :: st.map (m_tr X L) := by
  rw [List.map_cons, m_trs_ext hok]
  congr 1
  show Value.ref (m_ad X (L ++ [a]) (512 + w.length)) = .ref a
  congr 1
  unfold m_ad
  rw [if_neg (by omega), List.getD_eq_getElem?_getD, show 512 + w.length - 512 = L.length by rw [hL]; omega]
  simp
theorem m_mka_inv {t : Nat} (h : m_mka t len st w = some (len, st', w', dc, ds)) : ∃ (n : Int32) (r : List Value), st = .int n :: r ∧ ¬ n < 0 ∧ n.toNatClampNeg ≤ 65536 ∧ st' = .ref (512 + w.length) :: r ∧ w' = w ++ [.inl (t, n.toNatClampNeg, [])] ∧ dc = 1 ∧ ds = n.toNatClampNeg := by
  unfold m_mka at h
  split at h
  · split at h
    · cases h
    · rename_i h1
      cases h
      exact ⟨_, _, rfl, fun g => h1 (Or.inl g), by omega, rfl, rfl, rfl, rfl⟩
  · cases h
theorem m_newa_sound (hx : p.tables.exec = Jvm.exec) (hb : c.code = I.2.1) (hts : ∀ w ∈ m_gt, w.before args s = true) (hK : m_Kx D dA s) (hA : ∀ q, H0.size ≤ q → A q) (hS : m_St D dA X A H0 H locs L w) {t : ArrayType} (hd : decode I.2.1 pc = .ok (.newarray t, len)) (h : m_newa t st w = some (len, st', w', dc, ds)) (hok : m_oks L.length st) (hc : cells + dc ≤ R.cells) (hs : slots + ds ≤ R.slots)
    (kk : ∀ (H1 : Heap) (a : Nat), m_St D dA X A H0 H1 locs (L ++ [a]) w' → W p l e R s m args below meth c H1 locs (cells + dc) (slots + ds) Q (F0 m (pc + len) ls (st'.map (m_tr X (L ++ [a]))))) : W p l e R s m args below meth c H locs cells slots Q (F0 m pc ls (st.map (m_tr X L))) := by
  unfold m_newa at h
  split at h
  · rename_i k hk
    have hlen : len = 2 := by
      unfold m_mka at h; split at h
      · split at h <;> cases h; rfl
      · cases h
    subst hlen
    obtain ⟨n, r, rfl, h1, h2, rfl, rfl, rfl, rfl⟩ := m_mka_inv h
    obtain ⟨g1, g2, g6⟩ := m_acw hk
    refine va_newa hx hb (hts _ g1) rfl hK.1 hS.2.2.1 hS.2.2.2.1 hS.2.2.2.2 hA (a0 := m_arr X L k n.toNatClampNeg []) (m_arr0 hk X L _) h1 rfl ?_ hc hs hd ?_
    · calc n.toNatClampNeg * componentBytes (newarray.typeOf t) ≤ 65536 * 8 := Nat.mul_le_mul h2 (m_cb _)
        _ ≤ 536870912 := by decide
    · intro q cA H1 k1 k2 k3 k4
      have e1 : cA = dA k := m_RA_uniq (k1.2 (m_tys dA).length (cA, newarray.typeOf t) (by simp)).2 (hK.1.2 k _ (m_tys_get g2)).2
      subst e1
      have g := kk H1 q (m_St_push hS (q := .inl (k, n.toNatClampNeg, [])) rfl (by simp [m_okc]) k2 k3 k4)
      rw [m_st_push hS.1 (fun v hv => hok v (List.mem_cons_of_mem _ hv))] at g
      exact g
  · cases h
theorem m_anew_sound (hx : p.tables.exec = Jvm.exec) (hb : c.code = I.2.1) (hown : s.vm.findClass I.1.cls = some m.cls) (hts : ∀ w ∈ m_gt, w.before args s = true) (hK : m_Kx D dA s) (hA : ∀ q, H0.size ≤ q → A q) (hI : m_bOk I) (hS : m_St D dA X A H0 H locs L w) {k : Nat} (hd : decode I.2.1 pc = .ok (.anewarray k, len)) (h : m_anew I k st w = some (len, st', w', dc, ds)) (hok : m_oks L.length st) (hc : cells + dc ≤ R.cells) (hs : slots + ds ≤ R.slots)
    (kk : ∀ (H1 : Heap) (a : Nat), m_St D dA X A H0 H1 locs (L ++ [a]) w' → W p l e R s m args below meth c H1 locs (cells + dc) (slots + ds) Q (F0 m (pc + len) ls (st'.map (m_tr X (L ++ [a]))))) : W p l e R s m args below meth c H locs cells slots Q (F0 m pc ls (st.map (m_tr X L))) := by
  unfold m_anew at h
  split at h
  · rename_i t v0 ho
    have hlen : len = 3 := by
      unfold m_mka at h; split at h
      · split at h <;> cases h; rfl
      · cases h
    subst hlen
    obtain ⟨n, r, rfl, h1, h2, rfl, rfl, rfl, rfl⟩ := m_mka_inv h
    obtain ⟨g6, C, g1, g2, g3⟩ := (hI.2.2.2.2.2.2.2.1 _ (m_oe_mem ho)).2.1 rfl
    refine va_newq hx hb hown (hts _ g3) (hK.2.2 C g1) hK.1 hS.2.2.1 hS.2.2.2.1 hS.2.2.2.2 hA h1 rfl ?_ hc hs hd ?_
    · omega
    · intro q cA H1 k1 k2 k3 k4
      have e1 : cA = dA t := m_RA_uniq (k1.2 (m_tys dA).length (cA, .object C) (by simp)).2 (hK.1.2 t _ (m_tys_get g2)).2
      subst e1
      have g := kk H1 q (m_St_push hS (q := .inl (t, n.toNatClampNeg, [])) (by show Sum.inl (dA t, m_arr X L t n.toNatClampNeg []) = _; rw [m_arrq0 g6]) (by simp [m_okc]) k2 k3 k4)
      rw [m_st_push hS.1 (fun v hv => hok v (List.mem_cons_of_mem _ hv))] at g
      exact g
  · cases h
theorem m_alen_sound (hx : p.tables.exec = Jvm.exec) (hb : c.code = I.2.1) (hK : m_Kx D dA s) (hS : m_St D dA X A H0 H locs L w) (hd : decode I.2.1 pc = .ok (.arraylength, len)) (h : m_alen st w = some (len, st', w', dc, ds))
    (kk : w' = w → dc = 0 → ds = 0 → W p l e R s m args below meth c H locs cells slots Q (F0 m (pc + len) ls (st'.map (m_tr X L)))) : W p l e R s m args below meth c H locs cells slots Q (F0 m pc ls (st.map (m_tr X L))) := by
  unfold m_alen at h
  split at h
  · rename_i a r
    split at h
    · rename_i t n els ha
      split at h
      · rename_i ty hty
        cases h
        obtain ⟨h5, h6⟩ := m_at_L (X := X) hS.1 ha
        exact va_alen (a := m_ad X L a) hx hb hK.1 hS.2.2.1 (a - 512) t (m_wd_get (dA := dA) h5 h6) (m_tys_get hty) rfl hd (kk rfl rfl rfl)
      · cases h
    · cases h
  · cases h
theorem m_ald_inv {ok : Nat → Bool} (h : m_ald ok st w = some (len, st', w', dc, ds)) : ∃ (i : Int32) (a t n : Nat) (els : List (Nat × Value)) (r : List Value), st = .int i :: .ref a :: r ∧ m_at w a = some (.inl (t, n, els)) ∧ ok t = true ∧ vp_in i n ∧ len = 1 ∧ st' = (if t = 1 then .long (m_toL (m_el t els i.toNatClampNeg)) else .int (m_toI (m_el t els i.toNatClampNeg))) :: r ∧ w' = w ∧ dc = 0 ∧ ds = 0 := by
  unfold m_ald at h
  split at h
  · split at h
    · rename_i ha
      split at h
      · rename_i h1
        cases h
        exact ⟨_, _, _, _, _, _, rfl, ha, h1.1, h1.2, rfl, rfl, rfl, rfl, rfl⟩
      · cases h
    · cases h
  · cases h
theorem m_ald_sound (hx : p.tables.exec = Jvm.exec) (hb : c.code = I.2.1) (hK : m_Kx D dA s) (hS : m_St D dA X A H0 H locs L w) (hd : decode I.2.1 pc = .ok (i, len)) {ok : Nat → Bool} (hi : (i = .iaload ∧ ok = fun t => decide (t = 0)) ∨ (i = .laload ∧ ok = fun t => decide (t = 1)) ∨ (i = .caload ∧ ok = fun t => decide (t = 2)) ∨ (i = .baload ∧ ok = fun t => decide (t = 3 ∨ t = 4))) (h : m_ald ok st w = some (len, st', w', dc, ds))
    (kk : w' = w → dc = 0 → ds = 0 → W p l e R s m args below meth c H locs cells slots Q (F0 m (pc + len) ls (st'.map (m_tr X L)))) : W p l e R s m args below meth c H locs cells slots Q (F0 m pc ls (st.map (m_tr X L))) := by
  obtain ⟨j, a, t, n, els, r, rfl, ha, hok, hin, rfl, rfl, rfl, rfl, rfl⟩ := m_ald_inv h
  obtain ⟨h5, h6⟩ := m_at_L (X := X) hS.1 ha
  have k2 := kk rfl rfl rfl
  have hw := m_wd_get (X := X) (dA := dA) h5 h6
  rcases hi with ⟨rfl, rfl⟩ | ⟨rfl, rfl⟩ | ⟨rfl, rfl⟩ | ⟨rfl, rfl⟩
  · have ht : t = 0 := of_decide_eq_true hok
    subst ht
    exact va_iald (a := m_ad X L a) hx hb hK.1 hS.2.2.1 (a - 512) 0 hw (m_tys_get rfl) hin hd k2
  · have ht : t = 1 := of_decide_eq_true hok
    subst ht
    exact va_lald (a := m_ad X L a) hx hb hK.1 hS.2.2.1 (a - 512) 1 hw (m_tys_get rfl) hin hd k2
  · have ht : t = 2 := of_decide_eq_true hok
    subst ht
    exact va_cald (a := m_ad X L a) hx hb hK.1 hS.2.2.1 (a - 512) 2 hw (m_tys_get rfl) hin hd k2
  · have ht : t = 3 ∨ t = 4 := of_decide_eq_true hok
    rcases ht with rfl | rfl
    · exact va_bald (a := m_ad X L a) hx hb hK.1 hS.2.2.1 (a - 512) 3 hw (m_tys_get rfl) hin hd k2
    · exact va_zald (a := m_ad X L a) hx hb hK.1 hS.2.2.1 (a - 512) 4 hw (m_tys_get rfl) hin hd k2
theorem m_toR_tr {X : Nat → Nat} {L : List Nat} {v : Value} : (∃ k, v = .ref k ∧ va_rf (m_toR X L v) = m_tr X L v) ∨ va_rf (m_toR X L v) = .null := by
  cases v with
  | ref k => exact Or.inl ⟨k, rfl, rfl⟩
  | _ => exact Or.inr rfl
theorem m_aald_sound (hx : p.tables.exec = Jvm.exec) (hb : c.code = I.2.1) (hK : m_Kx D dA s) (hS : m_St D dA X A H0 H locs L w) (hd : decode I.2.1 pc = .ok (.aaload, len)) (h : m_aald st w = some (len, st', w', dc, ds))
    (kk : w' = w → dc = 0 → ds = 0 → W p l e R s m args below meth c H locs cells slots Q (F0 m (pc + len) ls (st'.map (m_tr X L)))) : W p l e R s m args below meth c H locs cells slots Q (F0 m pc ls (st.map (m_tr X L))) := by
  unfold m_aald at h
  split at h
  · rename_i j a r
    split at h
    · rename_i t n els ha
      split at h
      · rename_i C hC
        split at h
        case isFalse => cases h
        rename_i h1
        obtain ⟨h5, h6⟩ := m_at_L (X := X) hS.1 ha
        have hw := m_wd_get (X := X) (dA := dA) h5 h6
        have hw : (m_wd X L dA w)[a - 512]? = some (m_ad X L a, .inl (dA t, n, .inr (.inr (.inr (.inr (fun j => m_toR X L (m_el t els j))))))) := by
          rw [hw]; show some (_, Sum.inl (dA t, m_arr X L t n els)) = _; rw [m_arr_q h1.1]
        split at h
        · rename_i k hk
          cases h
          refine va_aldq (a := m_ad X L a) hx hb hK.1 hS.2.2.1 (a - 512) t hw (m_tys_get hC) h1.2 hd ?_
          have k2 := kk rfl rfl rfl
          show W p l e R s m args below meth c H locs cells slots Q (F0 m (pc + 1) ls (va_rf (m_toR X L (m_el t els j.toNatClampNeg)) :: _))
          rw [hk]; exact k2
        · rename_i hk
          cases h
          refine va_aldq (a := m_ad X L a) hx hb hK.1 hS.2.2.1 (a - 512) t hw (m_tys_get hC) h1.2 hd ?_
          have k2 := kk rfl rfl rfl
          show W p l e R s m args below meth c H locs cells slots Q (F0 m (pc + 1) ls (va_rf (m_toR X L (m_el t els j.toNatClampNeg)) :: _))
          rcases m_toR_tr (X := X) (L := L) (v := m_el t els j.toNatClampNeg) with ⟨k, hk2, -⟩ | hk2
          · exact absurd hk2 (hk k)
          · rw [hk2]; exact k2
      · cases h
    · cases h
  · cases h
/-- a cell that changes -/
theorem m_St_set (hS : m_St D dA X A H0 H locs L w) {a : Nat} {q q1 : mM} {H1 : Heap} {locs1 : List Loc} {e1 : va_E} (ha : m_at w a = some q) (he : m_cell X L dA q1 = e1) (hq : m_okc w.length q1 = true) (g1 : va_P D m_cl ((m_wd X L dA w).set (a - 512) (m_ad X L a, e1)) H1) (g2 : va_D A ((m_wd X L dA w).set (a - 512) (m_ad X L a, e1))) (g3 : va_S A H0 H1 locs1) : m_St D dA X A H0 H1 locs1 L (w.set (a - 512) q1) := by
  obtain ⟨h5, h6⟩ := m_at_L (X := X) hS.1 ha
  have e2 : m_wd X L dA (w.set (a - 512) q1) = (m_wd X L dA w).set (a - 512) (m_ad X L a, e1) := by rw [m_wd_set h5, he]
  refine ⟨by rw [List.length_set]; exact hS.1, ?_, by rw [e2]; exact g1, by rw [e2]; exact g2, g3⟩
  rw [List.length_set]
  exact m_okw_set hS.2.1 hq
theorem m_at_okc (hS : m_St D dA X A H0 H locs L w) {a : Nat} {q : mM} (ha : m_at w a = some q) : m_okc w.length q = true := hS.2.1 q (List.mem_of_getElem? (m_at_ok ha).2)
theorem m_ast_inv {ty : Nat → Option FieldType} (h : m_ast ty st w = some (len, st', w', dc, ds)) : ∃ (x i : Int32) (a t n : Nat) (els : List (Nat × Value)) (r : List Value) (f : FieldType), st = .int x :: .int i :: .ref a :: r ∧ m_at w a = some (.inl (t, n, els)) ∧ ty t = some f ∧ vp_in i n ∧ len = 1 ∧ st' = r ∧ w' = w.set (a - 512) (.inl (t, n, m_sel els i.toNatClampNeg (.int (vp_nar f x)))) ∧ dc = 0 ∧ ds = 0 := by
  unfold m_ast at h
  split at h
  · split at h
    · rename_i ha
      split at h
      · rename_i hf
        split at h
        · rename_i h1
          cases h
          exact ⟨_, _, _, _, _, _, _, _, rfl, ha, hf, h1, rfl, rfl, rfl, rfl, rfl⟩
        · cases h
      · cases h
    · cases h
  · cases h
theorem m_ast_sound (hx : p.tables.exec = Jvm.exec) (hb : c.code = I.2.1) (hK : m_Kx D dA s) (hS : m_St D dA X A H0 H locs L w) (hd : decode I.2.1 pc = .ok (i, len)) {ty : Nat → Option FieldType} (hi : (i = .iastore ∧ ty = fun t => if t = 0 then some .int else none) ∨ (i = .castore ∧ ty = fun t => if t = 2 then some .char else none) ∨ (i = .bastore ∧ ty = fun t => if t = 3 then some .byte else if t = 4 then some .boolean else none)) (h : m_ast ty st w = some (len, st', w', dc, ds))
    (kk : ∀ (H1 : Heap) (locs1 : List Loc), m_St D dA X A H0 H1 locs1 L w' → dc = 0 → ds = 0 → W p l e R s m args below meth c H1 locs1 cells slots Q (F0 m (pc + len) ls (st'.map (m_tr X L)))) : W p l e R s m args below meth c H locs cells slots Q (F0 m pc ls (st.map (m_tr X L))) := by
  obtain ⟨x, j, a, t, n, els, r, f, rfl, ha, hty, hin, rfl, rfl, rfl, rfl, rfl⟩ := m_ast_inv h
  obtain ⟨h5, h6⟩ := m_at_L (X := X) hS.1 ha
  have hw := m_wd_get (X := X) (dA := dA) h5 h6
  have hokc := m_okc_seta (k := j.toNatClampNeg) (v := .int (vp_nar f x)) (m_at_okc hS ha) rfl
  rcases hi with ⟨rfl, rfl⟩ | ⟨rfl, rfl⟩ | ⟨rfl, rfl⟩
  · by_cases ht : t = 0
    · subst ht
      cases hty
      exact va_iast (a := m_ad X L a) hx hb hK.1 hS.2.2.1 hS.2.2.2.1 hS.2.2.2.2 (a - 512) 0 hw (m_tys_get rfl) hin hd (fun H1 locs1 g1 g2 g3 => kk H1 locs1 (m_St_set hS ha (congrArg (fun z => Sum.inl (dA 0, z)) (m_arr_seti (t := 0) (by decide) (by decide))) hokc g1 g2 g3) rfl rfl)
    · simp [ht] at hty
  · by_cases ht : t = 2
    · subst ht
      cases hty
      exact va_cast (a := m_ad X L a) hx hb hK.1 hS.2.2.1 hS.2.2.2.1 hS.2.2.2.2 (a - 512) 2 hw (m_tys_get rfl) hin hd (fun H1 locs1 g1 g2 g3 => kk H1 locs1 (m_St_set hS ha (congrArg (fun z => Sum.inl (dA 2, z)) (m_arr_seti (t := 2) (by decide) (by decide))) hokc g1 g2 g3) rfl rfl)
    · simp [ht] at hty
  · by_cases ht : t = 3
    · subst ht
      cases hty
      exact va_bast (a := m_ad X L a) hx hb hK.1 hS.2.2.1 hS.2.2.2.1 hS.2.2.2.2 (a - 512) 3 hw (m_tys_get rfl) hin hd (fun H1 locs1 g1 g2 g3 => kk H1 locs1 (m_St_set hS ha (congrArg (fun z => Sum.inl (dA 3, z)) (m_arr_seti (t := 3) (by decide) (by decide))) hokc g1 g2 g3) rfl rfl)
    · by_cases ht4 : t = 4
      · subst ht4
        cases hty
        exact va_zast (a := m_ad X L a) hx hb hK.1 hS.2.2.1 hS.2.2.2.1 hS.2.2.2.2 (a - 512) 4 hw (m_tys_get rfl) hin hd (fun H1 locs1 g1 g2 g3 => kk H1 locs1 (m_St_set hS ha (congrArg (fun z => Sum.inl (dA 4, z)) (m_arr_seti (t := 4) (by decide) (by decide))) hokc g1 g2 g3) rfl rfl)
      · simp [ht, ht4] at hty
theorem m_last_sound (hx : p.tables.exec = Jvm.exec) (hb : c.code = I.2.1) (hK : m_Kx D dA s) (hS : m_St D dA X A H0 H locs L w) (hd : decode I.2.1 pc = .ok (.lastore, len)) (h : m_last st w = some (len, st', w', dc, ds))
    (kk : ∀ (H1 : Heap) (locs1 : List Loc), m_St D dA X A H0 H1 locs1 L w' → dc = 0 → ds = 0 → W p l e R s m args below meth c H1 locs1 cells slots Q (F0 m (pc + len) ls (st'.map (m_tr X L)))) : W p l e R s m args below meth c H locs cells slots Q (F0 m pc ls (st.map (m_tr X L))) := by
  unfold m_last at h
  split at h
  · rename_i x j a r
    split at h
    · rename_i t n els ha
      split at h
      · rename_i h1
        obtain ⟨rfl, hin⟩ := h1
        cases h
        obtain ⟨h5, h6⟩ := m_at_L (X := X) hS.1 ha
        have hw := m_wd_get (X := X) (dA := dA) h5 h6
        exact va_last (a := m_ad X L a) hx hb hK.1 hS.2.2.1 hS.2.2.2.1 hS.2.2.2.2 (a - 512) 1 hw (m_tys_get rfl) hin hd (fun H1 locs1 g1 g2 g3 => kk H1 locs1 (m_St_set hS ha (congrArg (fun z => Sum.inl (dA 1, z)) m_arr_setl) (m_okc_seta (m_at_okc hS ha) rfl) g1 g2 g3) rfl rfl)
      · cases h
    · cases h
  · cases h
theorem m_aast_sound (hx : p.tables.exec = Jvm.exec) (hb : c.code = I.2.1) (hK : m_Kx D dA s) (hS : m_St D dA X A H0 H locs L w) (hd : decode I.2.1 pc = .ok (.aastore, len)) (h : m_aast st w = some (len, st', w', dc, ds))
    (kk : ∀ (H1 : Heap) (locs1 : List Loc), m_St D dA X A H0 H1 locs1 L w' → dc = 0 → ds = 0 → W p l e R s m args below meth c H1 locs1 cells slots Q (F0 m (pc + len) ls (st'.map (m_tr X L)))) : W p l e R s m args below meth c H locs cells slots Q (F0 m pc ls (st.map (m_tr X L))) := by
  unfold m_aast at h
  split at h
  · rename_i v j a r
    split at h
    · rename_i t n els ha
      split at h
      · rename_i C hC
        split at h
        case isFalse => cases h
        rename_i h1
        obtain ⟨h5, h6⟩ := m_at_L (X := X) hS.1 ha
        have hw := m_wd_get (X := X) (dA := dA) h5 h6
        have hw : (m_wd X L dA w)[a - 512]? = some (m_ad X L a, .inl (dA t, n, .inr (.inr (.inr (.inr (fun j => m_toR X L (m_el t els j))))))) := by
          rw [hw]; show some (_, Sum.inl (dA t, m_arr X L t n els)) = _; rw [m_arr_q h1.1]
        split at h
        · cases h
          exact va_astqN (a := m_ad X L a) hx hb hK.1 hS.2.2.1 hS.2.2.2.1 hS.2.2.2.2 (a - 512) t hw (m_tys_get hC) h1.2 hd (fun H1 locs1 g1 g2 g3 => kk H1 locs1 (m_St_set hS ha (congrArg (fun z => Sum.inl (dA t, z)) (m_arr_setq (v := .null) h1.1)) (m_okc_seta (m_at_okc hS ha) rfl) g1 g2 g3) rfl rfl)
        · rename_i k
          split at h
          · rename_i ci fs hk
            split at h
            case isFalse => cases h
            rename_i hass
            cases h
            obtain ⟨k5, k6⟩ := m_at_L (X := X) hS.1 hk
            have hkw := m_wd_get (X := X) (dA := dA) k5 k6
            have hkk : m_okv w.length (.ref k) = true := by
              have q1 := (m_at_ok hk).1
              have q2 := (List.getElem?_eq_some_iff.mp (m_at_ok hk).2).1
              exact decide_eq_true (m_lt64 q1 q2)
            rcases hass with hass | hass
            · obtain ⟨rr, r1, r2⟩ := m_ass_ok _ hass
              exact va_astq (a := m_ad X L a) (v := m_ad X L k) hx hb hK.1 hS.2.2.1 hS.2.2.2.1 hS.2.2.2.2 (a - 512) t (k - 512) ci hw (m_tys_get r2) hkw r1 h1.2 hd (fun H1 locs1 g1 g2 g3 => kk H1 locs1 (m_St_set hS ha (congrArg (fun z => Sum.inl (dA t, z)) (m_arr_setq (v := .ref k) h1.1)) (m_okc_seta (m_at_okc hS ha) hkk) g1 g2 g3) rfl rfl)
            · obtain ⟨rr, C2, r1, r2, r3⟩ := m_asl_ok _ hass
              exact va_astqO (a := m_ad X L a) (v := m_ad X L k) hx hb hK.1 hS.2.2.1 hS.2.2.2.1 hS.2.2.2.2 (a - 512) t (k - 512) ci hw (m_tys_get r2) (hK.2.1 _ r3) hkw r1 h1.2 hd (fun H1 locs1 g1 g2 g3 => kk H1 locs1 (m_St_set hS ha (congrArg (fun z => Sum.inl (dA t, z)) (m_arr_setq (v := .ref k) h1.1)) (m_okc_seta (m_at_okc hS ha) hkk) g1 g2 g3) rfl rfl)
          · cases h
        · cases h
      · cases h
    · cases h
  · cases h
theorem m_gst_sound (hx : p.tables.exec = Jvm.exec) (hb : c.code = I.2.1) (hown : s.vm.findClass I.1.cls = some m.cls) (hts : ∀ w ∈ m_gt, w.before args s = true) (hE : m_Ex X A s s.heap) (hI : m_bOk I) (hS : m_St D dA X A s.heap H locs L w) {k : Nat} (hd : decode I.2.1 pc = .ok (.getstatic k, len)) (h : m_gst I k st w = some (len, st', w', dc, ds))
    (kk : w' = w → dc = 0 → ds = 0 → W p l e R s m args below meth c H locs cells slots Q (F0 m (pc + len) ls (st'.map (m_tr X L)))) : W p l e R s m args below meth c H locs cells slots Q (F0 m pc ls (st.map (m_tr X L))) := by
  unfold m_gst at h
  split at h
  · rename_i v0 v ho
    cases h
    obtain ⟨C, n, d, g1, g2⟩ := (hI.2.2.2.2.2.2.2.1 _ (m_oe_mem ho)).2.2.2.2.1 rfl
    have k2 := kk rfl rfl rfl
    refine va_gets hx hb (hE.1 _ g1) hS.2.2.2.2 hown (hts _ g2) (fun x h9 => h9) hd ?_
    rw [List.map_cons, m_tr_stat (m_stl_ok _ g1)] at k2
    exact k2
  · cases h
theorem m_ldc_sound (hx : p.tables.exec = Jvm.exec) (hb : c.code = I.2.1) (hown : s.vm.findClass I.1.cls = some m.cls) (hts : ∀ w ∈ m_gt, w.before args s = true) (hI : m_bOk I) {k n : Nat} (hd : decode I.2.1 pc = .ok (i, len)) (hi : (i = .ldc k ∧ n = 2) ∨ (i = .ldc_w k ∧ n = 3)) (h : m_ldc I k n st w = some (len, st', w', dc, ds))
    (kk : w' = w → dc = 0 → ds = 0 → W p l e R s m args below meth c H locs cells slots Q (F0 m (pc + len) ls (st'.map (m_tr X L)))) : W p l e R s m args below meth c H locs cells slots Q (F0 m pc ls (st.map (m_tr X L))) := by
  unfold m_ldc at h
  split at h
  · rename_i v0 v ho
    cases h
    obtain ⟨x, rfl, g2⟩ := (hI.2.2.2.2.2.2.2.1 _ (m_oe_mem ho)).2.2.1 rfl
    have k2 := kk rfl rfl rfl
    rcases hi with ⟨rfl, rfl⟩ | ⟨rfl, rfl⟩
    · exact lv_ldc hx hb hown (hts _ g2) hd k2
    · exact lv_ldcw hx hb hown (hts _ g2) hd k2
  · cases h
theorem m_ldc2_sound (hx : p.tables.exec = Jvm.exec) (hb : c.code = I.2.1) (hown : s.vm.findClass I.1.cls = some m.cls) (hts : ∀ w ∈ m_gt, w.before args s = true) (hI : m_bOk I) {k : Nat} (hd : decode I.2.1 pc = .ok (.ldc2_w k, len)) (h : m_ldc2 I k st w = some (len, st', w', dc, ds))
    (kk : w' = w → dc = 0 → ds = 0 → W p l e R s m args below meth c H locs cells slots Q (F0 m (pc + len) ls (st'.map (m_tr X L)))) : W p l e R s m args below meth c H locs cells slots Q (F0 m pc ls (st.map (m_tr X L))) := by
  unfold m_ldc2 at h
  split at h
  · rename_i v0 v ho
    cases h
    obtain ⟨x, rfl, g2⟩ := (hI.2.2.2.2.2.2.2.1 _ (m_oe_mem ho)).2.2.2.1 rfl
    exact lv_ldc2 hx hb hown (hts _ g2) hd (kk rfl rfl rfl)
  · cases h
end MA
end
section
/-! The small machine's steps on outside cells, texts and casts are steps of the machine. -/
theorem m_m200 {a : Nat} (h : 201 ≤ a) : a - 200 + 200 = a := by omega
theorem m_sci_ok : m_cl[m_sci]? = some (R_12, F_12, 4) := rfl
theorem m_ad_out {X : Nat → Nat} {L : List Nat} {a : Nat} (h : a < 512) : m_ad X L a = X a := by unfold m_ad; rw [if_pos h]
theorem m_xby_ok {a : Nat} {l : List Int32} (h : m_xby a = some l) : 201 ≤ a ∧ a < 512 ∧ 1 ≤ a - 200 ∧ a - 200 ≤ m_sN ∧ l = m_xbl.getD (a - 200 - 1) [] := by
  unfold m_xby at h
  split at h
  · rename_i h1
    obtain ⟨h1, h2⟩ := h1
    have h3 : m_sN < 300 := by decide
    refine ⟨h1, by omega, by omega, by omega, ?_⟩
    rw [List.getD_eq_getElem?_getD, show a - 200 - 1 = a - 201 by omega, h]; rfl
  · cases h
theorem m_sxl_lt : ∀ q ∈ m_sxl, q.2.2.2 < 512 := by decide +kernel
section MX
variable {p : Program} {l : Launch} {e : Env} {R : Room} {s : State} {m : MethodId} {args : Array Value} {below : List Frame} {meth : Method} {c : Code} {H : Heap} {locs : List Loc} {cells slots : Nat} {Q : State → Prop} {I : mI} {X : Nat → Nat} {L : List Nat} {pc len : Nat} {ls : Array Slot} {i : Instr} {st st' : List Value} {w : List mM} {D : va_G} {dA : Nat → ClassId} {A : Nat → Prop}
theorem m_ldcwS {cc : ByteArray} {rest : List Value} (hexec : p.tables.exec = Jvm.exec) (hb : c.code = cc) {own tx : String} {index q : Nat} (hown : s.vm.findClass own = some m.cls) (hZ : vk_R own index tx q s) (hdg : decode cc pc = .ok (.ldc_w index, 3))
    (k : W p l e R s m args below meth c H locs cells slots Q (F0 m (pc + 3) ls (.ref q :: rest))) : W p l e R s m args below meth c H locs cells slots Q (F0 m pc ls rest) := by
  intro T hT X9
  obtain ⟨t, a1, b1⟩ := k T hT X9
  refine ⟨t, ?_, b1⟩
  obtain ⟨k9, cf, i9, a', hk, hcf, hcp, -, hr, hev'⟩ := Cond.stringRef_spec (args := #[]) hown hZ.1
  cases hZ.2.symm.trans hev'
  obtain ⟨k', hk', he⟩ := X9.warmed.alike.2.2 _ _ hk
  have hr' : k'.resolved[index]? = some (some (.string q)) := by
    rcases X9.warmed.entry hk hk' index with h | ⟨h, -⟩
    · rw [h]; exact hr
    · rw [hr] at h; cases h
  have hdg2 : decode c.code (F0 m pc ls rest).pc = .ok (.ldc_w index, 3) := by rw [hb]; exact hdg
  jvm_step X9.here [hexec, hdg2, ldc_w.wp_string (e := e) (s := T) (f := F0 m pc ls rest) X9.here.top hk' (by rw [he]; exact hcf) hcp hr']
  exact a1
theorem m_xs_sound (hx : p.tables.exec = Jvm.exec) (hb : c.code = I.2.1) (hown : s.vm.findClass I.1.cls = some m.cls) (hts : ∀ w ∈ m_gt, w.before args s = true) (hK : m_Kx D dA s) (hE : m_Ex X A s s.heap) (hI : m_bOk I) (hS : m_St D dA X A s.heap H locs L w) (hd : decode I.2.1 pc = .ok (i, len)) (h : m_xs I i st w = some (len, st'))
    (kk : W p l e R s m args below meth c H locs cells slots Q (F0 m (pc + len) ls (st'.map (m_tr X L)))) : W p l e R s m args below meth c H locs cells slots Q (F0 m pc ls (st.map (m_tr X L))) := by
  unfold m_xs at h
  split at h
  · rename_i k
    unfold m_xg at h
    split at h
    · rename_i a r
      split at h
      · rename_i ci fk fl hf
        obtain ⟨v, hv, e1⟩ := Option.map_eq_some_iff.mp h
        cases e1
        unfold m_xget at hv
        split at hv
        · rename_i h1
          obtain ⟨rfl, ha1, ha2⟩ := h1
          obtain ⟨rr, h1, h2, ⟨ref, h3, h4⟩, -, -⟩ := hI.2.2.2.2.2.1 _ (m_fe_mem hf)
          cases h1.symm.trans m_sci_ok
          have h9 : a < 512 := Nat.lt_of_le_of_lt ha2 (by decide)
          have hsx := hE.2.2.2.1 a ha1 ha2
          have hsame : ∀ x, s.fieldFound? (F_12 fk).1 (F_12 fk).2.1 (F_12 fk).2.2.1 = some x → s.fieldFound? ref (F_12 fk).2.1 (F_12 fk).2.2.1 = some x := by
            rcases h4 with h4 | h4
            · intro x hx9; rw [h4]; exact hx9
            · exact u_same (hts _ h4)
          show W p l e R s m args below meth c H locs cells slots Q (F0 m pc ls (.ref (m_ad X L a) :: _))
          rw [m_ad_out h9]
          split at hv
          · rename_i hk0
            subst hk0
            cases hv
            have e9 : m_ad X L (a + 200) = X (a + 200) := m_ad_out (by have h3 : m_sN < 300 := by decide
                                                                       omega)
            refine vk_getf hx hb hsx.2.2.1 hS.2.2.2.2 hown (hts _ h3) hsame hd ?_
            rw [← e9]; exact kk
          · split at hv
            · rename_i hk1
              subst hk1
              cases hv
              exact vk_getf hx hb hsx.2.1 hS.2.2.2.2 hown (hts _ h3) hsame hd kk
            · cases hv
        · cases hv
      · cases h
    · cases h
  · unfold m_xl at h
    split at h
    · rename_i a r
      split at h
      · rename_i ha
        subst ha
        cases h
        show W p l e R s m args below meth c H locs cells slots Q (F0 m pc ls (.ref (m_ad X L 0) :: _))
        rw [m_ad_out (by decide)]
        exact va_tlen hx hb hE.2.2.2.2 hS.2.2.2.2 rfl hd kk
      · obtain ⟨bs, hbs, e1⟩ := Option.map_eq_some_iff.mp h
        cases e1
        obtain ⟨h1, h2, h3, h4, hl9⟩ := m_xby_ok hbs
        have hsx := (hE.2.2.2.1 (a - 200) h3 h4).2.2.2
        rw [m_m200 h1, ← hl9] at hsx
        show W p l e R s m args below meth c H locs cells slots Q (F0 m pc ls (.ref (m_ad X L a) :: _))
        rw [m_ad_out h2]
        exact va_tlen hx hb hsx hS.2.2.2.2 rfl hd kk
    · cases h
  · unfold m_xb at h
    split at h
    · rename_i j a r
      split at h
      · rename_i bs hbs
        split at h
        · rename_i hin
          cases h
          obtain ⟨h1, h2, h3, h4, hl9⟩ := m_xby_ok hbs
          have hsx := (hE.2.2.2.1 (a - 200) h3 h4).2.2.2
          rw [m_m200 h1, ← hl9] at hsx
          show W p l e R s m args below meth c H locs cells slots Q (F0 m pc ls (.int j :: .ref (m_ad X L a) :: _))
          rw [m_ad_out h2]
          exact va_tb hx hb hsx hS.2.2.2.2 hin rfl hd kk
        · cases h
      · cases h
    · cases h
  · rename_i k
    unfold m_xt at h
    obtain ⟨q, hq, e1⟩ := Option.map_eq_some_iff.mp h
    cases e1
    obtain ⟨tx, ht⟩ := (hI.2.2.2.2.2.2.2.1 _ (m_oe_mem hq)).2.2.2.2.2.1 rfl
    have h9 : q.1 < 512 := m_sxl_lt _ ht
    refine va_ldcS hx hb hown (hE.2.2.1 _ ht) hd ?_
    rw [List.map_cons, m_tr_ref, m_ad_out h9] at kk
    exact kk
  · rename_i k
    unfold m_xt at h
    obtain ⟨q, hq, e1⟩ := Option.map_eq_some_iff.mp h
    cases e1
    obtain ⟨tx, ht⟩ := (hI.2.2.2.2.2.2.2.1 _ (m_oe_mem hq)).2.2.2.2.2.1 rfl
    have h9 : q.1 < 512 := m_sxl_lt _ ht
    refine m_ldcwS hx hb hown (hE.2.2.1 _ ht) hd ?_
    rw [List.map_cons, m_tr_ref, m_ad_out h9] at kk
    exact kk
  · rename_i k
    unfold m_xc at h
    split at h
    · cases h
      exact lv_castN hx hb hd kk
    · rename_i a r
      split at h
      · rename_i ci q2 cj fs ho hat
        split at h
        · rename_i hc
          subst hc
          cases h
          obtain ⟨rr, h1, h2, h3⟩ := (hI.2.2.2.2.2.2.2.1 _ (m_oe_mem ho)).2.2.2.2.2.2.1 rfl
          obtain ⟨h5, h6⟩ := m_at_L (X := X) hS.1 hat
          exact va_castY (a := m_ad X L a) hx hb hown (hts _ h2) (hK.2.1 _ h3) (va_recv hK.1 hS.2.2.1 h1 (m_wd_get (X := X) (dA := dA) h5 h6)) hd kk
        · cases h
      · cases h
    · cases h
  · cases h
end MX
end
section
/-! Calls: the contract of a run of the small machine, and a call by it. -/
def m_room (r : mR) : Room := { frames := r.2.2.2.2.1, cells := r.2.2.1, slots := r.2.2.2.1, locals := r.2.2.2.2.2 }
def m_Ts (J : mI) : List Cond := Cond.code J.1 J.2.1 J.2.2.1 J.2.2.2.2.1 :: m_gt
def m_Pc (D : va_G) (dA : Nat → ClassId) (X : Nat → Nat) (L : List Nat) (sz : Nat) (w : List mM) (U : State) : Prop := U.heap.size = sz ∧ va_P D m_cl (m_wd X L dA w) U.heap ∧ va_D (fun _ => True) (m_wd X L dA w) ∧ m_Kx D dA U ∧ m_Ex X (va_A (m_wd X L dA w) sz) U U.heap
def m_Qc (D : va_G) (dA : Nat → ClassId) (X : Nat → Nat) (L : List Nat) (A : Nat → Prop) (v : Option Value) (w : List mM) : Array Value → State → Outcome → State → Prop := fun _ st oc t =>
  (∃ L2 : List Nat, oc = .returned (v.map (m_tr X (L ++ L2))) ∧ (L ++ L2).length = w.length ∧ m_okw w.length w ∧ va_P D m_cl (m_wd X (L ++ L2) dA w) t.heap ∧ va_D A (m_wd X (L ++ L2) dA w)) ∧ va_F A st t
/-- the contract: from a world w and arguments as the method comes to the world and the answer of r, with its room -/
def m_Met (l : Launch) (J : mI) (as : List Value) (w : List mM) (r : mR) : Prop :=
  ∀ (D : va_G) (dA : Nat → ClassId) (X : Nat → Nat) (L : List Nat) (sz : Nat), L.length = w.length → m_okw w.length w →
    Met l J.1 (m_Ts J) (m_room r) (va_Pc (as.map (m_tr X L)) (m_Pc D dA X L sz w)) (m_Qc D dA X L (va_A (m_wd X L dA w) sz) r.1 r.2.1) r.2.2.1 r.2.2.2.1 (va_A (m_wd X L dA w) sz)
theorem m_good {ws : List Cond} (h : ∀ w ∈ ws, w ∈ m_gt) : GoodIn m_gt ws := fun w hw => ⟨h w hw, good_of_word (m_gt_good (h w hw))⟩
theorem m_Ts_in {J : mI} (hJ : m_mOk J) : ∀ w ∈ m_Ts J, w ∈ m_gt := fun w hw => (List.mem_cons.mp hw).elim (fun e => by rw [e]; exact hJ.1) id
theorem m_nw_warm {w : Cond} (hk : m_nwk w = true) {s U : State} (hW : s.WarmedH U.vm) (h : va_Nw w s) : va_Nw w U := by
  cases w <;> first | (exact va_Nw.warmM hW h) | (exact va_Nw.warmC hW h) | (exact va_Nw.warmD hW h) | (cases hk)
theorem m_nw_tab {w : Cond} (hk : m_nwk w = true) : w.onTables = true := by
  cases w <;> first | rfl | (cases hk)
theorem m_Kx.warm {D : va_G} {dA : Nat → ClassId} {s U : State} (hW : s.WarmedH U.vm) (h : m_Kx D dA s) : m_Kx D dA U :=
  ⟨va_K.moved hW.alike h.1, fun w hw => m_nw_warm (List.mem_filter.mp hw).2 hW (h.2.1 w hw), fun C hC => va_AO.moved hW.alike (h.2.2 C hC)⟩
theorem m_Kx.same {D : va_G} {dA : Nat → ClassId} {s U : State} (hv : s.vm = U.vm) (h : m_Kx D dA s) : m_Kx D dA U :=
  ⟨va_K.moved (by rw [hv]; exact Vm.Alike.refl _) h.1, fun w hw => va_Nw.same (m_nw_tab (List.mem_filter.mp hw).2) hv (h.2.1 w hw), fun C hC => va_AO.moved (by rw [hv]; exact Vm.Alike.refl _) (h.2.2 C hC)⟩
theorem m_Sx.moved {X : Nat → Nat} {A : Nat → Prop} {u U : State} {H : Heap} {k : Nat} (hvm : u.vm.Alike U.vm) (h : m_Sx X A u H k) : m_Sx X A U H k := ⟨h.1.moved hvm, h.2.1.moved hvm, h.2.2.1.moved hvm, h.2.2.2.moved hvm⟩
theorem m_Sx.kept {X : Nat → Nat} {A : Nat → Prop} {U : State} {H H1 : Heap} {k : Nat} (h : m_Sx X A U H k) (hq : ∀ a : Nat, a < H.size → ¬ A a → H1[a]? = H[a]?) : m_Sx X A U H1 k := ⟨h.1.kept hq, h.2.1.kept hq, h.2.2.1.kept hq, h.2.2.2.kept hq⟩
theorem m_Sx.narrow {X : Nat → Nat} {A B : Nat → Prop} {U : State} {H : Heap} {k : Nat} (h : m_Sx X A U H k) (hAB : ∀ q, B q → A q) : m_Sx X B U H k := ⟨h.1.narrow hAB, h.2.1.narrow hAB, h.2.2.1.narrow hAB, h.2.2.2.narrow hAB⟩
theorem m_Ex.warm {X : Nat → Nat} {A : Nat → Prop} {u U : State} {H : Heap} (hW : u.WarmedH U.vm) (h : m_Ex X A u H) : m_Ex X A U H := ⟨fun q hq => (h.1 q hq).moved hW.alike, h.2.1, fun q hq => vk_R.warm hW (h.2.2.1 q hq), fun k h1 h2 => (h.2.2.2.1 k h1 h2).moved hW.alike, h.2.2.2.2.moved hW.alike⟩
theorem m_Ex.same {X : Nat → Nat} {A : Nat → Prop} {u U : State} {H : Heap} (hv : U.vm = u.vm) (h : m_Ex X A u H) : m_Ex X A U H :=
  have ha : u.vm.Alike U.vm := by rw [hv]; exact Vm.Alike.refl _
  ⟨fun q hq => (h.1 q hq).moved ha, h.2.1, fun q hq => vk_R.same hv (h.2.2.1 q hq), fun k h1 h2 => (h.2.2.2.1 k h1 h2).moved ha, h.2.2.2.2.moved ha⟩
theorem m_Ex.kept {X : Nat → Nat} {A : Nat → Prop} {U : State} {H H1 : Heap} (h : m_Ex X A U H) (hq : ∀ a : Nat, a < H.size → ¬ A a → H1[a]? = H[a]?) : m_Ex X A U H1 := ⟨fun q h9 => (h.1 q h9).kept hq, h.2.1, h.2.2.1, fun k h1 h2 => (h.2.2.2.1 k h1 h2).kept hq, h.2.2.2.2.kept hq⟩
theorem m_Ex.narrow {X : Nat → Nat} {A B : Nat → Prop} {U : State} {H : Heap} (h : m_Ex X A U H) (hAB : ∀ q, B q → A q) : m_Ex X B U H := ⟨fun q h9 => (h.1 q h9).narrow hAB, fun k hk hb => h.2.1 k hk (hAB _ hb), h.2.2.1, fun k h1 h2 => (h.2.2.2.1 k h1 h2).narrow hAB, h.2.2.2.2.narrow hAB⟩
theorem m_blind {D : va_G} {dA : Nat → ClassId} {X : Nat → Nat} {L : List Nat} {sz : Nat} {w : List mM} {as : List Value} : FrameBlind (va_Pc as (m_Pc D dA X L sz w)) :=
  fun _ U g mk h => ⟨h.1, h.2.1, h.2.2.1, h.2.2.2.1, m_Kx.same (s := U) rfl h.2.2.2.2.1, m_Ex.same (u := U) rfl h.2.2.2.2.2⟩
section MC
variable {p : Program} {l : Launch} {e : Env} {R : Room} {s : State} {m : MethodId} {args : Array Value} {below : List Frame} {meth : Method} {c : Code} {H : Heap} {locs : List Loc} {cells slots : Nat} {Q : State → Prop} {I J : mI} {X : Nat → Nat} {L : List Nat} {pc len : Nat} {ls : Array Slot} {i : Instr} {st st' : List Value} {w w' : List mM} {D : va_G} {dA : Nat → ClassId} {A : Nat → Prop}
theorem m_sub (hA : ∀ q, s.heap.size ≤ q → A q) (hS : m_St D dA X A s.heap H locs L w) : ∀ q, va_A (m_wd X L dA w) H.size q → A q := by
  rintro q (⟨k, e1, hk⟩ | hq)
  · exact hS.2.2.2.1.2 k _ hk
  · exact hA q (Nat.le_trans hS.2.2.2.2.1 hq)
theorem m_pre (hA : ∀ q, s.heap.size ≤ q → A q) (hS : m_St D dA X A s.heap H locs L w) (hK : m_Kx D dA s) (hE : m_Ex X A s s.heap) (as : List Value) : PreS s H (va_Pc as (m_Pc D dA X L H.size w)) as :=
  ⟨m_blind, fun U hU hW => ⟨rfl, by rw [hU], by rw [hU]; exact hS.2.2.1, ⟨hS.2.2.2.1.1, fun _ _ _ => trivial⟩, hK.warm hW, by
    rw [hU]
    exact ((hE.kept (fun a h1 h2 => hS.2.2.2.2.2.1 a h1 h2)).narrow (m_sub hA hS)).warm hW⟩⟩
/-- behind a call -/
theorem m_go {v : Option Value} {rest : List Value} {mc ms : Nat} {as : Array Value} {st0 : List Value} (hA : ∀ q, s.heap.size ≤ q → A q) (hS : m_St D dA X A s.heap H locs L w)
    (hr : va_Run p l e R s m args below meth c H locs cells slots mc ms (F0 m pc ls st0) rest (m_Qc D dA X L (va_A (m_wd X L dA w) H.size) v w' as) (va_A (m_wd X L dA w) H.size))
    (kk : ∀ (H1 : Heap) (locs1 : List Loc) (L2 : List Nat), m_St D dA X A s.heap H1 locs1 (L ++ L2) w' → W p l e R s m args below meth c H1 locs1 (cells + mc) (slots + ms) Q (F0 m (pc + 3) ls ((v.map (m_tr X (L ++ L2))).toList ++ rest))) : W p l e R s m args below meth c H locs cells slots Q (F0 m pc ls st0) := by
  intro T hT X9
  obtain ⟨v9, st₀, t, T', L9, h0, X', hL, e1, e2, ⟨⟨L2, hv, h1, h2, h3, h4⟩, hz, hk⟩, stp⟩ := hr T hT X9
  cases hv
  rw [h0] at hz hk
  have hsub := m_sub hA hS
  obtain ⟨t2, a1, b1⟩ := kk T'.heap (locs ++ L9) L2 ⟨h1, h2, by rw [e1]; exact h3, h4.weaken (fun _ _ _ hq => hsub _ hq),
    Nat.le_trans hS.2.2.2.2.1 (by rw [e1]; exact hz), fun q g1 g2 => by rw [e1, hk q (Nat.lt_of_lt_of_le g1 hS.2.2.2.2.1) (fun z => g2 (hsub q z))]; exact hS.2.2.2.2.2.1 q g1 g2, fun q hq => by
      rcases List.mem_append.mp hq with h | h
      · exact hS.2.2.2.2.2.2 q h
      · exact hsub _ (hL q h)⟩ T' rfl X'
  exact ⟨t2, stp t2 a1, b1⟩
theorem m_takeI_inv {r : mI × List Value × List Value} (h : m_takeI J st = some r) : ∃ a, r = (J, .ref a :: (st.take J.2.2.2.1).reverse, st.drop (J.2.2.2.1 + 1)) ∧ st = st.take J.2.2.2.1 ++ .ref a :: st.drop (J.2.2.2.1 + 1) ∧ (st.take J.2.2.2.1).length = J.2.2.2.1 ∧ st[J.2.2.2.1]? = some (.ref a) ∧ ((st.drop (J.2.2.2.1 + 1)).map fun v => v.category).sum ≤ 8 := by
  unfold m_takeI at h
  split at h
  · rename_i a ha
    split at h
    · rename_i h8
      cases h
      obtain ⟨hlt, hg⟩ := List.getElem?_eq_some_iff.mp ha
      refine ⟨a, rfl, ?_, by rw [List.length_take]; omega, ha, h8⟩
      rw [← hg, ← List.drop_eq_getElem_cons hlt, List.take_append_drop]
    · cases h
  · cases h
theorem m_takeS_inv {r : mI × List Value × List Value} (h : m_takeS J st = some r) : r = (J, (st.take J.2.2.2.1).reverse, st.drop J.2.2.2.1) ∧ st = st.take J.2.2.2.1 ++ st.drop J.2.2.2.1 ∧ (st.take J.2.2.2.1).length = J.2.2.2.1 ∧ ((st.drop J.2.2.2.1).map fun v => v.category).sum ≤ 8 := by
  unfold m_takeS at h
  split at h
  · rename_i h1
    cases h
    exact ⟨rfl, (List.take_append_drop _ _).symm, by rw [List.length_take]; omega, h1.2⟩
  · cases h
theorem m_cat_sum (X : Nat → Nat) (L : List Nat) (r : List Value) : (((r.map (m_tr X L)).map fun v => v.category).sum) = (r.map fun v => v.category).sum := by
  rw [List.map_map]
  congr 1
  apply List.map_congr_left
  intro v _
  exact m_tr_cat X L v
theorem m_ca_sound (hx : p.tables.exec = Jvm.exec) (hb : c.code = I.2.1) (hml : c.maxLocals = I.2.2.1) (hls : ls.size = I.2.2.1) (hown : s.vm.findClass I.1.cls = some m.cls) (hts : ∀ w ∈ m_gt, w.before args s = true) (hK : m_Kx D dA s) (hE : m_Ex X A s s.heap) (hA : ∀ q, s.heap.size ≤ q → A q) (hI : m_bOk I) (hS : m_St D dA X A s.heap H locs L w) (hd : decode I.2.1 pc = .ok (i, 3)) {as rest : List Value} (h : m_ca I i st w = some (J, as, rest)) {r : mR} (hM : m_Met l J as w r)
    (hfr : r.2.2.2.2.1 + 1 ≤ R.frames) (hlo : 8 + (J.2.2.1 + 11) + r.2.2.2.2.2 ≤ R.locals) (hc : cells + r.2.2.1 ≤ R.cells) (hs : slots + r.2.2.2.1 ≤ R.slots)
    (kk : ∀ (H1 : Heap) (locs1 : List Loc) (L2 : List Nat), m_St D dA X A s.heap H1 locs1 (L ++ L2) r.2.1 → W p l e R s m args below meth c H1 locs1 (cells + r.2.2.1) (slots + r.2.2.2.1) Q (F0 m (pc + 3) ls ((r.1.map (m_tr X (L ++ L2))).toList ++ rest.map (m_tr X L)))) : W p l e R s m args below meth c H locs cells slots Q (F0 m pc ls (st.map (m_tr X L))) := by
  have hM2 := hM D dA X L H.size hS.1 hS.2.1
  have hR : (m_room r).frames + 1 ≤ R.frames ∧ 8 + (J.2.2.1 + 11) + (m_room r).locals ≤ R.locals := ⟨hfr, hlo⟩
  unfold m_ca at h
  split at h
  · split at h
    · rename_i k x9 kd mid q3 hce
      split at h
      · rename_i hkd
        split at h
        · rename_i J2 hJ2
          obtain ⟨a, e1, e2, e3, e4, e5⟩ := m_takeI_inv h
          cases e1
          have hJ := m_mt_ok J (List.mem_of_getElem? hJ2)
          have hstk : st.map (m_tr X L) = (((st.take J.2.2.2.1).reverse).map (m_tr X L)).reverse ++ .ref (m_ad X L a) :: (st.drop (J.2.2.2.1 + 1)).map (m_tr X L) := by
            rw [List.map_reverse, List.reverse_reverse]
            conv => lhs; rw [e2]
            rw [List.map_append, List.map_cons]; rfl
          have hlen : ((((st.take J.2.2.2.1).reverse).map (m_tr X L))).length = J.2.2.2.1 := by rw [List.length_map, List.length_reverse, e3]
          have hcat : 2 * (F0 m pc ls (st.map (m_tr X L))).monitorRoom + (((st.drop (J.2.2.2.1 + 1)).map (m_tr X L)).map fun v => v.category).sum ≤ 8 := by
            rw [m_cat_sum]; show 2 * 0 + _ ≤ 8; omega
          have hp := m_pre hA hS hK hE ((.ref (m_ad X L a)) :: ((st.take J.2.2.2.1).reverse).map (m_tr X L))
          have hco := (hI.2.2.2.2.2.2.1 _ (m_ce_mem hce)).2.2.2
          obtain ⟨J3, g1, g2, -, -, g3⟩ := hco (by rcases hkd with rfl | rfl <;> exact Nat.le_of_ble_eq_true rfl)
          cases hJ2.symm.trans g1
          rcases hkd with rfl | rfl
          · obtain ⟨f1, f0, f2, f3⟩ := g2 rfl
            have hTs : m_Ts J = Cond.code J.1 J.2.1 J.2.2.1 none :: m_gt := by unfold m_Ts; rw [f0]
            exact m_go hA hS (va_runI (Ts := m_gt) (own := I.1.cls) (nL := I.2.2.1) (b := m_ad X L a) (As := ((st.take J.2.2.2.1).reverse).map (m_tr X L)) (rest := (st.drop (J.2.2.2.1 + 1)).map (m_tr X L)) ⟨hx, hb, hml, hown, hts⟩ hM2 (cwI J.2.2.2.1 hts (m_good (m_Ts_in hJ)) hTs rfl rfl (hts _ hJ.2.1) (hts _ f2) (hts _ f3) f1 ⟨hJ.2.2.2.1.1, hJ.2.2.2.1.2, hJ.2.2.2.2.1⟩ hR) hp rfl hlen hls hstk hcat hd ⟨hc, hs⟩) kk
          · obtain ⟨f1, f0, f2, host, f3⟩ := g3 rfl
            have hTs : m_Ts J = Cond.code J.1 J.2.1 J.2.2.1 none :: m_gt := by unfold m_Ts; rw [f0]
            exact m_go hA hS (va_runIN (Ts := m_gt) (own := I.1.cls) (host := host) (nL := I.2.2.1) (b := m_ad X L a) (As := ((st.take J.2.2.2.1).reverse).map (m_tr X L)) (rest := (st.drop (J.2.2.2.1 + 1)).map (m_tr X L)) ⟨hx, hb, hml, hown, hts⟩ hM2 ⟨va_cnB J.2.2.2.1 hts (m_good (m_Ts_in hJ)) hTs rfl rfl (hK.2.1 _ f3) (hts _ hJ.2.1) ⟨hJ.2.2.2.1.1, hJ.2.2.2.1.2, hJ.2.2.2.2.1⟩ hR, f1, hts _ f2⟩ hp rfl hlen hls hstk hcat hd ⟨hc, hs⟩) kk
        · cases h
      · cases h
    · cases h
  · split at h
    · rename_i k x9 kd mid ci hce
      split at h
      · rename_i hkd
        subst hkd
        split at h
        · rename_i J2 hJ2
          split at h
          · rename_i hrec
            obtain ⟨a, e1, e2, e3, e4, e5⟩ := m_takeI_inv h
            cases e1
            have hJ := m_mt_ok J (List.mem_of_getElem? hJ2)
            have hstk : st.map (m_tr X L) = (((st.take J.2.2.2.1).reverse).map (m_tr X L)).reverse ++ .ref (m_ad X L a) :: (st.drop (J.2.2.2.1 + 1)).map (m_tr X L) := by
              rw [List.map_reverse, List.reverse_reverse]
              conv => lhs; rw [e2]
              rw [List.map_append, List.map_cons]; rfl
            have hlen : ((((st.take J.2.2.2.1).reverse).map (m_tr X L))).length = J.2.2.2.1 := by rw [List.length_map, List.length_reverse, e3]
            have hcat : 2 * (F0 m pc ls (st.map (m_tr X L))).monitorRoom + (((st.drop (J.2.2.2.1 + 1)).map (m_tr X L)).map fun v => v.category).sum ≤ 8 := by
              rw [m_cat_sum]; show 2 * 0 + _ ≤ 8; omega
            have hp := m_pre hA hS hK hE ((.ref (m_ad X L a)) :: ((st.take J.2.2.2.1).reverse).map (m_tr X L))
            have hco := (hI.2.2.2.2.2.2.1 _ (m_ce_mem hce)).2.2.2
            obtain ⟨J3, g1, -, g2, -, -⟩ := hco (Nat.le_of_ble_eq_true rfl)
            cases hJ2.symm.trans g1
            obtain ⟨f1, f2, rr, f3, f4, f5⟩ := g2 rfl
            have hrv : ∃ cell : Cell, H[m_ad X L a]? = some cell ∧ cell.vm.isStatics = false ∧ s.vm.findClass rr.1 = some cell.cls := by
              unfold m_isRecv at hrec
              rw [e4] at hrec
              simp only at hrec
              split at hrec
              · rename_i cj fs hat
                have hcj := of_decide_eq_true hrec
                subst hcj
                obtain ⟨h5, h6⟩ := m_at_L (X := X) hS.1 hat
                exact va_recv hK.1 hS.2.2.1 f3 (m_wd_get (X := X) (dA := dA) h5 h6)
              · cases hrec
              · obtain ⟨rfl, ha1, ha2⟩ := of_decide_eq_true hrec
                cases f3
                have h9 : a < 512 := Nat.lt_of_le_of_lt ha2 (by decide)
                obtain ⟨cell, k1, k2, k3, -⟩ := (hE.2.2.2.1 a ha1 ha2).1.kept hS.2.2.2.2.2.1
                exact ⟨cell, by unfold m_ad; rw [if_pos h9]; exact k1, k2, k3⟩
            have hgo : GoodIn m_gt (wsV I.1.cls k J.1.cls J.1 (m_Ts J)) := m_good (fun w9 hw9 => by
              rcases List.mem_append.mp hw9 with h9 | h9
              · simp only [List.mem_cons, List.mem_nil_iff, or_false] at h9
                rcases h9 with rfl | rfl | rfl | rfl
                · exact f1
                · exact f2
                · exact f5
                · exact hJ.2.1
              · exact m_Ts_in hJ w9 h9)
            exact m_go hA hS (va_runV (Ts := m_gt) (own := I.1.cls) (C := J.1.cls) (nL := I.2.2.1) (b := m_ad X L a) (As := ((st.take J.2.2.2.1).reverse).map (m_tr X L)) (rest := (st.drop (J.2.2.2.1 + 1)).map (m_tr X L)) ⟨hx, hb, hml, hown, hts⟩ hM2 (cwV J.2.2.2.1 hts hgo rfl rfl rfl ⟨rfl, hJ.2.2.2.1.1, hJ.2.2.2.1.2, hJ.2.2.2.2.1⟩ hR) ⟨hp.1, by rw [← f4]; exact hrv, hp.2⟩ rfl hlen hls hstk hcat hd ⟨hc, hs⟩) kk
          · cases h
        · cases h
      · cases h
    · cases h
  · split at h
    · rename_i k x9 kd mid q3 hce
      split at h
      · rename_i hkd
        subst hkd
        split at h
        · rename_i J2 hJ2
          obtain ⟨e1, e2, e3, e5⟩ := m_takeS_inv h
          cases e1
          have hJ := m_mt_ok J (List.mem_of_getElem? hJ2)
          have hstk : st.map (m_tr X L) = (((st.take J.2.2.2.1).reverse).map (m_tr X L)).reverse ++ (st.drop J.2.2.2.1).map (m_tr X L) := by
            rw [List.map_reverse, List.reverse_reverse]
            conv => lhs; rw [e2]
            rw [List.map_append]
          have hlen : ((((st.take J.2.2.2.1).reverse).map (m_tr X L))).length = J.2.2.2.1 := by rw [List.length_map, List.length_reverse, e3]
          have hcat : 2 * (F0 m pc ls (st.map (m_tr X L))).monitorRoom + (((st.drop J.2.2.2.1).map (m_tr X L)).map fun v => v.category).sum ≤ 8 := by
            rw [m_cat_sum]; show 2 * 0 + _ ≤ 8; omega
          have hp := m_pre hA hS hK hE (((st.take J.2.2.2.1).reverse).map (m_tr X L))
          have hco := (hI.2.2.2.2.2.2.1 _ (m_ce_mem hce)).2.2.2
          obtain ⟨J3, g1, -, -, g2, -⟩ := hco (Nat.le_of_ble_eq_true rfl)
          cases hJ2.symm.trans g1
          obtain ⟨f1, f2⟩ := g2 rfl
          have hgo : GoodIn m_gt (va_wsS I.1.cls k J.1 (m_Ts J)) := m_good (fun w9 hw9 => by
            rcases List.mem_append.mp hw9 with h9 | h9
            · simp only [List.mem_cons, List.mem_nil_iff, or_false] at h9
              rcases h9 with rfl | rfl | rfl
              · exact f1
              · exact f2
              · exact hJ.2.1
            · exact m_Ts_in hJ w9 h9)
          exact m_go hA hS (va_runS (Ts := m_gt) (own := I.1.cls) (nL := I.2.2.1) (As := ((st.take J.2.2.2.1).reverse).map (m_tr X L)) (rest := (st.drop J.2.2.2.1).map (m_tr X L)) ⟨hx, hb, hml, hown, hts⟩ hM2 (va_cwS J.2.2.2.1 hts hgo rfl rfl rfl ⟨hJ.2.2.2.1.1, hJ.2.2.2.1.2, hJ.2.2.2.2.1⟩ hR) hp rfl hlen hls hstk hcat hd ⟨hc, hs⟩) kk
        · cases h
      · cases h
    · cases h
  · cases h
end MC
end
section
/-! A run of the small machine is a run of the machine. -/
theorem m_lvargs (X : Nat → Nat) (L : List Nat) : ∀ (as : List Value) (n : Nat), lv_args n (as.map (m_tr X L)) = m_lvt X L (lv_args n as)
  | [], _ => rfl
  | v :: as, n => by
    show (n, m_tr X L v) :: lv_args (if (m_tr X L v).category = 2 then n + 2 else n + 1) (as.map (m_tr X L)) = (n, m_tr X L v) :: m_lvt X L (lv_args (if v.category = 2 then n + 2 else n + 1) as)
    rw [m_tr_cat, m_lvargs X L as]
theorem m_lgsl (X : Nat → Nat) (L : List Nat) (as : List Value) : (lg_sl (as.map (m_tr X L))).length = (lg_sl as).length := by
  unfold lg_sl
  induction as with
  | nil => rfl
  | cons v as ih =>
    rw [List.map_cons, List.flatMap_cons, List.flatMap_cons, List.length_append, List.length_append, ih, m_tr_cat]
    congr 1
    split <;> rfl
section MS
variable {p : Program} {l : Launch} {e : Env} {R : Room} {s : State} {m : MethodId} {args : Array Value} {below : List Frame} {meth : Method} {c : Code} {H : Heap} {locs : List Loc} {cells slots : Nat} {Q : State → Prop} {I J : mI} {X : Nat → Nat} {L : List Nat} {pc len : Nat} {ls : Array Slot} {i : Instr} {st st' : List Value} {w w' : List mM} {D : va_G} {dA : Nat → ClassId} {A : Nat → Prop} {dc ds : Nat}
theorem m_k0 (kk : ∀ (H1 : Heap) (locs1 : List Loc) (L2 : List Nat), m_St D dA X A s.heap H1 locs1 (L ++ L2) w' → W p l e R s m args below meth c H1 locs1 (cells + dc) (slots + ds) Q (F0 m (pc + len) ls (st'.map (m_tr X (L ++ L2))))) (h1 : dc = 0) (h2 : ds = 0) (H1 : Heap) (locs1 : List Loc) (hS : m_St D dA X A s.heap H1 locs1 L w') : W p l e R s m args below meth c H1 locs1 cells slots Q (F0 m (pc + len) ls (st'.map (m_tr X L))) := by
  subst h1 h2
  have g := kk H1 locs1 [] (by rw [List.append_nil]; exact hS)
  rw [List.append_nil] at g
  exact g
theorem m_hs_sound (hx : p.tables.exec = Jvm.exec) (hb : c.code = I.2.1) (hown : s.vm.findClass I.1.cls = some m.cls) (hts : ∀ w ∈ m_gt, w.before args s = true) (hnm : meth.name = I.1.name) (hK : m_Kx D dA s) (hE : m_Ex X A s s.heap) (hA : ∀ q, s.heap.size ≤ q → A q) (hI : m_bOk I) (hS : m_St D dA X A s.heap H locs L w) (hd : decode I.2.1 pc = .ok (i, len)) (h : m_hs I i st w = some (len, st', w', dc, ds)) (hok : dc = 0 ∨ m_oks L.length st) (hc : cells + dc ≤ R.cells) (hs : slots + ds ≤ R.slots)
    (kk : ∀ (H1 : Heap) (locs1 : List Loc) (L2 : List Nat), m_St D dA X A s.heap H1 locs1 (L ++ L2) w' → W p l e R s m args below meth c H1 locs1 (cells + dc) (slots + ds) Q (F0 m (pc + len) ls (st'.map (m_tr X (L ++ L2))))) : W p l e R s m args below meth c H locs cells slots Q (F0 m pc ls (st.map (m_tr X L))) := by
  unfold m_hs at h
  split at h
  · exact m_getf_sound hx hb hown hts hK hI hS hd h (fun e1 e2 e3 => m_k0 kk e2 e3 H locs (e1 ▸ hS))
  · exact m_putf_sound hx hb hown hts hnm hK hI hS hd h (fun H1 locs1 hS1 e2 e3 => m_k0 kk e2 e3 H1 locs1 hS1)
  · rename_i k
    have h1 : dc ≠ 0 := by
      unfold m_new at h
      split at h
      · split at h
        · cases h; decide
        · cases h
      · cases h
    exact m_new_sound hx hb hown hts hK hA hI hS hd h (hok.resolve_left h1) hc hs (fun H1 a hS1 => kk H1 locs [a] hS1)
  · rename_i k
    have h1 : dc ≠ 0 := by
      unfold m_newa at h
      split at h
      · unfold m_mka at h
        split at h
        · split at h
          · cases h
          · cases h; decide
        · cases h
      · cases h
    exact m_newa_sound hx hb hts hK hA hS hd h (hok.resolve_left h1) hc hs (fun H1 a hS1 => kk H1 locs [a] hS1)
  · rename_i k
    have h1 : dc ≠ 0 := by
      unfold m_anew at h
      split at h
      · unfold m_mka at h
        split at h
        · split at h
          · cases h
          · cases h; decide
        · cases h
      · cases h
    exact m_anew_sound hx hb hown hts hK hA hI hS hd h (hok.resolve_left h1) hc hs (fun H1 a hS1 => kk H1 locs [a] hS1)
  · exact m_alen_sound hx hb hK hS hd h (fun e1 e2 e3 => m_k0 kk e2 e3 H locs (e1 ▸ hS))
  · exact m_ald_sound hx hb hK hS hd (Or.inl ⟨rfl, rfl⟩) h (fun e1 e2 e3 => m_k0 kk e2 e3 H locs (e1 ▸ hS))
  · exact m_ald_sound hx hb hK hS hd (Or.inr (Or.inl ⟨rfl, rfl⟩)) h (fun e1 e2 e3 => m_k0 kk e2 e3 H locs (e1 ▸ hS))
  · exact m_ald_sound hx hb hK hS hd (Or.inr (Or.inr (Or.inl ⟨rfl, rfl⟩))) h (fun e1 e2 e3 => m_k0 kk e2 e3 H locs (e1 ▸ hS))
  · exact m_ald_sound hx hb hK hS hd (Or.inr (Or.inr (Or.inr ⟨rfl, rfl⟩))) h (fun e1 e2 e3 => m_k0 kk e2 e3 H locs (e1 ▸ hS))
  · exact m_aald_sound hx hb hK hS hd h (fun e1 e2 e3 => m_k0 kk e2 e3 H locs (e1 ▸ hS))
  · exact m_ast_sound hx hb hK hS hd (Or.inl ⟨rfl, rfl⟩) h (fun H1 locs1 hS1 e2 e3 => m_k0 kk e2 e3 H1 locs1 hS1)
  · exact m_ast_sound hx hb hK hS hd (Or.inr (Or.inl ⟨rfl, rfl⟩)) h (fun H1 locs1 hS1 e2 e3 => m_k0 kk e2 e3 H1 locs1 hS1)
  · exact m_ast_sound hx hb hK hS hd (Or.inr (Or.inr ⟨rfl, rfl⟩)) h (fun H1 locs1 hS1 e2 e3 => m_k0 kk e2 e3 H1 locs1 hS1)
  · exact m_last_sound hx hb hK hS hd h (fun H1 locs1 hS1 e2 e3 => m_k0 kk e2 e3 H1 locs1 hS1)
  · exact m_aast_sound hx hb hK hS hd h (fun H1 locs1 hS1 e2 e3 => m_k0 kk e2 e3 H1 locs1 hS1)
  · exact m_gst_sound hx hb hown hts hE hI hS hd h (fun e1 e2 e3 => m_k0 kk e2 e3 H locs (e1 ▸ hS))
  · exact m_ldc_sound hx hb hown hts hI hd (Or.inl ⟨rfl, rfl⟩) h (fun e1 e2 e3 => m_k0 kk e2 e3 H locs (e1 ▸ hS))
  · exact m_ldc_sound hx hb hown hts hI hd (Or.inr ⟨rfl, rfl⟩) h (fun e1 e2 e3 => m_k0 kk e2 e3 H locs (e1 ▸ hS))
  · exact m_ldc2_sound hx hb hown hts hI hd h (fun e1 e2 e3 => m_k0 kk e2 e3 H locs (e1 ▸ hS))
  · cases h
theorem m_c0_sound (hx : p.tables.exec = Jvm.exec) (hb : c.code = I.2.1) (hml : c.maxLocals = I.2.2.1) (hls : ls.size = I.2.2.1) (hown : s.vm.findClass I.1.cls = some m.cls) (hts : ∀ w ∈ m_gt, w.before args s = true) (hI : m_bOk I) (hd : decode I.2.1 pc = .ok (i, 3)) {f9 l9 : Nat} (h : m_c0 I i st = some (st', f9, l9)) (hf : f9 ≤ R.frames) (hl : l9 ≤ R.locals) (hc : cells ≤ R.cells) (hs : slots ≤ R.slots)
    (kk : W p l e R s m args below meth c H locs cells slots Q (F0 m (pc + 3) ls (st'.map (m_tr X L)))) : W p l e R s m args below meth c H locs cells slots Q (F0 m pc ls (st.map (m_tr X L))) := by
  unfold m_c0 at h
  split at h
  · split at h
    · rename_i hce
      split at h
      · rename_i h8
        cases h
        refine W.objInit hx hb hown (hts _ ((hI.2.2.2.2.2.2.1 _ (m_ce_mem hce)).1 rfl)) (hts _ m_oi_i) (hts _ m_oi_c) rfl (hls.trans hml.symm) rfl hd hf ?_ kk
        rw [m_cat_sum]
        show 2 * 0 + _ + 12 ≤ _
        omega
      · cases h
    · cases h
  · split at h
    · rename_i hce
      split at h
      · rename_i h8
        cases h
        refine va_mmax hx hb (hml.trans hls.symm) hown (hts _ ((hI.2.2.2.2.2.2.1 _ (m_ce_mem hce)).2.1 rfl)) (hts _ m_max_s) (hts _ m_math_i) (hts _ m_max_c) hf ?_ hc hs hd kk
        rw [m_cat_sum]
        omega
      · cases h
    · rename_i hce
      split at h
      · rename_i h8
        cases h
        refine va_mmin hx hb (hml.trans hls.symm) hown (hts _ ((hI.2.2.2.2.2.2.1 _ (m_ce_mem hce)).2.2.1 rfl)) (hts _ m_min_s) (hts _ m_math_i) (hts _ m_min_c) hf ?_ hc hs hd kk
        rw [m_cat_sum]
        omega
      · cases h
    · cases h
  · cases h
theorem m_re_sound (hx : p.tables.exec = Jvm.exec) (hb : c.code = I.2.1) (hr : meth.sig.returnType = I.2.2.2.2.1) (hlocks : meth.locks = false) {Qc : Array Value → State → Outcome → State → Prop} {v : Option Value} (hd : decode I.2.1 pc = .ok (i, len)) (h : m_re I i len st = some v) (hq : ∀ t : State, t.heap = H → Qc args s (.returned (v.map (m_tr X L))) t) (hf : ∀ q ∈ locs, A q.base) : W p l e R s m args below meth c H locs cells slots (MQ below Qc args s cells slots A) (F0 m pc ls (st.map (m_tr X L))) := by
  unfold m_re at h
  split at h
  · rename_i hret
    split at h
    · rename_i h1; subst h1; cases h
      exact W.vret hx hb (hr.trans hret) (fun t ht _ => hq t ht) hf hd hlocks
    · cases h
  · rename_i hret
    split at h
    · rename_i h1; obtain ⟨h1, h2⟩ := h1; subst h1; cases h
      exact W.zret hx hb (hr.trans hret) h2 (fun t ht _ => hq t ht) hf hd hlocks
    · cases h
  · rename_i hret
    split at h
    · rename_i h1; subst h1; cases h
      exact W.lret hx hb (hr.trans hret) (fun t ht _ => hq t ht) hf hd hlocks
    · cases h
  · rename_i hret
    split at h
    · rename_i h1; subst h1; cases h
      exact W.aret hx hb (hr.trans hret) (Or.inl ⟨_, rfl⟩) (Or.inl rfl) (fun t ht _ => hq t ht) hf hd hlocks
    · cases h
  · rename_i hret
    split at h
    · rename_i h1; subst h1; cases h
      exact W.aret hx hb (hr.trans hret) (Or.inl ⟨_, rfl⟩) (Or.inr ⟨_, rfl⟩) (fun t ht _ => hq t ht) hf hd hlocks
    · cases h
  · rename_i hret
    split at h
    · rename_i h1; subst h1; cases h
      exact W.aret hx hb (hr.trans hret) (Or.inr ⟨_, rfl⟩) (Or.inl rfl) (fun t ht _ => hq t ht) hf hd hlocks
    · cases h
  · rename_i hret
    split at h
    · rename_i h1; subst h1; cases h
      exact W.aret hx hb (hr.trans hret) (Or.inr ⟨_, rfl⟩) (Or.inr ⟨_, rfl⟩) (fun t ht _ => hq t ht) hf hd hlocks
    · cases h
  · cases h
end MS
end
section
/-! The main theorem on the small machine: what it runs, the machine runs; and the contract of a method out of a run. -/
def m_Good (l : Launch) (I : mI) (F : mF) (r : mR) : Prop := ∀ (p : Program) (e : Env) (R : Room) (s : State) (m : MethodId) (args : Array Value) (below : List Frame) (meth : Method) (c : Code) (H : Heap) (locs : List Loc) (cells slots : Nat) (ls : Array Slot) (D : va_G) (dA : Nat → ClassId) (X : Nat → Nat) (A : Nat → Prop) (L0 L1 : List Nat),
  p.tables.exec = Jvm.exec → c.code = I.2.1 → c.maxLocals = I.2.2.1 → s.vm.findClass I.1.cls = some m.cls → (∀ w ∈ m_gt, w.before args s = true) → meth.name = I.1.name → meth.sig.returnType = I.2.2.2.2.1 → meth.locks = false → m_Kx D dA s → m_Ex X A s s.heap → (∀ q, s.heap.size ≤ q → A q) →
  m_St D dA X A s.heap H locs (L0 ++ L1) F.2.2.2 → lv_has ls I.2.2.1 (m_lvt X (L0 ++ L1) F.2.1) → cells + r.2.2.1 ≤ R.cells → slots + r.2.2.2.1 ≤ R.slots → r.2.2.2.2.1 ≤ R.frames → r.2.2.2.2.2 ≤ R.locals →
  W p l e R s m args below meth c H locs cells slots (MQ below (m_Qc D dA X L0 A r.1 r.2.1) args s (cells + r.2.2.1) (slots + r.2.2.2.1) A) (F0 m F.1 ls (F.2.2.1.map (m_tr X (L0 ++ L1))))
theorem m_hs_len {I : mI} {i : Instr} {st st' : List Value} {w w' : List mM} {n dc ds : Nat} (h : m_hs I i st w = some (n, st', w', dc, ds)) (h0 : dc = 0) : w'.length = w.length := by
  unfold m_hs at h
  split at h
  · unfold m_getf at h
    repeat' split at h
    all_goals first | (cases h; done) | (cases h; first | rfl | exact List.length_set | (cases h0; done))
  · unfold m_putf at h
    repeat' split at h
    all_goals first | (cases h; done) | (cases h; first | rfl | exact List.length_set | (cases h0; done))
  · unfold m_new at h
    repeat' split at h
    all_goals first | (cases h; done) | (cases h; first | rfl | exact List.length_set | (cases h0; done))
  · unfold m_newa m_mka at h
    repeat' split at h
    all_goals first | (cases h; done) | (cases h; first | rfl | exact List.length_set | (cases h0; done))
  · unfold m_anew m_mka at h
    repeat' split at h
    all_goals first | (cases h; done) | (cases h; first | rfl | exact List.length_set | (cases h0; done))
  · unfold m_alen at h
    repeat' split at h
    all_goals first | (cases h; done) | (cases h; first | rfl | exact List.length_set | (cases h0; done))
  · unfold m_ald at h
    repeat' split at h
    all_goals first | (cases h; done) | (cases h; first | rfl | exact List.length_set | (cases h0; done))
  · unfold m_ald at h
    repeat' split at h
    all_goals first | (cases h; done) | (cases h; first | rfl | exact List.length_set | (cases h0; done))
  · unfold m_ald at h
    repeat' split at h
    all_goals first | (cases h; done) | (cases h; first | rfl | exact List.length_set | (cases h0; done))
  · unfold m_ald at h
    repeat' split at h
    all_goals first | (cases h; done) | (cases h; first | rfl | exact List.length_set | (cases h0; done))
  · unfold m_aald at h
    repeat' split at h
    all_goals first | (cases h; done) | (cases h; first | rfl | exact List.length_set | (cases h0; done))
  · unfold m_ast at h
    repeat' split at h
    all_goals first | (cases h; done) | (cases h; first | rfl | exact List.length_set | (cases h0; done))
  · unfold m_ast at h
    repeat' split at h
    all_goals first | (cases h; done) | (cases h; first | rfl | exact List.length_set | (cases h0; done))
  · unfold m_ast at h
    repeat' split at h
    all_goals first | (cases h; done) | (cases h; first | rfl | exact List.length_set | (cases h0; done))
  · unfold m_last at h
    repeat' split at h
    all_goals first | (cases h; done) | (cases h; first | rfl | exact List.length_set | (cases h0; done))
  · unfold m_aast at h
    repeat' split at h
    all_goals first | (cases h; done) | (cases h; first | rfl | exact List.length_set | (cases h0; done))
  · unfold m_gst at h
    repeat' split at h
    all_goals first | (cases h; done) | (cases h; first | rfl | exact List.length_set | (cases h0; done))
  · unfold m_ldc at h
    repeat' split at h
    all_goals first | (cases h; done) | (cases h; first | rfl | exact List.length_set | (cases h0; done))
  · unfold m_ldc at h
    repeat' split at h
    all_goals first | (cases h; done) | (cases h; first | rfl | exact List.length_set | (cases h0; done))
  · unfold m_ldc2 at h
    repeat' split at h
    all_goals first | (cases h; done) | (cases h; first | rfl | exact List.length_set | (cases h0; done))
  · cases h
theorem m_okf_st {F : mF} (h : m_okf F = true) : m_oks F.2.2.2.length F.2.2.1 ∧ ∀ q ∈ F.2.1, m_okv F.2.2.2.length q.2 = true := by
  unfold m_okf at h
  rw [Bool.and_eq_true, List.all_eq_true, List.all_eq_true] at h
  exact ⟨h.2, h.1⟩
theorem m_ca_as {I J : mI} {i : Instr} {st : List Value} {w : List mM} {as rest : List Value} (h : m_ca I i st w = some (J, as, rest)) : (∀ v ∈ rest, v ∈ st) ∧ J ∈ m_mt := by
  have hd : ∀ n, ∀ v ∈ st.drop n, v ∈ st := fun n v hv => List.mem_of_mem_drop hv
  unfold m_ca at h
  split at h
  · split at h
    · split at h
      · split at h
        · rename_i hJ
          obtain ⟨a, e1, -⟩ := m_takeI_inv h
          cases e1
          exact ⟨hd _, List.mem_of_getElem? hJ⟩
        · cases h
      · cases h
    · cases h
  · split at h
    · split at h
      · split at h
        · rename_i hJ
          split at h
          · obtain ⟨a, e1, -⟩ := m_takeI_inv h
            cases e1
            exact ⟨hd _, List.mem_of_getElem? hJ⟩
          · cases h
        · cases h
      · cases h
    · cases h
  · split at h
    · split at h
      · split at h
        · rename_i hJ
          obtain ⟨e1, -⟩ := m_takeS_inv h
          cases e1
          exact ⟨hd _, List.mem_of_getElem? hJ⟩
        · cases h
      · cases h
    · cases h
  · cases h
theorem m_Met_of {l : Launch} {J : mI} (hJ : m_mOk J) {as : List Value} {w : List mM} {r : mR} (hfit : (lg_sl as).length ≤ J.2.2.1) (h : m_Good l J (m_ent J as w) r) : m_Met l J as w r := by
  intro D dA X L sz hL hok
  refine Met.ofW (cc := J.2.1) (maxL := J.2.2.1) (ret := J.2.2.2.2.1) hJ.2.2.1 rfl ?_
  intro p e s m args below meth c s₁ B hml hv
  obtain ⟨rfl, rfl, hP, hD0, hK, hE⟩ := hv
  have hts := atoms_spec (ws := m_Ts J) B.pre
  have hts2 : ∀ w ∈ m_gt, w.before (as.map (m_tr X L)).toArray s = true := fun w hw => hts w (List.mem_cons_of_mem _ hw)
  have hl := lv_entry (as.map (m_tr X L)) (n := J.2.2.1) (by rw [m_lgsl]; exact hfit)
  rw [lg_entry_eq]
  generalize (lg_sl (as.map (m_tr X L)) ++ List.replicate (J.2.2.1 - (lg_sl (as.map (m_tr X L))).length) Slot.unset).toArray = ls at hl ⊢
  rw [m_lvargs] at hl
  have g := h p e (headSpec (m_Ts J) (m_room r)).room s m (as.map (m_tr X L)).toArray below meth c s.heap [] 0 0 ls D dA X (va_A (m_wd X L dA w) s.heap.size) L [] B.exec B.bytes hml (findClass_of_methodNamed B.named) hts2 (name_of_methodNamed B.named B.method).1 B.returns B.notSynchronized hK hE (fun q hq => Or.inr hq) (by rw [List.append_nil]; exact ⟨hL, hok, hP, hD0.self, va_S.rf⟩) (by rw [List.append_nil]; exact hl) (by rw [Nat.zero_add]; exact Nat.le_refl _) (by rw [Nat.zero_add]; exact Nat.le_refl _) (Nat.le_refl _) (Nat.le_refl _)
  rw [Nat.zero_add, Nat.zero_add] at g
  exact g
/-- from F the machine comes to F', with dc cells of ds slots, in the room of fr frames and lo words -/
def m_Step (l : Launch) (I : mI) (F F' : mF) (dc ds fr lo : Nat) : Prop := ∀ (p : Program) (e : Env) (R : Room) (s : State) (m : MethodId) (args : Array Value) (below : List Frame) (meth : Method) (c : Code) (H : Heap) (locs : List Loc) (cells slots : Nat) (ls : Array Slot) (D : va_G) (dA : Nat → ClassId) (X : Nat → Nat) (A : Nat → Prop) (L : List Nat) (Q : State → Prop),
  p.tables.exec = Jvm.exec → c.code = I.2.1 → c.maxLocals = I.2.2.1 → s.vm.findClass I.1.cls = some m.cls → (∀ w ∈ m_gt, w.before args s = true) → meth.name = I.1.name → m_Kx D dA s → m_Ex X A s s.heap → (∀ q, s.heap.size ≤ q → A q) →
  m_St D dA X A s.heap H locs L F.2.2.2 → lv_has ls I.2.2.1 (m_lvt X L F.2.1) → cells + dc ≤ R.cells → slots + ds ≤ R.slots → fr ≤ R.frames → lo ≤ R.locals →
  (∀ (H1 : Heap) (locs1 : List Loc) (L2 : List Nat) (ls' : Array Slot), m_St D dA X A s.heap H1 locs1 (L ++ L2) F'.2.2.2 → lv_has ls' I.2.2.1 (m_lvt X (L ++ L2) F'.2.1) → W p l e R s m args below meth c H1 locs1 (cells + dc) (slots + ds) Q (F0 m F'.1 ls' (F'.2.2.1.map (m_tr X (L ++ L2))))) →
  W p l e R s m args below meth c H locs cells slots Q (F0 m F.1 ls (F.2.2.1.map (m_tr X L)))
theorem m_nx_sound (l : Launch) {ic : mI → mF → Option mR} {I : mI} {F F' : mF} {dc ds fr lo : Nat} (hI : m_bOk I) (hic : ∀ J G r, m_bOk J → ic J G = some r → m_Good l J G r) (h : m_nx ic I F = some (F', dc, ds, fr, lo)) : m_Step l I F F' dc ds fr lo := by
  intro p e R s m args below meth c H locs cells slots ls D dA X A L Q hx hb hml hown hts hnm hK hE hA hS hl hc hs hfr hlo kk
  have hlen : L.length = F.2.2.2.length := hS.1
  have k0 : F'.2.2.2 = F.2.2.2 → dc = 0 → ds = 0 → ∀ ls' : Array Slot, lv_has ls' I.2.2.1 (m_lvt X L F'.2.1) → W p l e R s m args below meth c H locs cells slots Q (F0 m F'.1 ls' (F'.2.2.1.map (m_tr X L))) := by
    intro e1 e2 e3 ls' hl'
    subst e2 e3
    have g := kk H locs [] ls' (by rw [List.append_nil, e1]; exact hS) (by rw [List.append_nil]; exact hl')
    rw [List.append_nil] at g
    exact g
  unfold m_nx at h
  split at h
  · rename_i i len hde
    have hd := m_de_ok hI hde
    split at h
    · rename_i n st' hps
      split at h
      · rename_i hn
        subst hn
        cases h
        exact m_ps_sound hx hb hd hps (k0 rfl rfl rfl ls hl)
      · cases h
    · split at h
      · rename_i n lv' st' hlo9
        split at h
        · rename_i hn
          subst hn
          cases h
          exact m_lo_sound hx hb hl hd hlo9 (fun ls' hl' => k0 rfl rfl rfl ls' hl')
        · cases h
      · split at h
        · rename_i pc' st' hbr
          cases h
          refine m_br_sound hx hb ?_ ?_ hd (by rw [hlen]; exact hbr) (k0 rfl rfl rfl ls hl)
          · intro i9 j9 a9 h1 h2
            have w1 : i9 < F.2.2.2.length := by rw [← hlen]; exact (List.getElem?_eq_some_iff.mp h1).1
            have w2 : j9 < F.2.2.2.length := by rw [← hlen]; exact (List.getElem?_eq_some_iff.mp h2).1
            exact hS.2.2.2.1.1 i9 j9 _ _ (m_wd_get (X := X) (dA := dA) h1 (List.getElem?_eq_getElem w1)) (m_wd_get (X := X) (dA := dA) h2 (List.getElem?_eq_getElem w2)) rfl
          · intro k9 i9 a9 hk h1 he
            have w1 : i9 < F.2.2.2.length := by rw [← hlen]; exact (List.getElem?_eq_some_iff.mp h1).1
            have := hS.2.2.2.1.2 i9 _ (m_wd_get (X := X) (dA := dA) h1 (List.getElem?_eq_getElem w1))
            exact hE.2.1 k9 hk (by rw [← he]; exact this)
        · split at h
          · rename_i n st' w' dc9 ds9 hhs
            split at h
            · rename_i hn
              obtain ⟨rfl, hdc⟩ := hn
              cases h
              refine m_hs_sound hx hb hown hts hnm hK hE hA hI hS hd hhs (hdc.imp id (fun h9 => by rw [hlen]; exact (m_okf_st h9).1)) hc hs (fun H1 locs1 L2 hS1 => kk H1 locs1 L2 ls hS1 ?_)
              rcases hdc with h9 | h9
              · have hw9 : F.2.2.2.length = w'.length := (m_hs_len hhs h9).symm
                have h2 : L2 = [] := by
                  have := hS1.1
                  rw [List.length_append, hlen, hw9] at this
                  exact List.eq_nil_of_length_eq_zero (by omega)
                rw [h2, List.append_nil]; exact hl
              · rw [m_lvt_ext (fun q hq => by rw [hlen]; exact (m_okf_st h9).2 q hq)]; exact hl
            · cases h
          · split at h
            · rename_i n st' hxs
              split at h
              · rename_i hn
                subst hn
                cases h
                exact m_xs_sound hx hb hown hts hK hE hI hS hd hxs (k0 rfl rfl rfl ls hl)
              · cases h
            · split at h
              · rename_i st' f9 l9 hc0
                split at h
                · rename_i h3
                  subst h3
                  cases h
                  exact m_c0_sound hx hb hml hl.1 hown hts hI hd hc0 hfr hlo hc hs (k0 rfl rfl rfl ls hl)
                · cases h
              · split at h
                · rename_i J as rest hca
                  split at h
                  · rename_i h3
                    obtain ⟨rfl, hokf, hfit⟩ := h3
                    split at h
                    · rename_i r1 hr1
                      cases h
                      obtain ⟨hrest, hJm⟩ := m_ca_as hca
                      have hJ := m_mt_ok J hJm
                      have hM : m_Met l J as F.2.2.2 r1 := m_Met_of hJ hfit (hic J _ r1 hJ.body hr1)
                      refine m_ca_sound hx hb hml hl.1 hown hts hK hE hA hI hS hd hca hM hfr hlo hc hs (fun H1 locs1 L2 hS1 => ?_)
                      have g := kk H1 locs1 L2 ls hS1 (by rw [m_lvt_ext (fun q hq => by rw [hlen]; exact (m_okf_st hokf).2 q hq)]; exact hl)
                      have e9 : rest.map (m_tr X L) = rest.map (m_tr X (L ++ L2)) := (m_trs_ext (fun v hv => by rw [hlen]; exact (m_okf_st hokf).1 v (hrest v hv))).symm
                      have e8 : (r1.1.map (m_tr X (L ++ L2))).toList ++ rest.map (m_tr X L) = (r1.1.toList ++ rest).map (m_tr X (L ++ L2)) := by
                        rw [e9, List.map_append]
                        cases r1.1 <;> rfl
                      rw [e8]
                      exact g
                    · cases h
                  · cases h
                · cases h
  · cases h
theorem m_exec_good (l : Launch) : ∀ (f : Nat) (I : mI) (F : mF) (r : mR), m_bOk I → m_exec f I F = some r → m_Good l I F r := by
  intro f
  induction f with
  | zero => intro I F r _ h; cases h
  | succ f ih =>
    intro I F r hI h
    rw [m_exec_s] at h
    intro p e R s m args below meth c H locs cells slots ls D dA X A L0 L1 hx hb hml hown hts hnm hret hlk hK hE hA hS hl hc hs hfr hlo
    split at h
    · rename_i F' dc ds fr lo hnx
      obtain ⟨r', hr', rfl⟩ := Option.map_eq_some_iff.mp h
      have hc' : (cells + dc) + r'.2.2.1 ≤ R.cells := by rw [Nat.add_assoc]; exact hc
      have hs' : (slots + ds) + r'.2.2.2.1 ≤ R.slots := by rw [Nat.add_assoc]; exact hs
      refine m_nx_sound l hI (fun J G r hJ hr => ih J G r hJ hr) hnx p e R s m args below meth c H locs cells slots ls D dA X A (L0 ++ L1) _ hx hb hml hown hts hnm hK hE hA hS hl (by omega) (by omega) (Nat.le_trans (Nat.le_max_left _ _) hfr) (Nat.le_trans (Nat.le_max_left _ _) hlo) (fun H1 locs1 L2 ls' hS1 hl1 => ?_)
      have g := ih I F' r' hI hr' p e R s m args below meth c H1 locs1 (cells + dc) (slots + ds) ls' D dA X A L0 (L1 ++ L2) hx hb hml hown hts hnm hret hlk hK hE hA (by rw [← List.append_assoc]; exact hS1) (by rw [← List.append_assoc]; exact hl1) hc' hs' (Nat.le_trans (Nat.le_max_right _ _) hfr) (Nat.le_trans (Nat.le_max_right _ _) hlo)
      rw [← List.append_assoc] at g
      show W p l e R s m args below meth c H1 locs1 (cells + dc) (slots + ds) (MQ below (m_Qc D dA X L0 A r'.1 r'.2.1) args s (cells + (dc + r'.2.2.1)) (slots + (ds + r'.2.2.2.1)) A) _
      rw [← Nat.add_assoc, ← Nat.add_assoc]
      exact g
    · split at h
      · rename_i v hrt
        cases h
        unfold m_rt at hrt
        split at hrt
        · rename_i i len hde
          exact m_re_sound hx hb hret hlk (m_de_ok hI hde) hrt (fun t ht => ⟨⟨L1, rfl, hS.1, hS.2.1, by rw [ht]; exact hS.2.2.1, hS.2.2.2.1⟩, hS.2.2.2.2.F ht⟩) hS.2.2.2.2.2.2
        · cases hrt
      · cases h
/-- a stretch of a method -/
theorem m_seg_good (l : Launch) {stop g : Nat} {I : mI} (hI : m_bOk I) : ∀ (f : Nat) (F F' : mF) (dc ds fr lo : Nat), m_seg stop g f I F = some (F', dc, ds, fr, lo) → m_Step l I F F' dc ds fr lo ∧ F'.1 = stop := by
  intro f
  induction f with
  | zero => intro F F' dc ds fr lo h; cases h
  | succ f ih =>
    intro F F' dc ds fr lo h
    rw [m_seg_s] at h
    split at h
    · rename_i hst
      cases h
      refine ⟨?_, hst⟩
      intro p e R s m args below meth c H locs cells slots ls D dA X A L Q hx hb hml hown hts hnm hK hE hA hS hl hc hs hfr hlo kk
      have g := kk H locs [] ls (by rw [List.append_nil]; exact hS) (by rw [List.append_nil]; exact hl)
      rw [List.append_nil] at g
      exact g
    · split at h
      · rename_i F1 c1 s1 f1 l1 hnx
        obtain ⟨⟨F2, c2, s2, f2, l2⟩, h2, e1⟩ := Option.map_eq_some_iff.mp h
        cases e1
        obtain ⟨ih1, ih2⟩ := ih F1 _ c2 s2 f2 l2 h2
        refine ⟨?_, ih2⟩
        intro p e R s m args below meth c H locs cells slots ls D dA X A L Q hx hb hml hown hts hnm hK hE hA hS hl hc hs hfr hlo kk
        have hc : cells + (c1 + c2) ≤ R.cells := hc
        have hs : slots + (s1 + s2) ≤ R.slots := hs
        refine m_nx_sound l hI (fun J G r hJ hr => m_exec_good l g J G r hJ hr) hnx p e R s m args below meth c H locs cells slots ls D dA X A L Q hx hb hml hown hts hnm hK hE hA hS hl (by omega) (by omega) (Nat.le_trans (Nat.le_max_left _ _) hfr) (Nat.le_trans (Nat.le_max_left _ _) hlo) (fun H1 locs1 L2 ls1 hS1 hl1 => ?_)
        refine ih1 p e R s m args below meth c H1 locs1 (cells + c1) (slots + s1) ls1 D dA X A (L ++ L2) Q hx hb hml hown hts hnm hK hE hA hS1 hl1 (by omega) (by omega) (Nat.le_trans (Nat.le_max_right _ _) hfr) (Nat.le_trans (Nat.le_max_right _ _) hlo) (fun H2 locs2 L3 ls2 hS2 hl2 => ?_)
        have g := kk H2 locs2 (L2 ++ L3) ls2 (by rw [← List.append_assoc]; exact hS2) (by rw [← List.append_assoc]; exact hl2)
        rw [← List.append_assoc, ← Nat.add_assoc, ← Nat.add_assoc] at g
        exact g
      · cases h
/-- a method's contract out of a run of the small machine -/
theorem m_exec_met (l : Launch) {f : Nat} {J : mI} (hJ : J ∈ m_mt) {as : List Value} {w : List mM} {r : mR} (hfit : (lg_sl as).length ≤ J.2.2.1) (h : m_exec f J (m_ent J as w) = some r) : m_Met l J as w r := m_Met_of (m_mt_ok J hJ) hfit (m_exec_good l f J _ r (m_mt_ok J hJ).body h)
end
