-- ===== PART A: goes FIRST, ahead of the names: the tables' words, and 'selects' of the private methods out of them =====
/-- a private method of a class that the tables say can be made, by its rows of tables_1 -/
def lw_okq (q : MethodName × Nat) : Prop := (q.1.cls ≠ "java/lang/invoke/MethodHandle" ∧ q.1.cls ≠ "java/lang/invoke/VarHandle") ∧ Cond.instantiable q.1.cls q.2 ∈ tables_1 ∧ Cond.privateMethod q.1 ∈ tables_1 ∧ Cond.instanceMethod q.1 ∈ tables_1
theorem lw_p0 : lw_okq (⟨"ThimbleLaw", "append", "(I)V"⟩, 9) := ⟨⟨by decide +kernel, by decide +kernel⟩, List.mem_of_getElem? (i := 21) (by decide +kernel), List.mem_of_getElem? (i := 390) (by decide +kernel), List.mem_of_getElem? (i := 391) (by decide +kernel)⟩
theorem lw_p1 : lw_okq (⟨"ThimbleLaw$Reader", "scan", "([BI)V"⟩, 8) := ⟨⟨by decide +kernel, by decide +kernel⟩, List.mem_of_getElem? (i := 279) (by decide +kernel), List.mem_of_getElem? (i := 411) (by decide +kernel), List.mem_of_getElem? (i := 412) (by decide +kernel)⟩
theorem lw_p2 : lw_okq (⟨"ThimbleLaw$Reader", "put", "(III)V"⟩, 8) := ⟨⟨by decide +kernel, by decide +kernel⟩, List.mem_of_getElem? (i := 279) (by decide +kernel), List.mem_of_getElem? (i := 479) (by decide +kernel), List.mem_of_getElem? (i := 480) (by decide +kernel)⟩
theorem lw_p3 : lw_okq (⟨"ThimbleLaw$Reader", "next", "()I"⟩, 8) := ⟨⟨by decide +kernel, by decide +kernel⟩, List.mem_of_getElem? (i := 279) (by decide +kernel), List.mem_of_getElem? (i := 489) (by decide +kernel), List.mem_of_getElem? (i := 490) (by decide +kernel)⟩
theorem lw_p4 : lw_okq (⟨"ThimbleLaw$Reader", "clause", "(LThimbleLaw$Text;)Z"⟩, 8) := ⟨⟨by decide +kernel, by decide +kernel⟩, List.mem_of_getElem? (i := 279) (by decide +kernel), List.mem_of_getElem? (i := 493) (by decide +kernel), List.mem_of_getElem? (i := 494) (by decide +kernel)⟩
theorem lw_p5 : lw_okq (⟨"ThimbleLaw$Reader", "fail", "(I)Z"⟩, 8) := ⟨⟨by decide +kernel, by decide +kernel⟩, List.mem_of_getElem? (i := 279) (by decide +kernel), List.mem_of_getElem? (i := 497) (by decide +kernel), List.mem_of_getElem? (i := 498) (by decide +kernel)⟩
theorem lw_p6 : lw_okq (⟨"ThimbleLaw$Reader", "lawOf", "(ILThimbleLaw$Text;)Z"⟩, 8) := ⟨⟨by decide +kernel, by decide +kernel⟩, List.mem_of_getElem? (i := 279) (by decide +kernel), List.mem_of_getElem? (i := 505) (by decide +kernel), List.mem_of_getElem? (i := 506) (by decide +kernel)⟩
theorem lw_p7 : lw_okq (⟨"ThimbleLaw$Reader", "sum", "(ILThimbleLaw$Text;)Z"⟩, 8) := ⟨⟨by decide +kernel, by decide +kernel⟩, List.mem_of_getElem? (i := 279) (by decide +kernel), List.mem_of_getElem? (i := 509) (by decide +kernel), List.mem_of_getElem? (i := 510) (by decide +kernel)⟩
theorem lw_p8 : lw_okq (⟨"ThimbleLaw$Reader", "product", "(ILThimbleLaw$Text;)Z"⟩, 8) := ⟨⟨by decide +kernel, by decide +kernel⟩, List.mem_of_getElem? (i := 279) (by decide +kernel), List.mem_of_getElem? (i := 513) (by decide +kernel), List.mem_of_getElem? (i := 514) (by decide +kernel)⟩
theorem lw_p9 : lw_okq (⟨"ThimbleLaw$Reader", "single", "(ILThimbleLaw$Text;)Z"⟩, 8) := ⟨⟨by decide +kernel, by decide +kernel⟩, List.mem_of_getElem? (i := 279) (by decide +kernel), List.mem_of_getElem? (i := 517) (by decide +kernel), List.mem_of_getElem? (i := 518) (by decide +kernel)⟩
theorem lw_p10 : lw_okq (⟨"ThimbleLaw$Reader", "number", "(LThimbleLaw$Text;)Z"⟩, 8) := ⟨⟨by decide +kernel, by decide +kernel⟩, List.mem_of_getElem? (i := 279) (by decide +kernel), List.mem_of_getElem? (i := 521) (by decide +kernel), List.mem_of_getElem? (i := 522) (by decide +kernel)⟩
theorem lw_p11 : lw_okq (⟨"ThimbleLaw$Reader", "name", "(ILThimbleLaw$Text;)Z"⟩, 8) := ⟨⟨by decide +kernel, by decide +kernel⟩, List.mem_of_getElem? (i := 279) (by decide +kernel), List.mem_of_getElem? (i := 529) (by decide +kernel), List.mem_of_getElem? (i := 530) (by decide +kernel)⟩
theorem lw_p12 : lw_okq (⟨"ThimbleLaw$Reader", "nested", "(IILThimbleLaw$Text;)Z"⟩, 8) := ⟨⟨by decide +kernel, by decide +kernel⟩, List.mem_of_getElem? (i := 279) (by decide +kernel), List.mem_of_getElem? (i := 533) (by decide +kernel), List.mem_of_getElem? (i := 534) (by decide +kernel)⟩
theorem lw_p13 : lw_okq (⟨"ThimbleLaw$Reader", "take", "(I)Z"⟩, 8) := ⟨⟨by decide +kernel, by decide +kernel⟩, List.mem_of_getElem? (i := 279) (by decide +kernel), List.mem_of_getElem? (i := 537) (by decide +kernel), List.mem_of_getElem? (i := 538) (by decide +kernel)⟩
theorem lw_p14 : lw_okq (⟨"ThimbleLaw$Reader", "choice", "(ILThimbleLaw$Text;)Z"⟩, 8) := ⟨⟨by decide +kernel, by decide +kernel⟩, List.mem_of_getElem? (i := 279) (by decide +kernel), List.mem_of_getElem? (i := 541) (by decide +kernel), List.mem_of_getElem? (i := 542) (by decide +kernel)⟩
theorem lw_p15 : lw_okq (⟨"ThimbleLaw$Reader", "either", "(ILThimbleLaw$Text;)Z"⟩, 8) := ⟨⟨by decide +kernel, by decide +kernel⟩, List.mem_of_getElem? (i := 279) (by decide +kernel), List.mem_of_getElem? (i := 545) (by decide +kernel), List.mem_of_getElem? (i := 546) (by decide +kernel)⟩
def lw_privs_1 : List (MethodName × Nat) := [(⟨"ThimbleLaw", "append", "(I)V"⟩, 9), (⟨"ThimbleLaw$Reader", "scan", "([BI)V"⟩, 8), (⟨"ThimbleLaw$Reader", "put", "(III)V"⟩, 8), (⟨"ThimbleLaw$Reader", "next", "()I"⟩, 8), (⟨"ThimbleLaw$Reader", "clause", "(LThimbleLaw$Text;)Z"⟩, 8), (⟨"ThimbleLaw$Reader", "fail", "(I)Z"⟩, 8), (⟨"ThimbleLaw$Reader", "lawOf", "(ILThimbleLaw$Text;)Z"⟩, 8), (⟨"ThimbleLaw$Reader", "sum", "(ILThimbleLaw$Text;)Z"⟩, 8), (⟨"ThimbleLaw$Reader", "product", "(ILThimbleLaw$Text;)Z"⟩, 8), (⟨"ThimbleLaw$Reader", "single", "(ILThimbleLaw$Text;)Z"⟩, 8), (⟨"ThimbleLaw$Reader", "number", "(LThimbleLaw$Text;)Z"⟩, 8), (⟨"ThimbleLaw$Reader", "name", "(ILThimbleLaw$Text;)Z"⟩, 8), (⟨"ThimbleLaw$Reader", "nested", "(IILThimbleLaw$Text;)Z"⟩, 8), (⟨"ThimbleLaw$Reader", "take", "(I)Z"⟩, 8), (⟨"ThimbleLaw$Reader", "choice", "(ILThimbleLaw$Text;)Z"⟩, 8), (⟨"ThimbleLaw$Reader", "either", "(ILThimbleLaw$Text;)Z"⟩, 8)]
theorem lw_r1 : ∀ q ∈ lw_privs_1, lw_okq q := List.forall_mem_cons.mpr ⟨lw_p0, List.forall_mem_cons.mpr ⟨lw_p1, List.forall_mem_cons.mpr ⟨lw_p2, List.forall_mem_cons.mpr ⟨lw_p3, List.forall_mem_cons.mpr ⟨lw_p4, List.forall_mem_cons.mpr ⟨lw_p5, List.forall_mem_cons.mpr ⟨lw_p6, List.forall_mem_cons.mpr ⟨lw_p7, List.forall_mem_cons.mpr ⟨lw_p8, List.forall_mem_cons.mpr ⟨lw_p9, List.forall_mem_cons.mpr ⟨lw_p10, List.forall_mem_cons.mpr ⟨lw_p11, List.forall_mem_cons.mpr ⟨lw_p12, List.forall_mem_cons.mpr ⟨lw_p13, List.forall_mem_cons.mpr ⟨lw_p14, List.forall_mem_cons.mpr ⟨lw_p15, fun _ h => absurd h List.not_mem_nil⟩⟩⟩⟩⟩⟩⟩⟩⟩⟩⟩⟩⟩⟩⟩⟩
theorem lw_p16 : lw_okq (⟨"ThimbleLaw$Reader", "both", "(ILThimbleLaw$Text;)Z"⟩, 8) := ⟨⟨by decide +kernel, by decide +kernel⟩, List.mem_of_getElem? (i := 279) (by decide +kernel), List.mem_of_getElem? (i := 549) (by decide +kernel), List.mem_of_getElem? (i := 550) (by decide +kernel)⟩
theorem lw_p17 : lw_okq (⟨"ThimbleLaw$Reader", "ask", "(ILThimbleLaw$Text;)Z"⟩, 8) := ⟨⟨by decide +kernel, by decide +kernel⟩, List.mem_of_getElem? (i := 279) (by decide +kernel), List.mem_of_getElem? (i := 553) (by decide +kernel), List.mem_of_getElem? (i := 554) (by decide +kernel)⟩
theorem lw_p18 : lw_okq (⟨"ThimbleLaw$Reader", "order", "(ILThimbleLaw$Text;)Z"⟩, 8) := ⟨⟨by decide +kernel, by decide +kernel⟩, List.mem_of_getElem? (i := 279) (by decide +kernel), List.mem_of_getElem? (i := 561) (by decide +kernel), List.mem_of_getElem? (i := 562) (by decide +kernel)⟩
theorem lw_p19 : lw_okq (⟨"ThimbleLaw$Reader", "part", "(IIILThimbleLaw$Text;)Z"⟩, 8) := ⟨⟨by decide +kernel, by decide +kernel⟩, List.mem_of_getElem? (i := 279) (by decide +kernel), List.mem_of_getElem? (i := 565) (by decide +kernel), List.mem_of_getElem? (i := 566) (by decide +kernel)⟩
theorem lw_p20 : lw_okq (⟨"ThimbleLaw$Hand", "step", "()V"⟩, 4) := ⟨⟨by decide +kernel, by decide +kernel⟩, List.mem_of_getElem? (i := 29) (by decide +kernel), List.mem_of_getElem? (i := 589) (by decide +kernel), List.mem_of_getElem? (i := 590) (by decide +kernel)⟩
theorem lw_p21 : lw_okq (⟨"ThimbleLaw$Judge", "value", "(LThimbleLaw$Text;I[I)I"⟩, 2) := ⟨⟨by decide +kernel, by decide +kernel⟩, List.mem_of_getElem? (i := 190) (by decide +kernel), List.mem_of_getElem? (i := 667) (by decide +kernel), List.mem_of_getElem? (i := 668) (by decide +kernel)⟩
theorem lw_p22 : lw_okq (⟨"ThimbleLaw$Judge", "nameAt", "(I)I"⟩, 2) := ⟨⟨by decide +kernel, by decide +kernel⟩, List.mem_of_getElem? (i := 190) (by decide +kernel), List.mem_of_getElem? (i := 672) (by decide +kernel), List.mem_of_getElem? (i := 673) (by decide +kernel)⟩
theorem lw_p23 : lw_okq (⟨"ThimbleLaw$Hand", "dryAll", "()V"⟩, 4) := ⟨⟨by decide +kernel, by decide +kernel⟩, List.mem_of_getElem? (i := 29) (by decide +kernel), List.mem_of_getElem? (i := 728) (by decide +kernel), List.mem_of_getElem? (i := 729) (by decide +kernel)⟩
theorem lw_p24 : lw_okq (⟨"ThimbleLaw$Hand", "act", "(IIII)Z"⟩, 4) := ⟨⟨by decide +kernel, by decide +kernel⟩, List.mem_of_getElem? (i := 29) (by decide +kernel), List.mem_of_getElem? (i := 749) (by decide +kernel), List.mem_of_getElem? (i := 750) (by decide +kernel)⟩
theorem lw_p25 : lw_okq (⟨"ThimbleLaw$Hand", "happen", "(I)V"⟩, 4) := ⟨⟨by decide +kernel, by decide +kernel⟩, List.mem_of_getElem? (i := 29) (by decide +kernel), List.mem_of_getElem? (i := 771) (by decide +kernel), List.mem_of_getElem? (i := 772) (by decide +kernel)⟩
theorem lw_p26 : lw_okq (⟨"ThimbleLaw", "isCase", "(II)Z"⟩, 9) := ⟨⟨by decide +kernel, by decide +kernel⟩, List.mem_of_getElem? (i := 21) (by decide +kernel), List.mem_of_getElem? (i := 845) (by decide +kernel), List.mem_of_getElem? (i := 846) (by decide +kernel)⟩
theorem lw_p27 : lw_okq (⟨"ThimbleLaw$Road", "walk", "([IIIII)V"⟩, 3) := ⟨⟨by decide +kernel, by decide +kernel⟩, List.mem_of_getElem? (i := 261) (by decide +kernel), List.mem_of_getElem? (i := 923) (by decide +kernel), List.mem_of_getElem? (i := 924) (by decide +kernel)⟩
theorem lw_p28 : lw_okq (⟨"ThimbleLawModel", "put", "(III)V"⟩, 26) := ⟨⟨by decide +kernel, by decide +kernel⟩, List.mem_of_getElem? (i := 1081) (by decide +kernel), List.mem_of_getElem? (i := 1178) (by decide +kernel), List.mem_of_getElem? (i := 1179) (by decide +kernel)⟩
theorem lw_p29 : lw_okq (⟨"ThimbleLawModel", "begin", "(I)V"⟩, 26) := ⟨⟨by decide +kernel, by decide +kernel⟩, List.mem_of_getElem? (i := 1081) (by decide +kernel), List.mem_of_getElem? (i := 1182) (by decide +kernel), List.mem_of_getElem? (i := 1183) (by decide +kernel)⟩
theorem lw_p30 : lw_okq (⟨"ThimbleLawModel", "get", "(II)I"⟩, 26) := ⟨⟨by decide +kernel, by decide +kernel⟩, List.mem_of_getElem? (i := 1081) (by decide +kernel), List.mem_of_getElem? (i := 1186) (by decide +kernel), List.mem_of_getElem? (i := 1187) (by decide +kernel)⟩
theorem lw_p31 : lw_okq (⟨"ThimbleLawModel", "four", "(I)V"⟩, 26) := ⟨⟨by decide +kernel, by decide +kernel⟩, List.mem_of_getElem? (i := 1081) (by decide +kernel), List.mem_of_getElem? (i := 1205) (by decide +kernel), List.mem_of_getElem? (i := 1206) (by decide +kernel)⟩
def lw_privs_2 : List (MethodName × Nat) := [(⟨"ThimbleLaw$Reader", "both", "(ILThimbleLaw$Text;)Z"⟩, 8), (⟨"ThimbleLaw$Reader", "ask", "(ILThimbleLaw$Text;)Z"⟩, 8), (⟨"ThimbleLaw$Reader", "order", "(ILThimbleLaw$Text;)Z"⟩, 8), (⟨"ThimbleLaw$Reader", "part", "(IIILThimbleLaw$Text;)Z"⟩, 8), (⟨"ThimbleLaw$Hand", "step", "()V"⟩, 4), (⟨"ThimbleLaw$Judge", "value", "(LThimbleLaw$Text;I[I)I"⟩, 2), (⟨"ThimbleLaw$Judge", "nameAt", "(I)I"⟩, 2), (⟨"ThimbleLaw$Hand", "dryAll", "()V"⟩, 4), (⟨"ThimbleLaw$Hand", "act", "(IIII)Z"⟩, 4), (⟨"ThimbleLaw$Hand", "happen", "(I)V"⟩, 4), (⟨"ThimbleLaw", "isCase", "(II)Z"⟩, 9), (⟨"ThimbleLaw$Road", "walk", "([IIIII)V"⟩, 3), (⟨"ThimbleLawModel", "put", "(III)V"⟩, 26), (⟨"ThimbleLawModel", "begin", "(I)V"⟩, 26), (⟨"ThimbleLawModel", "get", "(II)I"⟩, 26), (⟨"ThimbleLawModel", "four", "(I)V"⟩, 26)]
theorem lw_r2 : ∀ q ∈ lw_privs_2, lw_okq q := List.forall_mem_cons.mpr ⟨lw_p16, List.forall_mem_cons.mpr ⟨lw_p17, List.forall_mem_cons.mpr ⟨lw_p18, List.forall_mem_cons.mpr ⟨lw_p19, List.forall_mem_cons.mpr ⟨lw_p20, List.forall_mem_cons.mpr ⟨lw_p21, List.forall_mem_cons.mpr ⟨lw_p22, List.forall_mem_cons.mpr ⟨lw_p23, List.forall_mem_cons.mpr ⟨lw_p24, List.forall_mem_cons.mpr ⟨lw_p25, List.forall_mem_cons.mpr ⟨lw_p26, List.forall_mem_cons.mpr ⟨lw_p27, List.forall_mem_cons.mpr ⟨lw_p28, List.forall_mem_cons.mpr ⟨lw_p29, List.forall_mem_cons.mpr ⟨lw_p30, List.forall_mem_cons.mpr ⟨lw_p31, fun _ h => absurd h List.not_mem_nil⟩⟩⟩⟩⟩⟩⟩⟩⟩⟩⟩⟩⟩⟩⟩⟩
theorem lw_p32 : lw_okq (⟨"ThimbleLawModel", "readText", "()I"⟩, 26) := ⟨⟨by decide +kernel, by decide +kernel⟩, List.mem_of_getElem? (i := 1081) (by decide +kernel), List.mem_of_getElem? (i := 1217) (by decide +kernel), List.mem_of_getElem? (i := 1218) (by decide +kernel)⟩
theorem lw_p33 : lw_okq (⟨"ThimbleLawModel", "nextToken", "()V"⟩, 26) := ⟨⟨by decide +kernel, by decide +kernel⟩, List.mem_of_getElem? (i := 1081) (by decide +kernel), List.mem_of_getElem? (i := 1221) (by decide +kernel), List.mem_of_getElem? (i := 1222) (by decide +kernel)⟩
theorem lw_p34 : lw_okq (⟨"ThimbleLawModel", "byteAt", "(I)I"⟩, 26) := ⟨⟨by decide +kernel, by decide +kernel⟩, List.mem_of_getElem? (i := 1081) (by decide +kernel), List.mem_of_getElem? (i := 1225) (by decide +kernel), List.mem_of_getElem? (i := 1226) (by decide +kernel)⟩
theorem lw_p35 : lw_okq (⟨"ThimbleLawModel", "clause", "()I"⟩, 26) := ⟨⟨by decide +kernel, by decide +kernel⟩, List.mem_of_getElem? (i := 1081) (by decide +kernel), List.mem_of_getElem? (i := 1240) (by decide +kernel), List.mem_of_getElem? (i := 1241) (by decide +kernel)⟩
theorem lw_p36 : lw_okq (⟨"ThimbleLawModel", "sortOf", "()I"⟩, 26) := ⟨⟨by decide +kernel, by decide +kernel⟩, List.mem_of_getElem? (i := 1081) (by decide +kernel), List.mem_of_getElem? (i := 1244) (by decide +kernel), List.mem_of_getElem? (i := 1245) (by decide +kernel)⟩
theorem lw_p37 : lw_okq (⟨"ThimbleLawModel", "isWord", "(J)Z"⟩, 26) := ⟨⟨by decide +kernel, by decide +kernel⟩, List.mem_of_getElem? (i := 1081) (by decide +kernel), List.mem_of_getElem? (i := 1260) (by decide +kernel), List.mem_of_getElem? (i := 1261) (by decide +kernel)⟩
theorem lw_p38 : lw_okq (⟨"ThimbleLawModel", "isStandard", "()Z"⟩, 26) := ⟨⟨by decide +kernel, by decide +kernel⟩, List.mem_of_getElem? (i := 1081) (by decide +kernel), List.mem_of_getElem? (i := 1264) (by decide +kernel), List.mem_of_getElem? (i := 1265) (by decide +kernel)⟩
theorem lw_p39 : lw_okq (⟨"ThimbleLawModel", "body", "(II)I"⟩, 26) := ⟨⟨by decide +kernel, by decide +kernel⟩, List.mem_of_getElem? (i := 1081) (by decide +kernel), List.mem_of_getElem? (i := 1274) (by decide +kernel), List.mem_of_getElem? (i := 1275) (by decide +kernel)⟩
theorem lw_p40 : lw_okq (⟨"ThimbleLawModel", "three", "(IIIJIJI)I"⟩, 26) := ⟨⟨by decide +kernel, by decide +kernel⟩, List.mem_of_getElem? (i := 1081) (by decide +kernel), List.mem_of_getElem? (i := 1278) (by decide +kernel), List.mem_of_getElem? (i := 1279) (by decide +kernel)⟩
theorem lw_p41 : lw_okq (⟨"ThimbleLawModel", "figure", "(III)I"⟩, 26) := ⟨⟨by decide +kernel, by decide +kernel⟩, List.mem_of_getElem? (i := 1081) (by decide +kernel), List.mem_of_getElem? (i := 1282) (by decide +kernel), List.mem_of_getElem? (i := 1283) (by decide +kernel)⟩
theorem lw_p42 : lw_okq (⟨"ThimbleLawModel", "worded", "(JIII)I"⟩, 26) := ⟨⟨by decide +kernel, by decide +kernel⟩, List.mem_of_getElem? (i := 1081) (by decide +kernel), List.mem_of_getElem? (i := 1286) (by decide +kernel), List.mem_of_getElem? (i := 1287) (by decide +kernel)⟩
theorem lw_p43 : lw_okq (⟨"ThimbleLawModel", "pair", "(IIIJI)I"⟩, 26) := ⟨⟨by decide +kernel, by decide +kernel⟩, List.mem_of_getElem? (i := 1081) (by decide +kernel), List.mem_of_getElem? (i := 1290) (by decide +kernel), List.mem_of_getElem? (i := 1291) (by decide +kernel)⟩
theorem lw_p44 : lw_okq (⟨"ThimbleLawModel", "lawClause", "(I)I"⟩, 26) := ⟨⟨by decide +kernel, by decide +kernel⟩, List.mem_of_getElem? (i := 1081) (by decide +kernel), List.mem_of_getElem? (i := 1294) (by decide +kernel), List.mem_of_getElem? (i := 1295) (by decide +kernel)⟩
theorem lw_p45 : lw_okq (⟨"ThimbleLawModel", "summed", "()I"⟩, 26) := ⟨⟨by decide +kernel, by decide +kernel⟩, List.mem_of_getElem? (i := 1081) (by decide +kernel), List.mem_of_getElem? (i := 1298) (by decide +kernel), List.mem_of_getElem? (i := 1299) (by decide +kernel)⟩
theorem lw_p46 : lw_okq (⟨"ThimbleLawModel", "behindOne", "()I"⟩, 26) := ⟨⟨by decide +kernel, by decide +kernel⟩, List.mem_of_getElem? (i := 1081) (by decide +kernel), List.mem_of_getElem? (i := 1302) (by decide +kernel), List.mem_of_getElem? (i := 1303) (by decide +kernel)⟩
theorem lw_p47 : lw_okq (⟨"ThimbleLawModel", "betweenOf", "()I"⟩, 26) := ⟨⟨by decide +kernel, by decide +kernel⟩, List.mem_of_getElem? (i := 1081) (by decide +kernel), List.mem_of_getElem? (i := 1306) (by decide +kernel), List.mem_of_getElem? (i := 1307) (by decide +kernel)⟩
def lw_privs_3 : List (MethodName × Nat) := [(⟨"ThimbleLawModel", "readText", "()I"⟩, 26), (⟨"ThimbleLawModel", "nextToken", "()V"⟩, 26), (⟨"ThimbleLawModel", "byteAt", "(I)I"⟩, 26), (⟨"ThimbleLawModel", "clause", "()I"⟩, 26), (⟨"ThimbleLawModel", "sortOf", "()I"⟩, 26), (⟨"ThimbleLawModel", "isWord", "(J)Z"⟩, 26), (⟨"ThimbleLawModel", "isStandard", "()Z"⟩, 26), (⟨"ThimbleLawModel", "body", "(II)I"⟩, 26), (⟨"ThimbleLawModel", "three", "(IIIJIJI)I"⟩, 26), (⟨"ThimbleLawModel", "figure", "(III)I"⟩, 26), (⟨"ThimbleLawModel", "worded", "(JIII)I"⟩, 26), (⟨"ThimbleLawModel", "pair", "(IIIJI)I"⟩, 26), (⟨"ThimbleLawModel", "lawClause", "(I)I"⟩, 26), (⟨"ThimbleLawModel", "summed", "()I"⟩, 26), (⟨"ThimbleLawModel", "behindOne", "()I"⟩, 26), (⟨"ThimbleLawModel", "betweenOf", "()I"⟩, 26)]
theorem lw_r3 : ∀ q ∈ lw_privs_3, lw_okq q := List.forall_mem_cons.mpr ⟨lw_p32, List.forall_mem_cons.mpr ⟨lw_p33, List.forall_mem_cons.mpr ⟨lw_p34, List.forall_mem_cons.mpr ⟨lw_p35, List.forall_mem_cons.mpr ⟨lw_p36, List.forall_mem_cons.mpr ⟨lw_p37, List.forall_mem_cons.mpr ⟨lw_p38, List.forall_mem_cons.mpr ⟨lw_p39, List.forall_mem_cons.mpr ⟨lw_p40, List.forall_mem_cons.mpr ⟨lw_p41, List.forall_mem_cons.mpr ⟨lw_p42, List.forall_mem_cons.mpr ⟨lw_p43, List.forall_mem_cons.mpr ⟨lw_p44, List.forall_mem_cons.mpr ⟨lw_p45, List.forall_mem_cons.mpr ⟨lw_p46, List.forall_mem_cons.mpr ⟨lw_p47, fun _ h => absurd h List.not_mem_nil⟩⟩⟩⟩⟩⟩⟩⟩⟩⟩⟩⟩⟩⟩⟩⟩
theorem lw_p48 : lw_okq (⟨"ThimbleLawModel", "openNow", "()I"⟩, 26) := ⟨⟨by decide +kernel, by decide +kernel⟩, List.mem_of_getElem? (i := 1081) (by decide +kernel), List.mem_of_getElem? (i := 1310) (by decide +kernel), List.mem_of_getElem? (i := 1311) (by decide +kernel)⟩
theorem lw_p49 : lw_okq (⟨"ThimbleLawModel", "openAt", "()I"⟩, 26) := ⟨⟨by decide +kernel, by decide +kernel⟩, List.mem_of_getElem? (i := 1081) (by decide +kernel), List.mem_of_getElem? (i := 1314) (by decide +kernel), List.mem_of_getElem? (i := 1315) (by decide +kernel)⟩
theorem lw_p50 : lw_okq (⟨"ThimbleLawModel", "isCompared", "()Z"⟩, 26) := ⟨⟨by decide +kernel, by decide +kernel⟩, List.mem_of_getElem? (i := 1081) (by decide +kernel), List.mem_of_getElem? (i := 1318) (by decide +kernel), List.mem_of_getElem? (i := 1319) (by decide +kernel)⟩
theorem lw_p51 : lw_okq (⟨"ThimbleLawModel", "compareOf", "()I"⟩, 26) := ⟨⟨by decide +kernel, by decide +kernel⟩, List.mem_of_getElem? (i := 1081) (by decide +kernel), List.mem_of_getElem? (i := 1325) (by decide +kernel), List.mem_of_getElem? (i := 1326) (by decide +kernel)⟩
theorem lw_p52 : lw_okq (⟨"ThimbleLawModel", "settle", "(I)V"⟩, 26) := ⟨⟨by decide +kernel, by decide +kernel⟩, List.mem_of_getElem? (i := 1081) (by decide +kernel), List.mem_of_getElem? (i := 1329) (by decide +kernel), List.mem_of_getElem? (i := 1330) (by decide +kernel)⟩
theorem lw_p53 : lw_okq (⟨"ThimbleLawModel", "emit", "(II)V"⟩, 26) := ⟨⟨by decide +kernel, by decide +kernel⟩, List.mem_of_getElem? (i := 1081) (by decide +kernel), List.mem_of_getElem? (i := 1333) (by decide +kernel), List.mem_of_getElem? (i := 1334) (by decide +kernel)⟩
theorem lw_p54 : lw_okq (⟨"ThimbleLawModel", "partOf", "(I)I"⟩, 26) := ⟨⟨by decide +kernel, by decide +kernel⟩, List.mem_of_getElem? (i := 1081) (by decide +kernel), List.mem_of_getElem? (i := 1337) (by decide +kernel), List.mem_of_getElem? (i := 1338) (by decide +kernel)⟩
theorem lw_p55 : lw_okq (⟨"ThimbleLawModel", "endOne", "()I"⟩, 26) := ⟨⟨by decide +kernel, by decide +kernel⟩, List.mem_of_getElem? (i := 1081) (by decide +kernel), List.mem_of_getElem? (i := 1341) (by decide +kernel), List.mem_of_getElem? (i := 1342) (by decide +kernel)⟩
theorem lw_p56 : lw_okq (⟨"ThimbleLawModel", "beginOne", "()I"⟩, 26) := ⟨⟨by decide +kernel, by decide +kernel⟩, List.mem_of_getElem? (i := 1081) (by decide +kernel), List.mem_of_getElem? (i := 1345) (by decide +kernel), List.mem_of_getElem? (i := 1346) (by decide +kernel)⟩
theorem lw_p57 : lw_okq (⟨"ThimbleLawModel", "nameOf", "()I"⟩, 26) := ⟨⟨by decide +kernel, by decide +kernel⟩, List.mem_of_getElem? (i := 1081) (by decide +kernel), List.mem_of_getElem? (i := 1349) (by decide +kernel), List.mem_of_getElem? (i := 1350) (by decide +kernel)⟩
theorem lw_p58 : lw_okq (⟨"ThimbleLawModel", "opened", "(I)I"⟩, 26) := ⟨⟨by decide +kernel, by decide +kernel⟩, List.mem_of_getElem? (i := 1081) (by decide +kernel), List.mem_of_getElem? (i := 1353) (by decide +kernel), List.mem_of_getElem? (i := 1354) (by decide +kernel)⟩
theorem lw_p59 : lw_okq (⟨"ThimbleLawModel", "isAskAhead", "()Z"⟩, 26) := ⟨⟨by decide +kernel, by decide +kernel⟩, List.mem_of_getElem? (i := 1081) (by decide +kernel), List.mem_of_getElem? (i := 1357) (by decide +kernel), List.mem_of_getElem? (i := 1358) (by decide +kernel)⟩
theorem lw_p60 : lw_okq (⟨"ThimbleLawModel", "isOne", "(I)Z"⟩, 26) := ⟨⟨by decide +kernel, by decide +kernel⟩, List.mem_of_getElem? (i := 1081) (by decide +kernel), List.mem_of_getElem? (i := 1377) (by decide +kernel), List.mem_of_getElem? (i := 1378) (by decide +kernel)⟩
theorem lw_p61 : lw_okq (⟨"ThimbleLawModel", "keep", "()V"⟩, 26) := ⟨⟨by decide +kernel, by decide +kernel⟩, List.mem_of_getElem? (i := 1081) (by decide +kernel), List.mem_of_getElem? (i := 1381) (by decide +kernel), List.mem_of_getElem? (i := 1382) (by decide +kernel)⟩
theorem lw_p62 : lw_okq (⟨"ThimbleLawModel", "more", "(III)V"⟩, 26) := ⟨⟨by decide +kernel, by decide +kernel⟩, List.mem_of_getElem? (i := 1081) (by decide +kernel), List.mem_of_getElem? (i := 1385) (by decide +kernel), List.mem_of_getElem? (i := 1386) (by decide +kernel)⟩
theorem lw_p63 : lw_okq (⟨"ThimbleLawModel", "canWash", "(III)Z"⟩, 26) := ⟨⟨by decide +kernel, by decide +kernel⟩, List.mem_of_getElem? (i := 1081) (by decide +kernel), List.mem_of_getElem? (i := 1400) (by decide +kernel), List.mem_of_getElem? (i := 1401) (by decide +kernel)⟩
def lw_privs_4 : List (MethodName × Nat) := [(⟨"ThimbleLawModel", "openNow", "()I"⟩, 26), (⟨"ThimbleLawModel", "openAt", "()I"⟩, 26), (⟨"ThimbleLawModel", "isCompared", "()Z"⟩, 26), (⟨"ThimbleLawModel", "compareOf", "()I"⟩, 26), (⟨"ThimbleLawModel", "settle", "(I)V"⟩, 26), (⟨"ThimbleLawModel", "emit", "(II)V"⟩, 26), (⟨"ThimbleLawModel", "partOf", "(I)I"⟩, 26), (⟨"ThimbleLawModel", "endOne", "()I"⟩, 26), (⟨"ThimbleLawModel", "beginOne", "()I"⟩, 26), (⟨"ThimbleLawModel", "nameOf", "()I"⟩, 26), (⟨"ThimbleLawModel", "opened", "(I)I"⟩, 26), (⟨"ThimbleLawModel", "isAskAhead", "()Z"⟩, 26), (⟨"ThimbleLawModel", "isOne", "(I)Z"⟩, 26), (⟨"ThimbleLawModel", "keep", "()V"⟩, 26), (⟨"ThimbleLawModel", "more", "(III)V"⟩, 26), (⟨"ThimbleLawModel", "canWash", "(III)Z"⟩, 26)]
theorem lw_r4 : ∀ q ∈ lw_privs_4, lw_okq q := List.forall_mem_cons.mpr ⟨lw_p48, List.forall_mem_cons.mpr ⟨lw_p49, List.forall_mem_cons.mpr ⟨lw_p50, List.forall_mem_cons.mpr ⟨lw_p51, List.forall_mem_cons.mpr ⟨lw_p52, List.forall_mem_cons.mpr ⟨lw_p53, List.forall_mem_cons.mpr ⟨lw_p54, List.forall_mem_cons.mpr ⟨lw_p55, List.forall_mem_cons.mpr ⟨lw_p56, List.forall_mem_cons.mpr ⟨lw_p57, List.forall_mem_cons.mpr ⟨lw_p58, List.forall_mem_cons.mpr ⟨lw_p59, List.forall_mem_cons.mpr ⟨lw_p60, List.forall_mem_cons.mpr ⟨lw_p61, List.forall_mem_cons.mpr ⟨lw_p62, List.forall_mem_cons.mpr ⟨lw_p63, fun _ h => absurd h List.not_mem_nil⟩⟩⟩⟩⟩⟩⟩⟩⟩⟩⟩⟩⟩⟩⟩⟩
theorem lw_p64 : lw_okq (⟨"ThimbleLawModel", "washNow", "(III)V"⟩, 26) := ⟨⟨by decide +kernel, by decide +kernel⟩, List.mem_of_getElem? (i := 1081) (by decide +kernel), List.mem_of_getElem? (i := 1404) (by decide +kernel), List.mem_of_getElem? (i := 1405) (by decide +kernel)⟩
theorem lw_p65 : lw_okq (⟨"ThimbleLawModel", "pourNow", "(II)I"⟩, 26) := ⟨⟨by decide +kernel, by decide +kernel⟩, List.mem_of_getElem? (i := 1081) (by decide +kernel), List.mem_of_getElem? (i := 1412) (by decide +kernel), List.mem_of_getElem? (i := 1413) (by decide +kernel)⟩
theorem lw_p66 : lw_okq (⟨"ThimbleLawModel", "errsOf", "(II)I"⟩, 26) := ⟨⟨by decide +kernel, by decide +kernel⟩, List.mem_of_getElem? (i := 1081) (by decide +kernel), List.mem_of_getElem? (i := 1416) (by decide +kernel), List.mem_of_getElem? (i := 1417) (by decide +kernel)⟩
theorem lw_p67 : lw_okq (⟨"ThimbleLawModel", "name", "(II)V"⟩, 26) := ⟨⟨by decide +kernel, by decide +kernel⟩, List.mem_of_getElem? (i := 1081) (by decide +kernel), List.mem_of_getElem? (i := 1420) (by decide +kernel), List.mem_of_getElem? (i := 1421) (by decide +kernel)⟩
theorem lw_p68 : lw_okq (⟨"ThimbleLawModel", "roomOf", "(I)I"⟩, 26) := ⟨⟨by decide +kernel, by decide +kernel⟩, List.mem_of_getElem? (i := 1081) (by decide +kernel), List.mem_of_getElem? (i := 1424) (by decide +kernel), List.mem_of_getElem? (i := 1425) (by decide +kernel)⟩
theorem lw_p69 : lw_okq (⟨"ThimbleLawModel", "says", "(IIII)I"⟩, 26) := ⟨⟨by decide +kernel, by decide +kernel⟩, List.mem_of_getElem? (i := 1081) (by decide +kernel), List.mem_of_getElem? (i := 1431) (by decide +kernel), List.mem_of_getElem? (i := 1432) (by decide +kernel)⟩
theorem lw_p70 : lw_okq (⟨"ThimbleLawModel", "summedUp", "(II)J"⟩, 26) := ⟨⟨by decide +kernel, by decide +kernel⟩, List.mem_of_getElem? (i := 1081) (by decide +kernel), List.mem_of_getElem? (i := 1435) (by decide +kernel), List.mem_of_getElem? (i := 1436) (by decide +kernel)⟩
theorem lw_p71 : lw_okq (⟨"ThimbleLawModel", "brimsOf", "(J)J"⟩, 26) := ⟨⟨by decide +kernel, by decide +kernel⟩, List.mem_of_getElem? (i := 1081) (by decide +kernel), List.mem_of_getElem? (i := 1439) (by decide +kernel), List.mem_of_getElem? (i := 1440) (by decide +kernel)⟩
theorem lw_p72 : lw_okq (⟨"ThimbleLawModel", "anew", "()V"⟩, 26) := ⟨⟨by decide +kernel, by decide +kernel⟩, List.mem_of_getElem? (i := 1081) (by decide +kernel), List.mem_of_getElem? (i := 1461) (by decide +kernel), List.mem_of_getElem? (i := 1462) (by decide +kernel)⟩
theorem lw_p73 : lw_okq (⟨"ThimbleLawModel", "isOver", "(II)Z"⟩, 26) := ⟨⟨by decide +kernel, by decide +kernel⟩, List.mem_of_getElem? (i := 1081) (by decide +kernel), List.mem_of_getElem? (i := 1468) (by decide +kernel), List.mem_of_getElem? (i := 1469) (by decide +kernel)⟩
theorem lw_p74 : lw_okq (⟨"ThimbleLawModel", "excess", "(III)I"⟩, 26) := ⟨⟨by decide +kernel, by decide +kernel⟩, List.mem_of_getElem? (i := 1081) (by decide +kernel), List.mem_of_getElem? (i := 1472) (by decide +kernel), List.mem_of_getElem? (i := 1473) (by decide +kernel)⟩
theorem lw_p75 : lw_okq (⟨"ThimbleLawModel", "fineOf", "(II)I"⟩, 26) := ⟨⟨by decide +kernel, by decide +kernel⟩, List.mem_of_getElem? (i := 1081) (by decide +kernel), List.mem_of_getElem? (i := 1476) (by decide +kernel), List.mem_of_getElem? (i := 1477) (by decide +kernel)⟩
theorem lw_p76 : lw_okq (⟨"ThimbleLawModel", "canBend", "(I)Z"⟩, 26) := ⟨⟨by decide +kernel, by decide +kernel⟩, List.mem_of_getElem? (i := 1081) (by decide +kernel), List.mem_of_getElem? (i := 1484) (by decide +kernel), List.mem_of_getElem? (i := 1485) (by decide +kernel)⟩
theorem lw_p77 : lw_okq (⟨"ThimbleLawModel", "arePassed", "(I)Z"⟩, 26) := ⟨⟨by decide +kernel, by decide +kernel⟩, List.mem_of_getElem? (i := 1081) (by decide +kernel), List.mem_of_getElem? (i := 1496) (by decide +kernel), List.mem_of_getElem? (i := 1497) (by decide +kernel)⟩
theorem lw_p78 : lw_okq (⟨"ThimbleLawModel", "pass", "()V"⟩, 26) := ⟨⟨by decide +kernel, by decide +kernel⟩, List.mem_of_getElem? (i := 1081) (by decide +kernel), List.mem_of_getElem? (i := 1500) (by decide +kernel), List.mem_of_getElem? (i := 1501) (by decide +kernel)⟩
theorem lw_p79 : lw_okq (⟨"ThimbleLawModel", "driesOf", "(III)I"⟩, 26) := ⟨⟨by decide +kernel, by decide +kernel⟩, List.mem_of_getElem? (i := 1081) (by decide +kernel), List.mem_of_getElem? (i := 1504) (by decide +kernel), List.mem_of_getElem? (i := 1505) (by decide +kernel)⟩
def lw_privs_5 : List (MethodName × Nat) := [(⟨"ThimbleLawModel", "washNow", "(III)V"⟩, 26), (⟨"ThimbleLawModel", "pourNow", "(II)I"⟩, 26), (⟨"ThimbleLawModel", "errsOf", "(II)I"⟩, 26), (⟨"ThimbleLawModel", "name", "(II)V"⟩, 26), (⟨"ThimbleLawModel", "roomOf", "(I)I"⟩, 26), (⟨"ThimbleLawModel", "says", "(IIII)I"⟩, 26), (⟨"ThimbleLawModel", "summedUp", "(II)J"⟩, 26), (⟨"ThimbleLawModel", "brimsOf", "(J)J"⟩, 26), (⟨"ThimbleLawModel", "anew", "()V"⟩, 26), (⟨"ThimbleLawModel", "isOver", "(II)Z"⟩, 26), (⟨"ThimbleLawModel", "excess", "(III)I"⟩, 26), (⟨"ThimbleLawModel", "fineOf", "(II)I"⟩, 26), (⟨"ThimbleLawModel", "canBend", "(I)Z"⟩, 26), (⟨"ThimbleLawModel", "arePassed", "(I)Z"⟩, 26), (⟨"ThimbleLawModel", "pass", "()V"⟩, 26), (⟨"ThimbleLawModel", "driesOf", "(III)I"⟩, 26)]
theorem lw_r5 : ∀ q ∈ lw_privs_5, lw_okq q := List.forall_mem_cons.mpr ⟨lw_p64, List.forall_mem_cons.mpr ⟨lw_p65, List.forall_mem_cons.mpr ⟨lw_p66, List.forall_mem_cons.mpr ⟨lw_p67, List.forall_mem_cons.mpr ⟨lw_p68, List.forall_mem_cons.mpr ⟨lw_p69, List.forall_mem_cons.mpr ⟨lw_p70, List.forall_mem_cons.mpr ⟨lw_p71, List.forall_mem_cons.mpr ⟨lw_p72, List.forall_mem_cons.mpr ⟨lw_p73, List.forall_mem_cons.mpr ⟨lw_p74, List.forall_mem_cons.mpr ⟨lw_p75, List.forall_mem_cons.mpr ⟨lw_p76, List.forall_mem_cons.mpr ⟨lw_p77, List.forall_mem_cons.mpr ⟨lw_p78, List.forall_mem_cons.mpr ⟨lw_p79, fun _ h => absurd h List.not_mem_nil⟩⟩⟩⟩⟩⟩⟩⟩⟩⟩⟩⟩⟩⟩⟩⟩
theorem lw_p80 : lw_okq (⟨"ThimbleLawModel", "isPlayed", "(I)Z"⟩, 26) := ⟨⟨by decide +kernel, by decide +kernel⟩, List.mem_of_getElem? (i := 1081) (by decide +kernel), List.mem_of_getElem? (i := 1512) (by decide +kernel), List.mem_of_getElem? (i := 1513) (by decide +kernel)⟩
theorem lw_p81 : lw_okq (⟨"ThimbleLawModel", "happens", "(I)V"⟩, 26) := ⟨⟨by decide +kernel, by decide +kernel⟩, List.mem_of_getElem? (i := 1081) (by decide +kernel), List.mem_of_getElem? (i := 1529) (by decide +kernel), List.mem_of_getElem? (i := 1530) (by decide +kernel)⟩
theorem lw_p82 : lw_okq (⟨"ThimbleLawModel", "overs", "(I)I"⟩, 26) := ⟨⟨by decide +kernel, by decide +kernel⟩, List.mem_of_getElem? (i := 1081) (by decide +kernel), List.mem_of_getElem? (i := 1537) (by decide +kernel), List.mem_of_getElem? (i := 1538) (by decide +kernel)⟩
theorem lw_p83 : lw_okq (⟨"ThimbleLawModel", "shown", "()I"⟩, 26) := ⟨⟨by decide +kernel, by decide +kernel⟩, List.mem_of_getElem? (i := 1081) (by decide +kernel), List.mem_of_getElem? (i := 1553) (by decide +kernel), List.mem_of_getElem? (i := 1554) (by decide +kernel)⟩
theorem lw_p84 : lw_okq (⟨"ThimbleLawModel", "entry", "(II)I"⟩, 26) := ⟨⟨by decide +kernel, by decide +kernel⟩, List.mem_of_getElem? (i := 1081) (by decide +kernel), List.mem_of_getElem? (i := 1557) (by decide +kernel), List.mem_of_getElem? (i := 1558) (by decide +kernel)⟩
theorem lw_p85 : lw_okq (⟨"ThimbleLawModel", "togetherOf", "(I)I"⟩, 26) := ⟨⟨by decide +kernel, by decide +kernel⟩, List.mem_of_getElem? (i := 1081) (by decide +kernel), List.mem_of_getElem? (i := 1577) (by decide +kernel), List.mem_of_getElem? (i := 1578) (by decide +kernel)⟩
theorem lw_p86 : lw_okq (⟨"ThimbleLawModel", "excessOf", "(I)I"⟩, 26) := ⟨⟨by decide +kernel, by decide +kernel⟩, List.mem_of_getElem? (i := 1081) (by decide +kernel), List.mem_of_getElem? (i := 1585) (by decide +kernel), List.mem_of_getElem? (i := 1586) (by decide +kernel)⟩
theorem lw_p87 : lw_okq (⟨"ThimbleLawModel", "setAside", "()V"⟩, 26) := ⟨⟨by decide +kernel, by decide +kernel⟩, List.mem_of_getElem? (i := 1081) (by decide +kernel), List.mem_of_getElem? (i := 1601) (by decide +kernel), List.mem_of_getElem? (i := 1602) (by decide +kernel)⟩
theorem lw_p88 : lw_okq (⟨"ThimbleLawModel", "putBack", "()V"⟩, 26) := ⟨⟨by decide +kernel, by decide +kernel⟩, List.mem_of_getElem? (i := 1081) (by decide +kernel), List.mem_of_getElem? (i := 1605) (by decide +kernel), List.mem_of_getElem? (i := 1606) (by decide +kernel)⟩
theorem lw_p89 : lw_okq (⟨"ThimbleLawModel", "dropsOf", "(II)I"⟩, 26) := ⟨⟨by decide +kernel, by decide +kernel⟩, List.mem_of_getElem? (i := 1081) (by decide +kernel), List.mem_of_getElem? (i := 1621) (by decide +kernel), List.mem_of_getElem? (i := 1622) (by decide +kernel)⟩
theorem lw_p90 : lw_okq (⟨"ThimbleLawModel", "layRound", "()I"⟩, 26) := ⟨⟨by decide +kernel, by decide +kernel⟩, List.mem_of_getElem? (i := 1081) (by decide +kernel), List.mem_of_getElem? (i := 1658) (by decide +kernel), List.mem_of_getElem? (i := 1659) (by decide +kernel)⟩
theorem lw_p91 : lw_okq (⟨"ThimbleLawModel", "lengthNow", "()I"⟩, 26) := ⟨⟨by decide +kernel, by decide +kernel⟩, List.mem_of_getElem? (i := 1081) (by decide +kernel), List.mem_of_getElem? (i := 1663) (by decide +kernel), List.mem_of_getElem? (i := 1664) (by decide +kernel)⟩
theorem lw_p92 : lw_okq (⟨"ThimbleLawModel", "nextRow", "()Z"⟩, 26) := ⟨⟨by decide +kernel, by decide +kernel⟩, List.mem_of_getElem? (i := 1081) (by decide +kernel), List.mem_of_getElem? (i := 1667) (by decide +kernel), List.mem_of_getElem? (i := 1668) (by decide +kernel)⟩
theorem lw_p93 : lw_okq (⟨"ThimbleLawModel", "isStandardOf", "(I)Z"⟩, 26) := ⟨⟨by decide +kernel, by decide +kernel⟩, List.mem_of_getElem? (i := 1081) (by decide +kernel), List.mem_of_getElem? (i := 1679) (by decide +kernel), List.mem_of_getElem? (i := 1680) (by decide +kernel)⟩
theorem lw_p94 : lw_okq (⟨"ThimbleLawModel", "countsOf", "(I)I"⟩, 26) := ⟨⟨by decide +kernel, by decide +kernel⟩, List.mem_of_getElem? (i := 1081) (by decide +kernel), List.mem_of_getElem? (i := 1687) (by decide +kernel), List.mem_of_getElem? (i := 1688) (by decide +kernel)⟩
theorem lw_p95 : lw_okq (⟨"ThimbleLawModel", "needOf", "(II)I"⟩, 26) := ⟨⟨by decide +kernel, by decide +kernel⟩, List.mem_of_getElem? (i := 1081) (by decide +kernel), List.mem_of_getElem? (i := 1695) (by decide +kernel), List.mem_of_getElem? (i := 1696) (by decide +kernel)⟩
def lw_privs_6 : List (MethodName × Nat) := [(⟨"ThimbleLawModel", "isPlayed", "(I)Z"⟩, 26), (⟨"ThimbleLawModel", "happens", "(I)V"⟩, 26), (⟨"ThimbleLawModel", "overs", "(I)I"⟩, 26), (⟨"ThimbleLawModel", "shown", "()I"⟩, 26), (⟨"ThimbleLawModel", "entry", "(II)I"⟩, 26), (⟨"ThimbleLawModel", "togetherOf", "(I)I"⟩, 26), (⟨"ThimbleLawModel", "excessOf", "(I)I"⟩, 26), (⟨"ThimbleLawModel", "setAside", "()V"⟩, 26), (⟨"ThimbleLawModel", "putBack", "()V"⟩, 26), (⟨"ThimbleLawModel", "dropsOf", "(II)I"⟩, 26), (⟨"ThimbleLawModel", "layRound", "()I"⟩, 26), (⟨"ThimbleLawModel", "lengthNow", "()I"⟩, 26), (⟨"ThimbleLawModel", "nextRow", "()Z"⟩, 26), (⟨"ThimbleLawModel", "isStandardOf", "(I)Z"⟩, 26), (⟨"ThimbleLawModel", "countsOf", "(I)I"⟩, 26), (⟨"ThimbleLawModel", "needOf", "(II)I"⟩, 26)]
theorem lw_r6 : ∀ q ∈ lw_privs_6, lw_okq q := List.forall_mem_cons.mpr ⟨lw_p80, List.forall_mem_cons.mpr ⟨lw_p81, List.forall_mem_cons.mpr ⟨lw_p82, List.forall_mem_cons.mpr ⟨lw_p83, List.forall_mem_cons.mpr ⟨lw_p84, List.forall_mem_cons.mpr ⟨lw_p85, List.forall_mem_cons.mpr ⟨lw_p86, List.forall_mem_cons.mpr ⟨lw_p87, List.forall_mem_cons.mpr ⟨lw_p88, List.forall_mem_cons.mpr ⟨lw_p89, List.forall_mem_cons.mpr ⟨lw_p90, List.forall_mem_cons.mpr ⟨lw_p91, List.forall_mem_cons.mpr ⟨lw_p92, List.forall_mem_cons.mpr ⟨lw_p93, List.forall_mem_cons.mpr ⟨lw_p94, List.forall_mem_cons.mpr ⟨lw_p95, fun _ h => absurd h List.not_mem_nil⟩⟩⟩⟩⟩⟩⟩⟩⟩⟩⟩⟩⟩⟩⟩⟩
theorem lw_p96 : lw_okq (⟨"ThimbleLawModel", "apart", "(II)I"⟩, 26) := ⟨⟨by decide +kernel, by decide +kernel⟩, List.mem_of_getElem? (i := 1081) (by decide +kernel), List.mem_of_getElem? (i := 1703) (by decide +kernel), List.mem_of_getElem? (i := 1704) (by decide +kernel)⟩
theorem lw_p97 : lw_okq (⟨"ThimbleLawModel", "roomsOf", "(I)I"⟩, 26) := ⟨⟨by decide +kernel, by decide +kernel⟩, List.mem_of_getElem? (i := 1081) (by decide +kernel), List.mem_of_getElem? (i := 1707) (by decide +kernel), List.mem_of_getElem? (i := 1708) (by decide +kernel)⟩
def lw_privs_7 : List (MethodName × Nat) := [(⟨"ThimbleLawModel", "apart", "(II)I"⟩, 26), (⟨"ThimbleLawModel", "roomsOf", "(I)I"⟩, 26)]
theorem lw_r7 : ∀ q ∈ lw_privs_7, lw_okq q := List.forall_mem_cons.mpr ⟨lw_p96, List.forall_mem_cons.mpr ⟨lw_p97, fun _ h => absurd h List.not_mem_nil⟩⟩
def lw_privs : List (MethodName × Nat) := lw_privs_1 ++ (lw_privs_2 ++ (lw_privs_3 ++ (lw_privs_4 ++ (lw_privs_5 ++ (lw_privs_6 ++ (lw_privs_7))))))
def lw_tbl : List Cond := k2_sels lw_privs ++ tables_1
theorem lw_privs_ok : ∀ q ∈ lw_privs, lw_okq q := by
  show ∀ q ∈ lw_privs_1 ++ (lw_privs_2 ++ (lw_privs_3 ++ (lw_privs_4 ++ (lw_privs_5 ++ (lw_privs_6 ++ (lw_privs_7)))))), lw_okq q
  exact List.forall_mem_append.mpr ⟨lw_r1, List.forall_mem_append.mpr ⟨lw_r2, List.forall_mem_append.mpr ⟨lw_r3, List.forall_mem_append.mpr ⟨lw_r4, List.forall_mem_append.mpr ⟨lw_r5, List.forall_mem_append.mpr ⟨lw_r6, lw_r7⟩⟩⟩⟩⟩⟩

def nth {α : Type} (d : α) : List α → Nat → α
  | [], _ => d
  | x :: _, 0 => x
  | _ :: xs, n + 1 => nth d xs n
def nth2 {α : Type} (d : α) (l : List (List α)) (n : Nat) : α := nth d (nth [] l (n / 16)) (n % 16)
def fR0 : String := "ThimbleLaw$City"
def fT0 : u_T := fun k => match k with
  | 0 => ("ThimbleLaw$City", "people", "I", false)
  | 1 => ("ThimbleLaw$City", "measure", "I", false)
  | 2 => ("ThimbleLaw$City", "today", "I", false)
  | 3 => ("ThimbleLaw$City", "x", "I", false)
  | 4 => ("ThimbleLaw$City", "textCount", "I", false)
  | 5 => ("ThimbleLaw$City", "law", "I", false)
  | 6 => ("ThimbleLaw$City", "fineCount", "I", false)
  | 7 => ("ThimbleLaw$City", "stuffs", "[I", true)
  | 8 => ("ThimbleLaw$City", "dents", "[I", true)
  | 9 => ("ThimbleLaw$City", "purses", "[I", true)
  | 10 => ("ThimbleLaw$City", "amounts", "[I", true)
  | 11 => ("ThimbleLaw$City", "brims", "[I", true)
  | 12 => ("ThimbleLaw$City", "prices", "[I", true)
  | 13 => ("ThimbleLaw$City", "ways", "[I", true)
  | 14 => ("ThimbleLaw$City", "fineRow", "[I", true)
  | 15 => ("ThimbleLaw$City", "deeds", "LThimbleLaw$Told;", true)
  | 16 => ("ThimbleLaw$City", "years", "LThimbleLaw$Told;", true)
  | 17 => ("ThimbleLaw$City", "dryings", "LThimbleLaw$Told;", true)
  | _ => ("ThimbleLaw$City", "steps", "LThimbleLaw$Steps;", true)
def fY0 : Nat → FieldType := fun k => match k with
  | 0 => .int
  | 1 => .int
  | 2 => .int
  | 3 => .int
  | 4 => .int
  | 5 => .int
  | 6 => .int
  | 7 => .array .int
  | 8 => .array .int
  | 9 => .array .int
  | 10 => .array .int
  | 11 => .array .int
  | 12 => .array .int
  | 13 => .array .int
  | 14 => .array .int
  | 15 => .object "ThimbleLaw$Told"
  | 16 => .object "ThimbleLaw$Told"
  | 17 => .object "ThimbleLaw$Told"
  | _ => .object "ThimbleLaw$Steps"
def fR1 : String := "ThimbleLaw$Hand"
def fT1 : u_T := fun k => match k with
  | 0 => ("ThimbleLaw$Hand", "city", "LThimbleLaw$City;", true)
  | 1 => ("ThimbleLaw$Hand", "judge", "LThimbleLaw$Judge;", true)
  | 2 => ("ThimbleLaw$Hand", "texts", "[LThimbleLaw$Text;", true)
  | _ => ("ThimbleLaw$Hand", "inCenturies", "Z", false)
def fY1 : Nat → FieldType := fun k => match k with
  | 0 => .object "ThimbleLaw$City"
  | 1 => .object "ThimbleLaw$Judge"
  | 2 => .array (.object "ThimbleLaw$Text")
  | _ => .boolean
def fR2 : String := "ThimbleLaw$Judge"
def fT2 : u_T := fun k => match k with
  | 0 => ("ThimbleLaw$Judge", "names", "[I", true)
  | _ => ("ThimbleLaw$Judge", "stack", "[I", true)
def fY2 : Nat → FieldType := fun k => match k with
  | 0 => .array .int
  | _ => .array .int
def fR3 : String := "ThimbleLaw$Reader"
def fT3 : u_T := fun k => match k with
  | 0 => ("ThimbleLaw$Reader", "codes", "[I", true)
  | 1 => ("ThimbleLaw$Reader", "starts", "[I", true)
  | 2 => ("ThimbleLaw$Reader", "values", "[I", true)
  | 3 => ("ThimbleLaw$Reader", "tokens", "I", false)
  | 4 => ("ThimbleLaw$Reader", "at", "I", false)
  | 5 => ("ThimbleLaw$Reader", "law", "I", false)
  | 6 => ("ThimbleLaw$Reader", "fault", "I", false)
  | _ => ("ThimbleLaw$Reader", "place", "I", false)
def fY3 : Nat → FieldType := fun k => match k with
  | 0 => .array .int
  | 1 => .array .int
  | 2 => .array .int
  | 3 => .int
  | 4 => .int
  | 5 => .int
  | 6 => .int
  | _ => .int
def fR4 : String := "ThimbleLaw$Road"
def fT4 : u_T := fun k => match k with
  | 0 => ("ThimbleLaw$Road", "path", "[I", true)
  | 1 => ("ThimbleLaw$Road", "best", "[I", true)
  | _ => ("ThimbleLaw$Road", "shortest", "I", false)
def fY4 : Nat → FieldType := fun k => match k with
  | 0 => .array .int
  | 1 => .array .int
  | _ => .int
def fR5 : String := "ThimbleLaw$Steps"
def fT5 : u_T := fun k => match k with
  | 0 => ("ThimbleLaw$Steps", "rows", "[I", true)
  | 1 => ("ThimbleLaw$Steps", "eldest", "I", false)
  | _ => ("ThimbleLaw$Steps", "count", "I", false)
def fY5 : Nat → FieldType := fun k => match k with
  | 0 => .array .int
  | 1 => .int
  | _ => .int
def fR6 : String := "ThimbleLaw$Text"
def fT6 : u_T := fun k => match k with
  | 0 => ("ThimbleLaw$Text", "clauses", "[I", true)
  | 1 => ("ThimbleLaw$Text", "ops", "[I", true)
  | 2 => ("ThimbleLaw$Text", "args", "[I", true)
  | 3 => ("ThimbleLaw$Text", "from", "[I", true)
  | 4 => ("ThimbleLaw$Text", "to", "[I", true)
  | 5 => ("ThimbleLaw$Text", "clauseCount", "I", false)
  | _ => ("ThimbleLaw$Text", "codeCount", "I", false)
def fY6 : Nat → FieldType := fun k => match k with
  | 0 => .array .int
  | 1 => .array .int
  | 2 => .array .int
  | 3 => .array .int
  | 4 => .array .int
  | 5 => .int
  | _ => .int
def fR7 : String := "ThimbleLaw$Told"
def fT7 : u_T := fun k => match k with
  | 0 => ("ThimbleLaw$Told", "first", "[I", true)
  | 1 => ("ThimbleLaw$Told", "second", "[I", true)
  | 2 => ("ThimbleLaw$Told", "third", "[I", true)
  | _ => ("ThimbleLaw$Told", "count", "I", false)
def fY7 : Nat → FieldType := fun k => match k with
  | 0 => .array .int
  | 1 => .array .int
  | 2 => .array .int
  | _ => .int
def fR8 : String := "ThimbleLaw"
def fT8 : u_T := fun k => match k with
  | 0 => ("ThimbleLaw", "hand", "LThimbleLaw$Hand;", true)
  | 1 => ("ThimbleLaw", "city", "LThimbleLaw$City;", true)
  | 2 => ("ThimbleLaw", "kept", "LThimbleLaw$City;", true)
  | 3 => ("ThimbleLaw", "road", "LThimbleLaw$Road;", true)
  | 4 => ("ThimbleLaw", "reader", "LThimbleLaw$Reader;", true)
  | 5 => ("ThimbleLaw", "tape", "[B", true)
  | 6 => ("ThimbleLaw", "tapeLength", "I", false)
  | 7 => ("ThimbleLaw", "latestFault", "I", false)
  | _ => ("ThimbleLaw", "latestPlace", "I", false)
def fY8 : Nat → FieldType := fun k => match k with
  | 0 => .object "ThimbleLaw$Hand"
  | 1 => .object "ThimbleLaw$City"
  | 2 => .object "ThimbleLaw$City"
  | 3 => .object "ThimbleLaw$Road"
  | 4 => .object "ThimbleLaw$Reader"
  | 5 => .array .byte
  | 6 => .int
  | 7 => .int
  | _ => .int
def fR9 : String := "ThimbleLawModel"
def fT9 : u_T := fun k => match k with
  | 0 => ("ThimbleLawModel", "a", "[I", true)
  | 1 => ("ThimbleLawModel", "image", "[I", true)
  | 2 => ("ThimbleLawModel", "texts", "[I", true)
  | 3 => ("ThimbleLawModel", "tape", "[I", true)
  | 4 => ("ThimbleLawModel", "taped", "I", false)
  | 5 => ("ThimbleLawModel", "fault", "I", false)
  | 6 => ("ThimbleLawModel", "faultPlace", "I", false)
  | 7 => ("ThimbleLawModel", "at", "I", false)
  | 8 => ("ThimbleLawModel", "place", "I", false)
  | 9 => ("ThimbleLawModel", "token", "I", false)
  | 10 => ("ThimbleLawModel", "number", "I", false)
  | 11 => ("ThimbleLawModel", "word", "J", false)
  | 12 => ("ThimbleLawModel", "text0", "I", false)
  | 13 => ("ThimbleLawModel", "written", "I", false)
  | 14 => ("ThimbleLawModel", "sort0", "I", false)
  | 15 => ("ThimbleLawModel", "pile", "[I", true)
  | 16 => ("ThimbleLawModel", "piled", "I", false)
  | 17 => ("ThimbleLawModel", "opens", "I", false)
  | 18 => ("ThimbleLawModel", "isWhole", "Z", false)
  | 19 => ("ThimbleLawModel", "once", "I", false)
  | 20 => ("ThimbleLawModel", "named", "[I", true)
  | 21 => ("ThimbleLawModel", "values", "[J", true)
  | 22 => ("ThimbleLawModel", "truth", "[Z", true)
  | 23 => ("ThimbleLawModel", "aside", "[I", true)
  | 24 => ("ThimbleLawModel", "row", "[I", true)
  | _ => ("ThimbleLawModel", "best", "[I", true)
def fY9 : Nat → FieldType := fun k => match k with
  | 0 => .array .int
  | 1 => .array .int
  | 2 => .array .int
  | 3 => .array .int
  | 4 => .int
  | 5 => .int
  | 6 => .int
  | 7 => .int
  | 8 => .int
  | 9 => .int
  | 10 => .int
  | 11 => .long
  | 12 => .int
  | 13 => .int
  | 14 => .int
  | 15 => .array .int
  | 16 => .int
  | 17 => .int
  | 18 => .boolean
  | 19 => .int
  | 20 => .array .int
  | 21 => .array .long
  | 22 => .array .boolean
  | 23 => .array .int
  | 24 => .array .int
  | _ => .array .int
def fcs : List vw_C := [(fR0, fT0, 19), (fR1, fT1, 4), (fR2, fT2, 2), (fR3, fT3, 8), (fR4, fT4, 3), (fR5, fT5, 3), (fR6, fT6, 7), (fR7, fT7, 4), (fR8, fT8, 9), (fR9, fT9, 26)]
def fys : List (Nat → FieldType) := [fY0, fY1, fY2, fY3, fY4, fY5, fY6, fY7, fY8, fY9]
/-- field kinds: 0 int, 1 boolean, 2 long, 3 reference -/
def fkT : List (List Nat) := [[0, 0, 0, 0, 0, 0, 0, 3, 3, 3, 3, 3, 3, 3, 3, 3, 3, 3, 3], [3, 3, 3, 1], [3, 3], [3, 3, 3, 0, 0, 0, 0, 0], [3, 3, 0], [3, 0, 0], [3, 3, 3, 3, 3, 0, 0], [3, 3, 3, 0], [3, 3, 3, 3, 3, 3, 0, 0, 0], [3, 3, 3, 3, 0, 0, 0, 0, 0, 0, 0, 2, 0, 0, 0, 3, 0, 0, 1, 0, 3, 3, 3, 3, 3, 3]]
def fkOf (ci k : Nat) : Nat := nth 9 (nth [] fkT ci) k
def nOb : Nat := 96
def shKT : List (List Nat) := [[8, 1, 0, 100, 100, 100, 100, 100, 100, 100, 100, 7, 100, 100, 100, 7],
  [100, 100, 100, 7, 100, 100, 100, 5, 100, 0, 100, 100, 100, 100, 100, 100],
  [100, 100, 7, 100, 100, 100, 7, 100, 100, 100, 7, 100, 100, 100, 5, 100],
  [2, 100, 100, 104, 6, 100, 100, 100, 100, 100, 6, 100, 100, 100, 100, 100],
  [6, 100, 100, 100, 100, 100, 6, 100, 100, 100, 100, 100, 4, 100, 100, 3],
  [100, 100, 100, 101, 9, 100, 100, 100, 100, 100, 100, 103, 102, 100, 100, 100]]
def shNT : List (List Nat) := [[9, 4, 19, 6, 6, 6, 24, 3, 3, 36, 30, 4, 8, 8, 8, 4],
  [8, 8, 8, 4, 8, 8, 8, 3, 2130, 19, 6, 6, 6, 24, 3, 3],
  [36, 30, 4, 8, 8, 8, 4, 8, 8, 8, 4, 8, 8, 8, 3, 2130],
  [2, 9, 64, 4, 7, 96, 300, 300, 3, 3, 7, 96, 300, 300, 3, 3],
  [7, 96, 300, 300, 3, 3, 7, 96, 300, 300, 3, 3, 3, 6, 6, 8],
  [301, 301, 301, 300, 26, 3856, 3856, 2820, 300, 160, 9, 330, 330, 66, 6, 6]]
def shK (o : Nat) : Nat := nth2 999 shKT o
def shN (o : Nat) : Nat := nth2 0 shNT o
/-- reference fields and places: 0 none, else the object plus one -/
def shRT : List (List (List Nat)) := [[[2, 3, 26, 77, 80, 84], [3, 49, 52], [0, 0, 0, 0, 0, 0, 0, 4, 5, 6, 7, 8, 9, 10, 11, 12, 16, 20, 24], [], [], [], [], [], [], [], [], [13, 14, 15], [], [], [], [17, 18, 19]],
  [[], [], [], [21, 22, 23], [], [], [], [25], [], [0, 0, 0, 0, 0, 0, 0, 27, 28, 29, 30, 31, 32, 33, 34, 35, 39, 43, 47], [], [], [], [], [], []],
  [[], [], [36, 37, 38], [], [], [], [40, 41, 42], [], [], [], [44, 45, 46], [], [], [], [48], []],
  [[50, 51], [], [], [53, 59, 65, 71], [54, 55, 56, 57, 58], [], [], [], [], [], [60, 61, 62, 63, 64], [], [], [], [], []],
  [[66, 67, 68, 69, 70], [], [], [], [], [], [72, 73, 74, 75, 76], [], [], [], [], [], [78, 79], [], [], [81, 82, 83]],
  [[], [], [], [], [86, 87, 88, 89, 0, 0, 0, 0, 0, 0, 0, 0, 0, 0, 0, 90, 0, 0, 0, 0, 91, 92, 93, 94, 95, 96], [], [], [], [], [], [], [], [], [], [], []]]
def shR (o k : Nat) : Option Nat := match nth 0 (nth2 [] shRT o) k with
  | 0 => none
  | q + 1 => some q
