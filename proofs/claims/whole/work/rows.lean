section
-- ===== PART A: goes FIRST, ahead of the names: the tables' words, and 'selects' of the private methods out of them =====
/-- a private method of a class that the tables say can be made, by its rows of tables_1 -/
def lw_okq (q : MethodName × Nat) : Prop := (q.1.cls ≠ "java/lang/invoke/MethodHandle" ∧ q.1.cls ≠ "java/lang/invoke/VarHandle") ∧ Cond.instantiable q.1.cls q.2 ∈ tables_1 ∧ Cond.privateMethod q.1 ∈ tables_1 ∧ Cond.instanceMethod q.1 ∈ tables_1
theorem lw_p0 : lw_okq (⟨"ThimbleLaw", "append", "(I)V"⟩, 9) := ⟨⟨by decide +kernel, by decide +kernel⟩, List.mem_of_getElem? (i := 21) (by decide +kernel), List.mem_of_getElem? (i := 390) (by decide +kernel), List.mem_of_getElem? (i := 391) (by decide +kernel)⟩
theorem lw_p1 : lw_okq (⟨"ThimbleLaw$Reader", "scan", "([BI)V"⟩, 8) := ⟨⟨by decide +kernel, by decide +kernel⟩, List.mem_of_getElem? (i := 279) (by decide +kernel), List.mem_of_getElem? (i := 411) (by decide +kernel), List.mem_of_getElem? (i := 412) (by decide +kernel)⟩
theorem lw_p2 : lw_okq (⟨"ThimbleLaw$Reader", "put", "(III)V"⟩, 8) := ⟨⟨by decide +kernel, by decide +kernel⟩, List.mem_of_getElem? (i := 279) (by decide +kernel), List.mem_of_getElem? (i := 479) (by decide +kernel), List.mem_of_getElem? (i := 480) (by decide +kernel)⟩
theorem lw_p3 : lw_okq (⟨"ThimbleLaw$Reader", "next", "()I"⟩, 8) := ⟨⟨by decide +kernel, by decide +kernel⟩, List.mem_of_getElem? (i := 279) (by decide +kernel), List.mem_of_getElem? (i := 489) (by decide +kernel), List.mem_of_getElem? (i := 490) (by decide +kernel)⟩
theorem lw_p4 : lw_okq (⟨"ThimbleLaw$Reader", "clause", "(LThimbleLaw$Text;)Z"⟩, 8) := ⟨⟨by decide +kernel, by decide +kernel⟩, List.mem_of_getElem? (i := 279) (by decide +kernel), List.mem_of_getElem? (i := 493) (by decide +kernel), List.mem_of_getElem? (i := 494) (by decide +kernel)⟩
theorem lw_p5 : lw_okq (⟨"ThimbleLaw$Reader", "fail", "(I)Z"⟩, 8) := ⟨⟨by decide +kernel, by decide +kernel⟩, List.mem_of_getElem? (i := 279) (by decide +kernel), List.mem_of_getElem? (i := 497) (by decide +kernel), List.mem_of_getElem? (i := 498) (by decide +kernel)⟩
theorem lw_p6 : lw_okq (⟨"ThimbleLaw$Reader", "lawOf", "(ILThimbleLaw$Text;)Z"⟩, 8) := ⟨⟨by decide +kernel, by decide +kernel⟩, List.mem_of_getElem? (i := 279) (by decide +kernel), List.mem_of_getElem? (i := 505) (by decide +kernel), List.mem_of_getElem? (i := 506) (by decide +kernel)⟩
theorem lw_p7 : lw_okq (⟨"ThimbleLaw$Reader", "sum", "(ILThimbleLaw$Text;)Z"⟩, 8) := ⟨⟨by decide +kernel, by decide +kernel⟩, List.mem_of_getElem? (i := 279) (by decide +kernel), List.mem_of_getElem? (i := 509) (by decide +kernel), List.mem_of_getElem? (i := 510) (by decide +kernel)⟩
theorem lw_p8 : lw_okq (⟨"ThimbleLaw$Reader", "product", "(ILThimbleLaw$Text;)Z"⟩, 8) := ⟨⟨by decide +kernel, by decide +kernel⟩, List.mem_of_getElem? (i := 279) (by decide +kernel), List.mem_of_getElem? (i := 513) (by decide +kernel), List.mem_of_getElem? (i := 514) (by decide +kernel)⟩
theorem lw_p9 : lw_okq (⟨"ThimbleLaw$Reader", "single", "(ILThimbleLaw$Text;)Z"⟩, 8) := ⟨⟨by decide +kernel, by decide +kernel⟩, List.mem_of_getElem? (i := 279) (by decide +kernel), List.mem_of_getElem? (i := 517) (by decide +kernel), List.mem_of_getElem? (i := 518) (by decide +kernel)⟩
theorem lw_p10 : lw_okq (⟨"ThimbleLaw$Reader", "number", "(LThimbleLaw$Text;)Z"⟩, 8) := ⟨⟨by decide +kernel, by decide +kernel⟩, List.mem_of_getElem? (i := 279) (by decide +kernel), List.mem_of_getElem? (i := 521) (by decide +kernel), List.mem_of_getElem? (i := 522) (by decide +kernel)⟩
theorem lw_p11 : lw_okq (⟨"ThimbleLaw$Reader", "name", "(ILThimbleLaw$Text;)Z"⟩, 8) := ⟨⟨by decide +kernel, by decide +kernel⟩, List.mem_of_getElem? (i := 279) (by decide +kernel), List.mem_of_getElem? (i := 529) (by decide +kernel), List.mem_of_getElem? (i := 530) (by decide +kernel)⟩
theorem lw_p12 : lw_okq (⟨"ThimbleLaw$Reader", "nested", "(IILThimbleLaw$Text;)Z"⟩, 8) := ⟨⟨by decide +kernel, by decide +kernel⟩, List.mem_of_getElem? (i := 279) (by decide +kernel), List.mem_of_getElem? (i := 533) (by decide +kernel), List.mem_of_getElem? (i := 534) (by decide +kernel)⟩
theorem lw_p13 : lw_okq (⟨"ThimbleLaw$Reader", "take", "(I)Z"⟩, 8) := ⟨⟨by decide +kernel, by decide +kernel⟩, List.mem_of_getElem? (i := 279) (by decide +kernel), List.mem_of_getElem? (i := 537) (by decide +kernel), List.mem_of_getElem? (i := 538) (by decide +kernel)⟩
theorem lw_p14 : lw_okq (⟨"ThimbleLaw$Reader", "choice", "(ILThimbleLaw$Text;)Z"⟩, 8) := ⟨⟨by decide +kernel, by decide +kernel⟩, List.mem_of_getElem? (i := 279) (by decide +kernel), List.mem_of_getElem? (i := 541) (by decide +kernel), List.mem_of_getElem? (i := 542) (by decide +kernel)⟩
theorem lw_p15 : lw_okq (⟨"ThimbleLaw$Reader", "either", "(ILThimbleLaw$Text;)Z"⟩, 8) := ⟨⟨by decide +kernel, by decide +kernel⟩, List.mem_of_getElem? (i := 279) (by decide +kernel), List.mem_of_getElem? (i := 545) (by decide +kernel), List.mem_of_getElem? (i := 546) (by decide +kernel)⟩
def lw_privs_1 : List (MethodName × Nat) := [(⟨"ThimbleLaw", "append", "(I)V"⟩, 9), (⟨"ThimbleLaw$Reader", "scan", "([BI)V"⟩, 8), (⟨"ThimbleLaw$Reader", "put", "(III)V"⟩, 8), (⟨"ThimbleLaw$Reader", "next", "()I"⟩, 8), (⟨"ThimbleLaw$Reader", "clause", "(LThimbleLaw$Text;)Z"⟩, 8), (⟨"ThimbleLaw$Reader", "fail", "(I)Z"⟩, 8), (⟨"ThimbleLaw$Reader", "lawOf", "(ILThimbleLaw$Text;)Z"⟩, 8), (⟨"ThimbleLaw$Reader", "sum", "(ILThimbleLaw$Text;)Z"⟩, 8), (⟨"ThimbleLaw$Reader", "product", "(ILThimbleLaw$Text;)Z"⟩, 8), (⟨"ThimbleLaw$Reader", "single", "(ILThimbleLaw$Text;)Z"⟩, 8), (⟨"ThimbleLaw$Reader", "number", "(LThimbleLaw$Text;)Z"⟩, 8), (⟨"ThimbleLaw$Reader", "name", "(ILThimbleLaw$Text;)Z"⟩, 8), (⟨"ThimbleLaw$Reader", "nested", "(IILThimbleLaw$Text;)Z"⟩, 8), (⟨"ThimbleLaw$Reader", "take", "(I)Z"⟩, 8), (⟨"ThimbleLaw$Reader", "choice", "(ILThimbleLaw$Text;)Z"⟩, 8), (⟨"ThimbleLaw$Reader", "either", "(ILThimbleLaw$Text;)Z"⟩, 8)]
theorem lw_r1 : ∀ q ∈ lw_privs_1, lw_okq q := List.forall_mem_cons.mpr ⟨lw_p0, List.forall_mem_cons.mpr ⟨lw_p1, List.forall_mem_cons.mpr ⟨lw_p2, List.forall_mem_cons.mpr ⟨lw_p3, List.forall_mem_cons.mpr ⟨lw_p4, List.forall_mem_cons.mpr ⟨lw_p5, List.forall_mem_cons.mpr ⟨lw_p6, List.forall_mem_cons.mpr ⟨lw_p7, List.forall_mem_cons.mpr ⟨lw_p8, List.forall_mem_cons.mpr ⟨lw_p9, List.forall_mem_cons.mpr ⟨lw_p10, List.forall_mem_cons.mpr ⟨lw_p11, List.forall_mem_cons.mpr ⟨lw_p12, List.forall_mem_cons.mpr ⟨lw_p13, List.forall_mem_cons.mpr ⟨lw_p14, List.forall_mem_cons.mpr ⟨lw_p15, fun _ h => absurd h List.not_mem_nil⟩⟩⟩⟩⟩⟩⟩⟩⟩⟩⟩⟩⟩⟩⟩⟩
theorem lw_p16 : lw_okq (⟨"ThimbleLaw$Reader", "both", "(ILThimbleLaw$Text;)Z"⟩, 8) := ⟨⟨by decide +kernel, by decide +kernel⟩, List.mem_of_getElem? (i := 279) (by decide +kernel), List.mem_of_getElem? (i := 549) (by decide +kernel), List.mem_of_getElem? (i := 550) (by decide +kernel)⟩
theorem lw_p17 : lw_okq (⟨"ThimbleLaw$Reader", "ask", "(ILThimbleLaw$Text;)Z"⟩, 8) := ⟨⟨by decide +kernel, by decide +kernel⟩, List.mem_of_getElem? (i := 279) (by decide +kernel), List.mem_of_getElem? (i := 553) (by decide +kernel), List.mem_of_getElem? (i := 554) (by decide +kernel)⟩
theorem lw_p18 : lw_okq (⟨"ThimbleLaw$Reader", "order", "(ILThimbleLaw$Text;)Z"⟩, 8) := ⟨⟨by decide +kernel, by decide +kernel⟩, List.mem_of_getElem? (i := 279) (by decide +kernel), List.mem_of_getElem? (i := 561) (by decide +kernel), List.mem_of_getElem? (i := 562) (by decide +kernel)⟩
theorem lw_p19 : lw_okq (⟨"ThimbleLaw$Reader", "part", "(IIILThimbleLaw$Text;)Z"⟩, 8) := ⟨⟨by decide +kernel, by decide +kernel⟩, List.mem_of_getElem? (i := 279) (by decide +kernel), List.mem_of_getElem? (i := 565) (by decide +kernel), List.mem_of_getElem? (i := 566) (by decide +kernel)⟩
theorem lw_p20 : lw_okq (⟨"ThimbleLaw$Hand", "step", "()V"⟩, 4) := ⟨⟨by decide +kernel, by decide +kernel⟩, List.mem_of_getElem? (i := 29) (by decide +kernel), List.mem_of_getElem? (i := 589) (by decide +kernel), List.mem_of_getElem? (i := 590) (by decide +kernel)⟩
theorem lw_p21 : lw_okq (⟨"ThimbleLaw$Judge", "value", "(LThimbleLaw$Text;I[I)I"⟩, 2) := ⟨⟨by decide +kernel, by decide +kernel⟩, List.mem_of_getElem? (i := 190) (by decide +kernel), List.mem_of_getElem? (i := 667) (by decide +kernel), List.mem_of_getElem? (i := 668) (by decide +kernel)⟩
theorem lw_p22 : lw_okq (⟨"ThimbleLaw$Judge", "nameAt", "(I)I"⟩, 2) := ⟨⟨by decide +kernel, by decide +kernel⟩, List.mem_of_getElem? (i := 190) (by decide +kernel), List.mem_of_getElem? (i := 672) (by decide +kernel), List.mem_of_getElem? (i := 673) (by decide +kernel)⟩
theorem lw_p23 : lw_okq (⟨"ThimbleLaw$Hand", "dryAll", "()V"⟩, 4) := ⟨⟨by decide +kernel, by decide +kernel⟩, List.mem_of_getElem? (i := 29) (by decide +kernel), List.mem_of_getElem? (i := 728) (by decide +kernel), List.mem_of_getElem? (i := 729) (by decide +kernel)⟩
theorem lw_p24 : lw_okq (⟨"ThimbleLaw$Hand", "act", "(IIII)Z"⟩, 4) := ⟨⟨by decide +kernel, by decide +kernel⟩, List.mem_of_getElem? (i := 29) (by decide +kernel), List.mem_of_getElem? (i := 749) (by decide +kernel), List.mem_of_getElem? (i := 750) (by decide +kernel)⟩
theorem lw_p25 : lw_okq (⟨"ThimbleLaw$Hand", "happen", "(I)V"⟩, 4) := ⟨⟨by decide +kernel, by decide +kernel⟩, List.mem_of_getElem? (i := 29) (by decide +kernel), List.mem_of_getElem? (i := 771) (by decide +kernel), List.mem_of_getElem? (i := 772) (by decide +kernel)⟩
theorem lw_p26 : lw_okq (⟨"ThimbleLaw", "isCase", "(II)Z"⟩, 9) := ⟨⟨by decide +kernel, by decide +kernel⟩, List.mem_of_getElem? (i := 21) (by decide +kernel), List.mem_of_getElem? (i := 845) (by decide +kernel), List.mem_of_getElem? (i := 846) (by decide +kernel)⟩
theorem lw_p27 : lw_okq (⟨"ThimbleLaw$Road", "walk", "([IIIII)V"⟩, 3) := ⟨⟨by decide +kernel, by decide +kernel⟩, List.mem_of_getElem? (i := 261) (by decide +kernel), List.mem_of_getElem? (i := 923) (by decide +kernel), List.mem_of_getElem? (i := 924) (by decide +kernel)⟩
theorem lw_p28 : lw_okq (⟨"ThimbleLawModel", "put", "(III)V"⟩, 26) := ⟨⟨by decide +kernel, by decide +kernel⟩, List.mem_of_getElem? (i := 1081) (by decide +kernel), List.mem_of_getElem? (i := 1178) (by decide +kernel), List.mem_of_getElem? (i := 1179) (by decide +kernel)⟩
theorem lw_p29 : lw_okq (⟨"ThimbleLawModel", "begin", "(I)V"⟩, 26) := ⟨⟨by decide +kernel, by decide +kernel⟩, List.mem_of_getElem? (i := 1081) (by decide +kernel), List.mem_of_getElem? (i := 1182) (by decide +kernel), List.mem_of_getElem? (i := 1183) (by decide +kernel)⟩
theorem lw_p30 : lw_okq (⟨"ThimbleLawModel", "get", "(II)I"⟩, 26) := ⟨⟨by decide +kernel, by decide +kernel⟩, List.mem_of_getElem? (i := 1081) (by decide +kernel), List.mem_of_getElem? (i := 1186) (by decide +kernel), List.mem_of_getElem? (i := 1187) (by decide +kernel)⟩
theorem lw_p31 : lw_okq (⟨"ThimbleLawModel", "four", "(I)V"⟩, 26) := ⟨⟨by decide +kernel, by decide +kernel⟩, List.mem_of_getElem? (i := 1081) (by decide +kernel), List.mem_of_getElem? (i := 1205) (by decide +kernel), List.mem_of_getElem? (i := 1206) (by decide +kernel)⟩
def lw_privs_2 : List (MethodName × Nat) := [(⟨"ThimbleLaw$Reader", "both", "(ILThimbleLaw$Text;)Z"⟩, 8), (⟨"ThimbleLaw$Reader", "ask", "(ILThimbleLaw$Text;)Z"⟩, 8), (⟨"ThimbleLaw$Reader", "order", "(ILThimbleLaw$Text;)Z"⟩, 8), (⟨"ThimbleLaw$Reader", "part", "(IIILThimbleLaw$Text;)Z"⟩, 8), (⟨"ThimbleLaw$Hand", "step", "()V"⟩, 4), (⟨"ThimbleLaw$Judge", "value", "(LThimbleLaw$Text;I[I)I"⟩, 2), (⟨"ThimbleLaw$Judge", "nameAt", "(I)I"⟩, 2), (⟨"ThimbleLaw$Hand", "dryAll", "()V"⟩, 4), (⟨"ThimbleLaw$Hand", "act", "(IIII)Z"⟩, 4), (⟨"ThimbleLaw$Hand", "happen", "(I)V"⟩, 4), (⟨"ThimbleLaw", "isCase", "(II)Z"⟩, 9), (⟨"ThimbleLaw$Road", "walk", "([IIIII)V"⟩, 3), (⟨"ThimbleLawModel", "put", "(III)V"⟩, 26), (⟨"ThimbleLawModel", "begin", "(I)V"⟩, 26), (⟨"ThimbleLawModel", "get", "(II)I"⟩, 26), (⟨"ThimbleLawModel", "four", "(I)V"⟩, 26)]
theorem lw_r2 : ∀ q ∈ lw_privs_2, lw_okq q := List.forall_mem_cons.mpr ⟨lw_p16, List.forall_mem_cons.mpr ⟨lw_p17, List.forall_mem_cons.mpr ⟨lw_p18, List.forall_mem_cons.mpr ⟨lw_p19, List.forall_mem_cons.mpr ⟨lw_p20, List.forall_mem_cons.mpr ⟨lw_p21, List.forall_mem_cons.mpr ⟨lw_p22, List.forall_mem_cons.mpr ⟨lw_p23, List.forall_mem_cons.mpr ⟨lw_p24, List.forall_mem_cons.mpr ⟨lw_p25, List.forall_mem_cons.mpr ⟨lw_p26, List.forall_mem_cons.mpr ⟨lw_p27, List.forall_mem_cons.mpr ⟨lw_p28, List.forall_mem_cons.mpr ⟨lw_p29, List.forall_mem_cons.mpr ⟨lw_p30, List.forall_mem_cons.mpr ⟨lw_p31, fun _ h => absurd h List.not_mem_nil⟩⟩⟩⟩⟩⟩⟩⟩⟩⟩⟩⟩⟩⟩⟩⟩
theorem lw_p32 : lw_okq (⟨"ThimbleLawModel", "readText", "()I"⟩, 26) := ⟨⟨by decide +kernel, by decide +kernel⟩, List.mem_of_getElem? (i := 1081) (by decide +kernel), List.mem_of_getElem? (i := 1217) (by decide +kernel), List.mem_of_getElem? (i := 1218) (by decide +kernel)⟩
theorem lw_p33 : lw_okq (⟨"ThimbleLawModel", "nextToken", "()V"⟩, 26) := ⟨⟨by decide +kernel, by decide +kernel⟩, List.mem_of_getElem? (i := 1081) (by decide +kernel), List.mem_of_getElem? (i := 1221) (by decide +kernel), List.mem_of_getElem? (i := 1222) (by decide +kernel)⟩
theorem lw_p34 : lw_okq (⟨"ThimbleLawModel", "byteAt", "(I)I"⟩, 26) := ⟨⟨by decide +kernel, by decide +kernel⟩, List.mem_of_getElem? (i := 1081) (by decide +kernel), List.mem_of_getElem? (i := 1225) (by decide +kernel), List.mem_of_getElem? (i := 1226) (by decide +kernel)⟩
theorem lw_p35 : lw_okq (⟨"ThimbleLawModel", "clause", "()I"⟩, 26) := ⟨⟨by decide +kernel, by decide +kernel⟩, List.mem_of_getElem? (i := 1081) (by decide +kernel), List.mem_of_getElem? (i := 1240) (by decide +kernel), List.mem_of_getElem? (i := 1241) (by decide +kernel)⟩
theorem lw_p36 : lw_okq (⟨"ThimbleLawModel", "sortOf", "()I"⟩, 26) := ⟨⟨by decide +kernel, by decide +kernel⟩, List.mem_of_getElem? (i := 1081) (by decide +kernel), List.mem_of_getElem? (i := 1244) (by decide +kernel), List.mem_of_getElem? (i := 1245) (by decide +kernel)⟩
theorem lw_p37 : lw_okq (⟨"ThimbleLawModel", "isWord", "(J)Z"⟩, 26) := ⟨⟨by decide +kernel, by decide +kernel⟩, List.mem_of_getElem? (i := 1081) (by decide +kernel), List.mem_of_getElem? (i := 1260) (by decide +kernel), List.mem_of_getElem? (i := 1261) (by decide +kernel)⟩
theorem lw_p38 : lw_okq (⟨"ThimbleLawModel", "isStandard", "()Z"⟩, 26) := ⟨⟨by decide +kernel, by decide +kernel⟩, List.mem_of_getElem? (i := 1081) (by decide +kernel), List.mem_of_getElem? (i := 1264) (by decide +kernel), List.mem_of_getElem? (i := 1265) (by decide +kernel)⟩
theorem lw_p39 : lw_okq (⟨"ThimbleLawModel", "body", "(II)I"⟩, 26) := ⟨⟨by decide +kernel, by decide +kernel⟩, List.mem_of_getElem? (i := 1081) (by decide +kernel), List.mem_of_getElem? (i := 1274) (by decide +kernel), List.mem_of_getElem? (i := 1275) (by decide +kernel)⟩
theorem lw_p40 : lw_okq (⟨"ThimbleLawModel", "three", "(IIIJIJI)I"⟩, 26) := ⟨⟨by decide +kernel, by decide +kernel⟩, List.mem_of_getElem? (i := 1081) (by decide +kernel), List.mem_of_getElem? (i := 1278) (by decide +kernel), List.mem_of_getElem? (i := 1279) (by decide +kernel)⟩
theorem lw_p41 : lw_okq (⟨"ThimbleLawModel", "figure", "(III)I"⟩, 26) := ⟨⟨by decide +kernel, by decide +kernel⟩, List.mem_of_getElem? (i := 1081) (by decide +kernel), List.mem_of_getElem? (i := 1282) (by decide +kernel), List.mem_of_getElem? (i := 1283) (by decide +kernel)⟩
theorem lw_p42 : lw_okq (⟨"ThimbleLawModel", "worded", "(JIII)I"⟩, 26) := ⟨⟨by decide +kernel, by decide +kernel⟩, List.mem_of_getElem? (i := 1081) (by decide +kernel), List.mem_of_getElem? (i := 1286) (by decide +kernel), List.mem_of_getElem? (i := 1287) (by decide +kernel)⟩
theorem lw_p43 : lw_okq (⟨"ThimbleLawModel", "pair", "(IIIJI)I"⟩, 26) := ⟨⟨by decide +kernel, by decide +kernel⟩, List.mem_of_getElem? (i := 1081) (by decide +kernel), List.mem_of_getElem? (i := 1290) (by decide +kernel), List.mem_of_getElem? (i := 1291) (by decide +kernel)⟩
theorem lw_p44 : lw_okq (⟨"ThimbleLawModel", "lawClause", "(I)I"⟩, 26) := ⟨⟨by decide +kernel, by decide +kernel⟩, List.mem_of_getElem? (i := 1081) (by decide +kernel), List.mem_of_getElem? (i := 1294) (by decide +kernel), List.mem_of_getElem? (i := 1295) (by decide +kernel)⟩
theorem lw_p45 : lw_okq (⟨"ThimbleLawModel", "summed", "()I"⟩, 26) := ⟨⟨by decide +kernel, by decide +kernel⟩, List.mem_of_getElem? (i := 1081) (by decide +kernel), List.mem_of_getElem? (i := 1298) (by decide +kernel), List.mem_of_getElem? (i := 1299) (by decide +kernel)⟩
theorem lw_p46 : lw_okq (⟨"ThimbleLawModel", "behindOne", "()I"⟩, 26) := ⟨⟨by decide +kernel, by decide +kernel⟩, List.mem_of_getElem? (i := 1081) (by decide +kernel), List.mem_of_getElem? (i := 1302) (by decide +kernel), List.mem_of_getElem? (i := 1303) (by decide +kernel)⟩
theorem lw_p47 : lw_okq (⟨"ThimbleLawModel", "betweenOf", "()I"⟩, 26) := ⟨⟨by decide +kernel, by decide +kernel⟩, List.mem_of_getElem? (i := 1081) (by decide +kernel), List.mem_of_getElem? (i := 1306) (by decide +kernel), List.mem_of_getElem? (i := 1307) (by decide +kernel)⟩
def lw_privs_3 : List (MethodName × Nat) := [(⟨"ThimbleLawModel", "readText", "()I"⟩, 26), (⟨"ThimbleLawModel", "nextToken", "()V"⟩, 26), (⟨"ThimbleLawModel", "byteAt", "(I)I"⟩, 26), (⟨"ThimbleLawModel", "clause", "()I"⟩, 26), (⟨"ThimbleLawModel", "sortOf", "()I"⟩, 26), (⟨"ThimbleLawModel", "isWord", "(J)Z"⟩, 26), (⟨"ThimbleLawModel", "isStandard", "()Z"⟩, 26), (⟨"ThimbleLawModel", "body", "(II)I"⟩, 26), (⟨"ThimbleLawModel", "three", "(IIIJIJI)I"⟩, 26), (⟨"ThimbleLawModel", "figure", "(III)I"⟩, 26), (⟨"ThimbleLawModel", "worded", "(JIII)I"⟩, 26), (⟨"ThimbleLawModel", "pair", "(IIIJI)I"⟩, 26), (⟨"ThimbleLawModel", "lawClause", "(I)I"⟩, 26), (⟨"ThimbleLawModel", "summed", "()I"⟩, 26), (⟨"ThimbleLawModel", "behindOne", "()I"⟩, 26), (⟨"ThimbleLawModel", "betweenOf", "()I"⟩, 26)]
theorem lw_r3 : ∀ q ∈ lw_privs_3, lw_okq q := List.forall_mem_cons.mpr ⟨lw_p32, List.forall_mem_cons.mpr ⟨lw_p33, List.forall_mem_cons.mpr ⟨lw_p34, List.forall_mem_cons.mpr ⟨lw_p35, List.forall_mem_cons.mpr ⟨lw_p36, List.forall_mem_cons.mpr ⟨lw_p37, List.forall_mem_cons.mpr ⟨lw_p38, List.forall_mem_cons.mpr ⟨lw_p39, List.forall_mem_cons.mpr ⟨lw_p40, List.forall_mem_cons.mpr ⟨lw_p41, List.forall_mem_cons.mpr ⟨lw_p42, List.forall_mem_cons.mpr ⟨lw_p43, List.forall_mem_cons.mpr ⟨lw_p44, List.forall_mem_cons.mpr ⟨lw_p45, List.forall_mem_cons.mpr ⟨lw_p46, List.forall_mem_cons.mpr ⟨lw_p47, fun _ h => absurd h List.not_mem_nil⟩⟩⟩⟩⟩⟩⟩⟩⟩⟩⟩⟩⟩⟩⟩⟩
theorem lw_p48 : lw_okq (⟨"ThimbleLawModel", "openNow", "()I"⟩, 26) := ⟨⟨by decide +kernel, by decide +kernel⟩, List.mem_of_getElem? (i := 1081) (by decide +kernel), List.mem_of_getElem? (i := 1310) (by decide +kernel), List.mem_of_getElem? (i := 1311) (by decide +kernel)⟩
theorem lw_p49 : lw_okq (⟨"ThimbleLawModel", "openAt", "()I"⟩, 26) := ⟨⟨by decide +kernel, by decide +kernel⟩, List.mem_of_getElem? (i := 1081) (by decide +kernel), List.mem_of_getElem? (i := 1314) (by decide +kernel), List.mem_of_getElem? (i := 1315) (by decide +kernel)⟩
theorem lw_p50 : lw_okq (⟨"ThimbleLawModel", "isCompared", "()Z"⟩, 26) := ⟨⟨by decide +kernel, by decide +kernel⟩, List.mem_of_getElem? (i := 1081) (by decide +kernel), List.mem_of_getElem? (i := 1318) (by decide +kernel), List.mem_of_getElem? (i := 1319) (by decide +kernel)⟩
theorem lw_p51 : lw_okq (⟨"ThimbleLawModel", "compareOf", "()I"⟩, 26) := ⟨⟨by decide +kernel, by decide +kernel⟩, List.mem_of_getElem? (i := 1081) (by decide +kernel), List.mem_of_getElem? (i := 1325) (by decide +kernel), List.mem_of_getElem? (i := 1326) (by decide +kernel)⟩
theorem lw_p52 : lw_okq (⟨"ThimbleLawModel", "settle", "(I)V"⟩, 26) := ⟨⟨by decide +kernel, by decide +kernel⟩, List.mem_of_getElem? (i := 1081) (by decide +kernel), List.mem_of_getElem? (i := 1329) (by decide +kernel), List.mem_of_getElem? (i := 1330) (by decide +kernel)⟩
theorem lw_p53 : lw_okq (⟨"ThimbleLawModel", "emit", "(II)V"⟩, 26) := ⟨⟨by decide +kernel, by decide +kernel⟩, List.mem_of_getElem? (i := 1081) (by decide +kernel), List.mem_of_getElem? (i := 1333) (by decide +kernel), List.mem_of_getElem? (i := 1334) (by decide +kernel)⟩
theorem lw_p54 : lw_okq (⟨"ThimbleLawModel", "partOf", "(I)I"⟩, 26) := ⟨⟨by decide +kernel, by decide +kernel⟩, List.mem_of_getElem? (i := 1081) (by decide +kernel), List.mem_of_getElem? (i := 1337) (by decide +kernel), List.mem_of_getElem? (i := 1338) (by decide +kernel)⟩
theorem lw_p55 : lw_okq (⟨"ThimbleLawModel", "endOne", "()I"⟩, 26) := ⟨⟨by decide +kernel, by decide +kernel⟩, List.mem_of_getElem? (i := 1081) (by decide +kernel), List.mem_of_getElem? (i := 1341) (by decide +kernel), List.mem_of_getElem? (i := 1342) (by decide +kernel)⟩
theorem lw_p56 : lw_okq (⟨"ThimbleLawModel", "beginOne", "()I"⟩, 26) := ⟨⟨by decide +kernel, by decide +kernel⟩, List.mem_of_getElem? (i := 1081) (by decide +kernel), List.mem_of_getElem? (i := 1345) (by decide +kernel), List.mem_of_getElem? (i := 1346) (by decide +kernel)⟩
theorem lw_p57 : lw_okq (⟨"ThimbleLawModel", "nameOf", "()I"⟩, 26) := ⟨⟨by decide +kernel, by decide +kernel⟩, List.mem_of_getElem? (i := 1081) (by decide +kernel), List.mem_of_getElem? (i := 1349) (by decide +kernel), List.mem_of_getElem? (i := 1350) (by decide +kernel)⟩
theorem lw_p58 : lw_okq (⟨"ThimbleLawModel", "opened", "(I)I"⟩, 26) := ⟨⟨by decide +kernel, by decide +kernel⟩, List.mem_of_getElem? (i := 1081) (by decide +kernel), List.mem_of_getElem? (i := 1353) (by decide +kernel), List.mem_of_getElem? (i := 1354) (by decide +kernel)⟩
theorem lw_p59 : lw_okq (⟨"ThimbleLawModel", "isAskAhead", "()Z"⟩, 26) := ⟨⟨by decide +kernel, by decide +kernel⟩, List.mem_of_getElem? (i := 1081) (by decide +kernel), List.mem_of_getElem? (i := 1357) (by decide +kernel), List.mem_of_getElem? (i := 1358) (by decide +kernel)⟩
theorem lw_p60 : lw_okq (⟨"ThimbleLawModel", "isOne", "(I)Z"⟩, 26) := ⟨⟨by decide +kernel, by decide +kernel⟩, List.mem_of_getElem? (i := 1081) (by decide +kernel), List.mem_of_getElem? (i := 1377) (by decide +kernel), List.mem_of_getElem? (i := 1378) (by decide +kernel)⟩
theorem lw_p61 : lw_okq (⟨"ThimbleLawModel", "keep", "()V"⟩, 26) := ⟨⟨by decide +kernel, by decide +kernel⟩, List.mem_of_getElem? (i := 1081) (by decide +kernel), List.mem_of_getElem? (i := 1381) (by decide +kernel), List.mem_of_getElem? (i := 1382) (by decide +kernel)⟩
theorem lw_p62 : lw_okq (⟨"ThimbleLawModel", "more", "(III)V"⟩, 26) := ⟨⟨by decide +kernel, by decide +kernel⟩, List.mem_of_getElem? (i := 1081) (by decide +kernel), List.mem_of_getElem? (i := 1385) (by decide +kernel), List.mem_of_getElem? (i := 1386) (by decide +kernel)⟩
theorem lw_p63 : lw_okq (⟨"ThimbleLawModel", "canWash", "(III)Z"⟩, 26) := ⟨⟨by decide +kernel, by decide +kernel⟩, List.mem_of_getElem? (i := 1081) (by decide +kernel), List.mem_of_getElem? (i := 1400) (by decide +kernel), List.mem_of_getElem? (i := 1401) (by decide +kernel)⟩
def lw_privs_4 : List (MethodName × Nat) := [(⟨"ThimbleLawModel", "openNow", "()I"⟩, 26), (⟨"ThimbleLawModel", "openAt", "()I"⟩, 26), (⟨"ThimbleLawModel", "isCompared", "()Z"⟩, 26), (⟨"ThimbleLawModel", "compareOf", "()I"⟩, 26), (⟨"ThimbleLawModel", "settle", "(I)V"⟩, 26), (⟨"ThimbleLawModel", "emit", "(II)V"⟩, 26), (⟨"ThimbleLawModel", "partOf", "(I)I"⟩, 26), (⟨"ThimbleLawModel", "endOne", "()I"⟩, 26), (⟨"ThimbleLawModel", "beginOne", "()I"⟩, 26), (⟨"ThimbleLawModel", "nameOf", "()I"⟩, 26), (⟨"ThimbleLawModel", "opened", "(I)I"⟩, 26), (⟨"ThimbleLawModel", "isAskAhead", "()Z"⟩, 26), (⟨"ThimbleLawModel", "isOne", "(I)Z"⟩, 26), (⟨"ThimbleLawModel", "keep", "()V"⟩, 26), (⟨"ThimbleLawModel", "more", "(III)V"⟩, 26), (⟨"ThimbleLawModel", "canWash", "(III)Z"⟩, 26)]
theorem lw_r4 : ∀ q ∈ lw_privs_4, lw_okq q := List.forall_mem_cons.mpr ⟨lw_p48, List.forall_mem_cons.mpr ⟨lw_p49, List.forall_mem_cons.mpr ⟨lw_p50, List.forall_mem_cons.mpr ⟨lw_p51, List.forall_mem_cons.mpr ⟨lw_p52, List.forall_mem_cons.mpr ⟨lw_p53, List.forall_mem_cons.mpr ⟨lw_p54, List.forall_mem_cons.mpr ⟨lw_p55, List.forall_mem_cons.mpr ⟨lw_p56, List.forall_mem_cons.mpr ⟨lw_p57, List.forall_mem_cons.mpr ⟨lw_p58, List.forall_mem_cons.mpr ⟨lw_p59, List.forall_mem_cons.mpr ⟨lw_p60, List.forall_mem_cons.mpr ⟨lw_p61, List.forall_mem_cons.mpr ⟨lw_p62, List.forall_mem_cons.mpr ⟨lw_p63, fun _ h => absurd h List.not_mem_nil⟩⟩⟩⟩⟩⟩⟩⟩⟩⟩⟩⟩⟩⟩⟩⟩
theorem lw_p64 : lw_okq (⟨"ThimbleLawModel", "washNow", "(III)V"⟩, 26) := ⟨⟨by decide +kernel, by decide +kernel⟩, List.mem_of_getElem? (i := 1081) (by decide +kernel), List.mem_of_getElem? (i := 1404) (by decide +kernel), List.mem_of_getElem? (i := 1405) (by decide +kernel)⟩
theorem lw_p65 : lw_okq (⟨"ThimbleLawModel", "pourNow", "(II)I"⟩, 26) := ⟨⟨by decide +kernel, by decide +kernel⟩, List.mem_of_getElem? (i := 1081) (by decide +kernel), List.mem_of_getElem? (i := 1412) (by decide +kernel), List.mem_of_getElem? (i := 1413) (by decide +kernel)⟩
theorem lw_p66 : lw_okq (⟨"ThimbleLawModel", "errsOf", "(II)I"⟩, 26) := ⟨⟨by decide +kernel, by decide +kernel⟩, List.mem_of_getElem? (i := 1081) (by decide +kernel), List.mem_of_getElem? (i := 1416) (by decide +kernel), List.mem_of_getElem? (i := 1417) (by decide +kernel)⟩
theorem lw_p67 : lw_okq (⟨"ThimbleLawModel", "name", "(II)V"⟩, 26) := ⟨⟨by decide +kernel, by decide +kernel⟩, List.mem_of_getElem? (i := 1081) (by decide +kernel), List.mem_of_getElem? (i := 1420) (by decide +kernel), List.mem_of_getElem? (i := 1421) (by decide +kernel)⟩
theorem lw_p68 : lw_okq (⟨"ThimbleLawModel", "roomOf", "(I)I"⟩, 26) := ⟨⟨by decide +kernel, by decide +kernel⟩, List.mem_of_getElem? (i := 1081) (by decide +kernel), List.mem_of_getElem? (i := 1424) (by decide +kernel), List.mem_of_getElem? (i := 1425) (by decide +kernel)⟩
theorem lw_p69 : lw_okq (⟨"ThimbleLawModel", "says", "(IIII)I"⟩, 26) := ⟨⟨by decide +kernel, by decide +kernel⟩, List.mem_of_getElem? (i := 1081) (by decide +kernel), List.mem_of_getElem? (i := 1431) (by decide +kernel), List.mem_of_getElem? (i := 1432) (by decide +kernel)⟩
theorem lw_p70 : lw_okq (⟨"ThimbleLawModel", "summedUp", "(II)J"⟩, 26) := ⟨⟨by decide +kernel, by decide +kernel⟩, List.mem_of_getElem? (i := 1081) (by decide +kernel), List.mem_of_getElem? (i := 1435) (by decide +kernel), List.mem_of_getElem? (i := 1436) (by decide +kernel)⟩
theorem lw_p71 : lw_okq (⟨"ThimbleLawModel", "brimsOf", "(J)J"⟩, 26) := ⟨⟨by decide +kernel, by decide +kernel⟩, List.mem_of_getElem? (i := 1081) (by decide +kernel), List.mem_of_getElem? (i := 1439) (by decide +kernel), List.mem_of_getElem? (i := 1440) (by decide +kernel)⟩
theorem lw_p72 : lw_okq (⟨"ThimbleLawModel", "anew", "()V"⟩, 26) := ⟨⟨by decide +kernel, by decide +kernel⟩, List.mem_of_getElem? (i := 1081) (by decide +kernel), List.mem_of_getElem? (i := 1461) (by decide +kernel), List.mem_of_getElem? (i := 1462) (by decide +kernel)⟩
theorem lw_p73 : lw_okq (⟨"ThimbleLawModel", "isOver", "(II)Z"⟩, 26) := ⟨⟨by decide +kernel, by decide +kernel⟩, List.mem_of_getElem? (i := 1081) (by decide +kernel), List.mem_of_getElem? (i := 1468) (by decide +kernel), List.mem_of_getElem? (i := 1469) (by decide +kernel)⟩
theorem lw_p74 : lw_okq (⟨"ThimbleLawModel", "excess", "(III)I"⟩, 26) := ⟨⟨by decide +kernel, by decide +kernel⟩, List.mem_of_getElem? (i := 1081) (by decide +kernel), List.mem_of_getElem? (i := 1472) (by decide +kernel), List.mem_of_getElem? (i := 1473) (by decide +kernel)⟩
theorem lw_p75 : lw_okq (⟨"ThimbleLawModel", "fineOf", "(II)I"⟩, 26) := ⟨⟨by decide +kernel, by decide +kernel⟩, List.mem_of_getElem? (i := 1081) (by decide +kernel), List.mem_of_getElem? (i := 1476) (by decide +kernel), List.mem_of_getElem? (i := 1477) (by decide +kernel)⟩
theorem lw_p76 : lw_okq (⟨"ThimbleLawModel", "canBend", "(I)Z"⟩, 26) := ⟨⟨by decide +kernel, by decide +kernel⟩, List.mem_of_getElem? (i := 1081) (by decide +kernel), List.mem_of_getElem? (i := 1484) (by decide +kernel), List.mem_of_getElem? (i := 1485) (by decide +kernel)⟩
theorem lw_p77 : lw_okq (⟨"ThimbleLawModel", "arePassed", "(I)Z"⟩, 26) := ⟨⟨by decide +kernel, by decide +kernel⟩, List.mem_of_getElem? (i := 1081) (by decide +kernel), List.mem_of_getElem? (i := 1496) (by decide +kernel), List.mem_of_getElem? (i := 1497) (by decide +kernel)⟩
theorem lw_p78 : lw_okq (⟨"ThimbleLawModel", "pass", "()V"⟩, 26) := ⟨⟨by decide +kernel, by decide +kernel⟩, List.mem_of_getElem? (i := 1081) (by decide +kernel), List.mem_of_getElem? (i := 1500) (by decide +kernel), List.mem_of_getElem? (i := 1501) (by decide +kernel)⟩
theorem lw_p79 : lw_okq (⟨"ThimbleLawModel", "driesOf", "(III)I"⟩, 26) := ⟨⟨by decide +kernel, by decide +kernel⟩, List.mem_of_getElem? (i := 1081) (by decide +kernel), List.mem_of_getElem? (i := 1504) (by decide +kernel), List.mem_of_getElem? (i := 1505) (by decide +kernel)⟩
def lw_privs_5 : List (MethodName × Nat) := [(⟨"ThimbleLawModel", "washNow", "(III)V"⟩, 26), (⟨"ThimbleLawModel", "pourNow", "(II)I"⟩, 26), (⟨"ThimbleLawModel", "errsOf", "(II)I"⟩, 26), (⟨"ThimbleLawModel", "name", "(II)V"⟩, 26), (⟨"ThimbleLawModel", "roomOf", "(I)I"⟩, 26), (⟨"ThimbleLawModel", "says", "(IIII)I"⟩, 26), (⟨"ThimbleLawModel", "summedUp", "(II)J"⟩, 26), (⟨"ThimbleLawModel", "brimsOf", "(J)J"⟩, 26), (⟨"ThimbleLawModel", "anew", "()V"⟩, 26), (⟨"ThimbleLawModel", "isOver", "(II)Z"⟩, 26), (⟨"ThimbleLawModel", "excess", "(III)I"⟩, 26), (⟨"ThimbleLawModel", "fineOf", "(II)I"⟩, 26), (⟨"ThimbleLawModel", "canBend", "(I)Z"⟩, 26), (⟨"ThimbleLawModel", "arePassed", "(I)Z"⟩, 26), (⟨"ThimbleLawModel", "pass", "()V"⟩, 26), (⟨"ThimbleLawModel", "driesOf", "(III)I"⟩, 26)]
theorem lw_r5 : ∀ q ∈ lw_privs_5, lw_okq q := List.forall_mem_cons.mpr ⟨lw_p64, List.forall_mem_cons.mpr ⟨lw_p65, List.forall_mem_cons.mpr ⟨lw_p66, List.forall_mem_cons.mpr ⟨lw_p67, List.forall_mem_cons.mpr ⟨lw_p68, List.forall_mem_cons.mpr ⟨lw_p69, List.forall_mem_cons.mpr ⟨lw_p70, List.forall_mem_cons.mpr ⟨lw_p71, List.forall_mem_cons.mpr ⟨lw_p72, List.forall_mem_cons.mpr ⟨lw_p73, List.forall_mem_cons.mpr ⟨lw_p74, List.forall_mem_cons.mpr ⟨lw_p75, List.forall_mem_cons.mpr ⟨lw_p76, List.forall_mem_cons.mpr ⟨lw_p77, List.forall_mem_cons.mpr ⟨lw_p78, List.forall_mem_cons.mpr ⟨lw_p79, fun _ h => absurd h List.not_mem_nil⟩⟩⟩⟩⟩⟩⟩⟩⟩⟩⟩⟩⟩⟩⟩⟩
theorem lw_p80 : lw_okq (⟨"ThimbleLawModel", "isPlayed", "(I)Z"⟩, 26) := ⟨⟨by decide +kernel, by decide +kernel⟩, List.mem_of_getElem? (i := 1081) (by decide +kernel), List.mem_of_getElem? (i := 1512) (by decide +kernel), List.mem_of_getElem? (i := 1513) (by decide +kernel)⟩
theorem lw_p81 : lw_okq (⟨"ThimbleLawModel", "happens", "(I)V"⟩, 26) := ⟨⟨by decide +kernel, by decide +kernel⟩, List.mem_of_getElem? (i := 1081) (by decide +kernel), List.mem_of_getElem? (i := 1529) (by decide +kernel), List.mem_of_getElem? (i := 1530) (by decide +kernel)⟩
theorem lw_p82 : lw_okq (⟨"ThimbleLawModel", "overs", "(I)I"⟩, 26) := ⟨⟨by decide +kernel, by decide +kernel⟩, List.mem_of_getElem? (i := 1081) (by decide +kernel), List.mem_of_getElem? (i := 1537) (by decide +kernel), List.mem_of_getElem? (i := 1538) (by decide +kernel)⟩
theorem lw_p83 : lw_okq (⟨"ThimbleLawModel", "shown", "()I"⟩, 26) := ⟨⟨by decide +kernel, by decide +kernel⟩, List.mem_of_getElem? (i := 1081) (by decide +kernel), List.mem_of_getElem? (i := 1553) (by decide +kernel), List.mem_of_getElem? (i := 1554) (by decide +kernel)⟩
theorem lw_p84 : lw_okq (⟨"ThimbleLawModel", "entry", "(II)I"⟩, 26) := ⟨⟨by decide +kernel, by decide +kernel⟩, List.mem_of_getElem? (i := 1081) (by decide +kernel), List.mem_of_getElem? (i := 1557) (by decide +kernel), List.mem_of_getElem? (i := 1558) (by decide +kernel)⟩
theorem lw_p85 : lw_okq (⟨"ThimbleLawModel", "togetherOf", "(I)I"⟩, 26) := ⟨⟨by decide +kernel, by decide +kernel⟩, List.mem_of_getElem? (i := 1081) (by decide +kernel), List.mem_of_getElem? (i := 1577) (by decide +kernel), List.mem_of_getElem? (i := 1578) (by decide +kernel)⟩
theorem lw_p86 : lw_okq (⟨"ThimbleLawModel", "excessOf", "(I)I"⟩, 26) := ⟨⟨by decide +kernel, by decide +kernel⟩, List.mem_of_getElem? (i := 1081) (by decide +kernel), List.mem_of_getElem? (i := 1585) (by decide +kernel), List.mem_of_getElem? (i := 1586) (by decide +kernel)⟩
theorem lw_p87 : lw_okq (⟨"ThimbleLawModel", "setAside", "()V"⟩, 26) := ⟨⟨by decide +kernel, by decide +kernel⟩, List.mem_of_getElem? (i := 1081) (by decide +kernel), List.mem_of_getElem? (i := 1601) (by decide +kernel), List.mem_of_getElem? (i := 1602) (by decide +kernel)⟩
theorem lw_p88 : lw_okq (⟨"ThimbleLawModel", "putBack", "()V"⟩, 26) := ⟨⟨by decide +kernel, by decide +kernel⟩, List.mem_of_getElem? (i := 1081) (by decide +kernel), List.mem_of_getElem? (i := 1605) (by decide +kernel), List.mem_of_getElem? (i := 1606) (by decide +kernel)⟩
theorem lw_p89 : lw_okq (⟨"ThimbleLawModel", "dropsOf", "(II)I"⟩, 26) := ⟨⟨by decide +kernel, by decide +kernel⟩, List.mem_of_getElem? (i := 1081) (by decide +kernel), List.mem_of_getElem? (i := 1621) (by decide +kernel), List.mem_of_getElem? (i := 1622) (by decide +kernel)⟩
theorem lw_p90 : lw_okq (⟨"ThimbleLawModel", "layRound", "()I"⟩, 26) := ⟨⟨by decide +kernel, by decide +kernel⟩, List.mem_of_getElem? (i := 1081) (by decide +kernel), List.mem_of_getElem? (i := 1658) (by decide +kernel), List.mem_of_getElem? (i := 1659) (by decide +kernel)⟩
theorem lw_p91 : lw_okq (⟨"ThimbleLawModel", "lengthNow", "()I"⟩, 26) := ⟨⟨by decide +kernel, by decide +kernel⟩, List.mem_of_getElem? (i := 1081) (by decide +kernel), List.mem_of_getElem? (i := 1663) (by decide +kernel), List.mem_of_getElem? (i := 1664) (by decide +kernel)⟩
theorem lw_p92 : lw_okq (⟨"ThimbleLawModel", "nextRow", "()Z"⟩, 26) := ⟨⟨by decide +kernel, by decide +kernel⟩, List.mem_of_getElem? (i := 1081) (by decide +kernel), List.mem_of_getElem? (i := 1667) (by decide +kernel), List.mem_of_getElem? (i := 1668) (by decide +kernel)⟩
theorem lw_p93 : lw_okq (⟨"ThimbleLawModel", "isStandardOf", "(I)Z"⟩, 26) := ⟨⟨by decide +kernel, by decide +kernel⟩, List.mem_of_getElem? (i := 1081) (by decide +kernel), List.mem_of_getElem? (i := 1679) (by decide +kernel), List.mem_of_getElem? (i := 1680) (by decide +kernel)⟩
theorem lw_p94 : lw_okq (⟨"ThimbleLawModel", "countsOf", "(I)I"⟩, 26) := ⟨⟨by decide +kernel, by decide +kernel⟩, List.mem_of_getElem? (i := 1081) (by decide +kernel), List.mem_of_getElem? (i := 1687) (by decide +kernel), List.mem_of_getElem? (i := 1688) (by decide +kernel)⟩
theorem lw_p95 : lw_okq (⟨"ThimbleLawModel", "needOf", "(II)I"⟩, 26) := ⟨⟨by decide +kernel, by decide +kernel⟩, List.mem_of_getElem? (i := 1081) (by decide +kernel), List.mem_of_getElem? (i := 1695) (by decide +kernel), List.mem_of_getElem? (i := 1696) (by decide +kernel)⟩
def lw_privs_6 : List (MethodName × Nat) := [(⟨"ThimbleLawModel", "isPlayed", "(I)Z"⟩, 26), (⟨"ThimbleLawModel", "happens", "(I)V"⟩, 26), (⟨"ThimbleLawModel", "overs", "(I)I"⟩, 26), (⟨"ThimbleLawModel", "shown", "()I"⟩, 26), (⟨"ThimbleLawModel", "entry", "(II)I"⟩, 26), (⟨"ThimbleLawModel", "togetherOf", "(I)I"⟩, 26), (⟨"ThimbleLawModel", "excessOf", "(I)I"⟩, 26), (⟨"ThimbleLawModel", "setAside", "()V"⟩, 26), (⟨"ThimbleLawModel", "putBack", "()V"⟩, 26), (⟨"ThimbleLawModel", "dropsOf", "(II)I"⟩, 26), (⟨"ThimbleLawModel", "layRound", "()I"⟩, 26), (⟨"ThimbleLawModel", "lengthNow", "()I"⟩, 26), (⟨"ThimbleLawModel", "nextRow", "()Z"⟩, 26), (⟨"ThimbleLawModel", "isStandardOf", "(I)Z"⟩, 26), (⟨"ThimbleLawModel", "countsOf", "(I)I"⟩, 26), (⟨"ThimbleLawModel", "needOf", "(II)I"⟩, 26)]
theorem lw_r6 : ∀ q ∈ lw_privs_6, lw_okq q := List.forall_mem_cons.mpr ⟨lw_p80, List.forall_mem_cons.mpr ⟨lw_p81, List.forall_mem_cons.mpr ⟨lw_p82, List.forall_mem_cons.mpr ⟨lw_p83, List.forall_mem_cons.mpr ⟨lw_p84, List.forall_mem_cons.mpr ⟨lw_p85, List.forall_mem_cons.mpr ⟨lw_p86, List.forall_mem_cons.mpr ⟨lw_p87, List.forall_mem_cons.mpr ⟨lw_p88, List.forall_mem_cons.mpr ⟨lw_p89, List.forall_mem_cons.mpr ⟨lw_p90, List.forall_mem_cons.mpr ⟨lw_p91, List.forall_mem_cons.mpr ⟨lw_p92, List.forall_mem_cons.mpr ⟨lw_p93, List.forall_mem_cons.mpr ⟨lw_p94, List.forall_mem_cons.mpr ⟨lw_p95, fun _ h => absurd h List.not_mem_nil⟩⟩⟩⟩⟩⟩⟩⟩⟩⟩⟩⟩⟩⟩⟩⟩
theorem lw_p96 : lw_okq (⟨"ThimbleLawModel", "apart", "(II)I"⟩, 26) := ⟨⟨by decide +kernel, by decide +kernel⟩, List.mem_of_getElem? (i := 1081) (by decide +kernel), List.mem_of_getElem? (i := 1703) (by decide +kernel), List.mem_of_getElem? (i := 1704) (by decide +kernel)⟩
theorem lw_p97 : lw_okq (⟨"ThimbleLawModel", "roomsOf", "(I)I"⟩, 26) := ⟨⟨by decide +kernel, by decide +kernel⟩, List.mem_of_getElem? (i := 1081) (by decide +kernel), List.mem_of_getElem? (i := 1707) (by decide +kernel), List.mem_of_getElem? (i := 1708) (by decide +kernel)⟩
def lw_privs_7 : List (MethodName × Nat) := [(⟨"ThimbleLawModel", "apart", "(II)I"⟩, 26), (⟨"ThimbleLawModel", "roomsOf", "(I)I"⟩, 26)]
theorem lw_r7 : ∀ q ∈ lw_privs_7, lw_okq q := List.forall_mem_cons.mpr ⟨lw_p96, List.forall_mem_cons.mpr ⟨lw_p97, fun _ h => absurd h List.not_mem_nil⟩⟩
def lw_privs : List (MethodName × Nat) := lw_privs_1 ++ (lw_privs_2 ++ (lw_privs_3 ++ (lw_privs_4 ++ (lw_privs_5 ++ (lw_privs_6 ++ (lw_privs_7))))))
def lw_tbl : List Cond := k2_sels lw_privs ++ tables_1
theorem lw_privs_ok : ∀ q ∈ lw_privs, lw_okq q := by
  show ∀ q ∈ lw_privs_1 ++ (lw_privs_2 ++ (lw_privs_3 ++ (lw_privs_4 ++ (lw_privs_5 ++ (lw_privs_6 ++ (lw_privs_7)))))), lw_okq q
  exact List.forall_mem_append.mpr ⟨lw_r1, List.forall_mem_append.mpr ⟨lw_r2, List.forall_mem_append.mpr ⟨lw_r3, List.forall_mem_append.mpr ⟨lw_r4, List.forall_mem_append.mpr ⟨lw_r5, List.forall_mem_append.mpr ⟨lw_r6, lw_r7⟩⟩⟩⟩⟩⟩

def nth {α : Type} (d : α) : List α → Nat → α
  | [], _ => d
  | x :: _, 0 => x
  | _ :: xs, n + 1 => nth d xs n
def nth2 {α : Type} (d : α) (l : List (List α)) (n : Nat) : α := nth d (nth [] l (n / 16)) (n % 16)
def fR0 : String := "ThimbleLaw$City"
def fT0 : u_T := fun k => match k with
  | 0 => ("ThimbleLaw$City", "people", "I", false)
  | 1 => ("ThimbleLaw$City", "measure", "I", false)
  | 2 => ("ThimbleLaw$City", "today", "I", false)
  | 3 => ("ThimbleLaw$City", "x", "I", false)
  | 4 => ("ThimbleLaw$City", "textCount", "I", false)
  | 5 => ("ThimbleLaw$City", "law", "I", false)
  | 6 => ("ThimbleLaw$City", "fineCount", "I", false)
  | 7 => ("ThimbleLaw$City", "stuffs", "[I", true)
  | 8 => ("ThimbleLaw$City", "dents", "[I", true)
  | 9 => ("ThimbleLaw$City", "purses", "[I", true)
  | 10 => ("ThimbleLaw$City", "amounts", "[I", true)
  | 11 => ("ThimbleLaw$City", "brims", "[I", true)
  | 12 => ("ThimbleLaw$City", "prices", "[I", true)
  | 13 => ("ThimbleLaw$City", "ways", "[I", true)
  | 14 => ("ThimbleLaw$City", "fineRow", "[I", true)
  | 15 => ("ThimbleLaw$City", "deeds", "LThimbleLaw$Told;", true)
  | 16 => ("ThimbleLaw$City", "years", "LThimbleLaw$Told;", true)
  | 17 => ("ThimbleLaw$City", "dryings", "LThimbleLaw$Told;", true)
  | _ => ("ThimbleLaw$City", "steps", "LThimbleLaw$Steps;", true)
def fY0 : Nat → FieldType := fun k => match k with
  | 0 => .int
  | 1 => .int
  | 2 => .int
  | 3 => .int
  | 4 => .int
  | 5 => .int
  | 6 => .int
  | 7 => .array .int
  | 8 => .array .int
  | 9 => .array .int
  | 10 => .array .int
  | 11 => .array .int
  | 12 => .array .int
  | 13 => .array .int
  | 14 => .array .int
  | 15 => .object "ThimbleLaw$Told"
  | 16 => .object "ThimbleLaw$Told"
  | 17 => .object "ThimbleLaw$Told"
  | _ => .object "ThimbleLaw$Steps"
def fR1 : String := "ThimbleLaw$Hand"
def fT1 : u_T := fun k => match k with
  | 0 => ("ThimbleLaw$Hand", "city", "LThimbleLaw$City;", true)
  | 1 => ("ThimbleLaw$Hand", "judge", "LThimbleLaw$Judge;", true)
  | 2 => ("ThimbleLaw$Hand", "texts", "[LThimbleLaw$Text;", true)
  | _ => ("ThimbleLaw$Hand", "inCenturies", "Z", false)
def fY1 : Nat → FieldType := fun k => match k with
  | 0 => .object "ThimbleLaw$City"
  | 1 => .object "ThimbleLaw$Judge"
  | 2 => .array (.object "ThimbleLaw$Text")
  | _ => .boolean
def fR2 : String := "ThimbleLaw$Judge"
def fT2 : u_T := fun k => match k with
  | 0 => ("ThimbleLaw$Judge", "names", "[I", true)
  | _ => ("ThimbleLaw$Judge", "stack", "[I", true)
def fY2 : Nat → FieldType := fun k => match k with
  | 0 => .array .int
  | _ => .array .int
def fR3 : String := "ThimbleLaw$Reader"
def fT3 : u_T := fun k => match k with
  | 0 => ("ThimbleLaw$Reader", "codes", "[I", true)
  | 1 => ("ThimbleLaw$Reader", "starts", "[I", true)
  | 2 => ("ThimbleLaw$Reader", "values", "[I", true)
  | 3 => ("ThimbleLaw$Reader", "tokens", "I", false)
  | 4 => ("ThimbleLaw$Reader", "at", "I", false)
  | 5 => ("ThimbleLaw$Reader", "law", "I", false)
  | 6 => ("ThimbleLaw$Reader", "fault", "I", false)
  | _ => ("ThimbleLaw$Reader", "place", "I", false)
def fY3 : Nat → FieldType := fun k => match k with
  | 0 => .array .int
  | 1 => .array .int
  | 2 => .array .int
  | 3 => .int
  | 4 => .int
  | 5 => .int
  | 6 => .int
  | _ => .int
def fR4 : String := "ThimbleLaw$Road"
def fT4 : u_T := fun k => match k with
  | 0 => ("ThimbleLaw$Road", "path", "[I", true)
  | 1 => ("ThimbleLaw$Road", "best", "[I", true)
  | _ => ("ThimbleLaw$Road", "shortest", "I", false)
def fY4 : Nat → FieldType := fun k => match k with
  | 0 => .array .int
  | 1 => .array .int
  | _ => .int
def fR5 : String := "ThimbleLaw$Steps"
def fT5 : u_T := fun k => match k with
  | 0 => ("ThimbleLaw$Steps", "rows", "[I", true)
  | 1 => ("ThimbleLaw$Steps", "eldest", "I", false)
  | _ => ("ThimbleLaw$Steps", "count", "I", false)
def fY5 : Nat → FieldType := fun k => match k with
  | 0 => .array .int
  | 1 => .int
  | _ => .int
def fR6 : String := "ThimbleLaw$Text"
def fT6 : u_T := fun k => match k with
  | 0 => ("ThimbleLaw$Text", "clauses", "[I", true)
  | 1 => ("ThimbleLaw$Text", "ops", "[I", true)
  | 2 => ("ThimbleLaw$Text", "args", "[I", true)
  | 3 => ("ThimbleLaw$Text", "from", "[I", true)
  | 4 => ("ThimbleLaw$Text", "to", "[I", true)
  | 5 => ("ThimbleLaw$Text", "clauseCount", "I", false)
  | _ => ("ThimbleLaw$Text", "codeCount", "I", false)
def fY6 : Nat → FieldType := fun k => match k with
  | 0 => .array .int
  | 1 => .array .int
  | 2 => .array .int
  | 3 => .array .int
  | 4 => .array .int
  | 5 => .int
  | _ => .int
def fR7 : String := "ThimbleLaw$Told"
def fT7 : u_T := fun k => match k with
  | 0 => ("ThimbleLaw$Told", "first", "[I", true)
  | 1 => ("ThimbleLaw$Told", "second", "[I", true)
  | 2 => ("ThimbleLaw$Told", "third", "[I", true)
  | _ => ("ThimbleLaw$Told", "count", "I", false)
def fY7 : Nat → FieldType := fun k => match k with
  | 0 => .array .int
  | 1 => .array .int
  | 2 => .array .int
  | _ => .int
def fR8 : String := "ThimbleLaw"
def fT8 : u_T := fun k => match k with
  | 0 => ("ThimbleLaw", "hand", "LThimbleLaw$Hand;", true)
  | 1 => ("ThimbleLaw", "city", "LThimbleLaw$City;", true)
  | 2 => ("ThimbleLaw", "kept", "LThimbleLaw$City;", true)
  | 3 => ("ThimbleLaw", "road", "LThimbleLaw$Road;", true)
  | 4 => ("ThimbleLaw", "reader", "LThimbleLaw$Reader;", true)
  | 5 => ("ThimbleLaw", "tape", "[B", true)
  | 6 => ("ThimbleLaw", "tapeLength", "I", false)
  | 7 => ("ThimbleLaw", "latestFault", "I", false)
  | _ => ("ThimbleLaw", "latestPlace", "I", false)
def fY8 : Nat → FieldType := fun k => match k with
  | 0 => .object "ThimbleLaw$Hand"
  | 1 => .object "ThimbleLaw$City"
  | 2 => .object "ThimbleLaw$City"
  | 3 => .object "ThimbleLaw$Road"
  | 4 => .object "ThimbleLaw$Reader"
  | 5 => .array .byte
  | 6 => .int
  | 7 => .int
  | _ => .int
def fR9 : String := "ThimbleLawModel"
def fT9 : u_T := fun k => match k with
  | 0 => ("ThimbleLawModel", "a", "[I", true)
  | 1 => ("ThimbleLawModel", "image", "[I", true)
  | 2 => ("ThimbleLawModel", "texts", "[I", true)
  | 3 => ("ThimbleLawModel", "tape", "[I", true)
  | 4 => ("ThimbleLawModel", "taped", "I", false)
  | 5 => ("ThimbleLawModel", "fault", "I", false)
  | 6 => ("ThimbleLawModel", "faultPlace", "I", false)
  | 7 => ("ThimbleLawModel", "at", "I", false)
  | 8 => ("ThimbleLawModel", "place", "I", false)
  | 9 => ("ThimbleLawModel", "token", "I", false)
  | 10 => ("ThimbleLawModel", "number", "I", false)
  | 11 => ("ThimbleLawModel", "word", "J", false)
  | 12 => ("ThimbleLawModel", "text0", "I", false)
  | 13 => ("ThimbleLawModel", "written", "I", false)
  | 14 => ("ThimbleLawModel", "sort0", "I", false)
  | 15 => ("ThimbleLawModel", "pile", "[I", true)
  | 16 => ("ThimbleLawModel", "piled", "I", false)
  | 17 => ("ThimbleLawModel", "opens", "I", false)
  | 18 => ("ThimbleLawModel", "isWhole", "Z", false)
  | 19 => ("ThimbleLawModel", "once", "I", false)
  | 20 => ("ThimbleLawModel", "named", "[I", true)
  | 21 => ("ThimbleLawModel", "values", "[J", true)
  | 22 => ("ThimbleLawModel", "truth", "[Z", true)
  | 23 => ("ThimbleLawModel", "aside", "[I", true)
  | 24 => ("ThimbleLawModel", "row", "[I", true)
  | _ => ("ThimbleLawModel", "best", "[I", true)
def fY9 : Nat → FieldType := fun k => match k with
  | 0 => .array .int
  | 1 => .array .int
  | 2 => .array .int
  | 3 => .array .int
  | 4 => .int
  | 5 => .int
  | 6 => .int
  | 7 => .int
  | 8 => .int
  | 9 => .int
  | 10 => .int
  | 11 => .long
  | 12 => .int
  | 13 => .int
  | 14 => .int
  | 15 => .array .int
  | 16 => .int
  | 17 => .int
  | 18 => .boolean
  | 19 => .int
  | 20 => .array .int
  | 21 => .array .long
  | 22 => .array .boolean
  | 23 => .array .int
  | 24 => .array .int
  | _ => .array .int
def fcs : List vw_C := [(fR0, fT0, 19), (fR1, fT1, 4), (fR2, fT2, 2), (fR3, fT3, 8), (fR4, fT4, 3), (fR5, fT5, 3), (fR6, fT6, 7), (fR7, fT7, 4), (fR8, fT8, 9), (fR9, fT9, 26)]
def fys : List (Nat → FieldType) := [fY0, fY1, fY2, fY3, fY4, fY5, fY6, fY7, fY8, fY9]
/-- field kinds: 0 int, 1 boolean, 2 long, 3 reference -/
def fkT : List (List Nat) := [[0, 0, 0, 0, 0, 0, 0, 3, 3, 3, 3, 3, 3, 3, 3, 3, 3, 3, 3], [3, 3, 3, 1], [3, 3], [3, 3, 3, 0, 0, 0, 0, 0], [3, 3, 0], [3, 0, 0], [3, 3, 3, 3, 3, 0, 0], [3, 3, 3, 0], [3, 3, 3, 3, 3, 3, 0, 0, 0], [3, 3, 3, 3, 0, 0, 0, 0, 0, 0, 0, 2, 0, 0, 0, 3, 0, 0, 1, 0, 3, 3, 3, 3, 3, 3]]
def fkOf (ci k : Nat) : Nat := nth 9 (nth [] fkT ci) k
def nOb : Nat := 96
def shKT : List (List Nat) := [[8, 1, 0, 100, 100, 100, 100, 100, 100, 100, 100, 7, 100, 100, 100, 7],
  [100, 100, 100, 7, 100, 100, 100, 5, 100, 0, 100, 100, 100, 100, 100, 100],
  [100, 100, 7, 100, 100, 100, 7, 100, 100, 100, 7, 100, 100, 100, 5, 100],
  [2, 100, 100, 104, 6, 100, 100, 100, 100, 100, 6, 100, 100, 100, 100, 100],
  [6, 100, 100, 100, 100, 100, 6, 100, 100, 100, 100, 100, 4, 100, 100, 3],
  [100, 100, 100, 101, 9, 100, 100, 100, 100, 100, 100, 103, 102, 100, 100, 100]]
def shNT : List (List Nat) := [[9, 4, 19, 6, 6, 6, 24, 3, 3, 36, 30, 4, 8, 8, 8, 4],
  [8, 8, 8, 4, 8, 8, 8, 3, 2130, 19, 6, 6, 6, 24, 3, 3],
  [36, 30, 4, 8, 8, 8, 4, 8, 8, 8, 4, 8, 8, 8, 3, 2130],
  [2, 9, 64, 4, 7, 96, 300, 300, 3, 3, 7, 96, 300, 300, 3, 3],
  [7, 96, 300, 300, 3, 3, 7, 96, 300, 300, 3, 3, 3, 6, 6, 8],
  [301, 301, 301, 300, 26, 3856, 3856, 2820, 300, 160, 9, 330, 330, 66, 6, 6]]
def shK (o : Nat) : Nat := nth2 999 shKT o
def shN (o : Nat) : Nat := nth2 0 shNT o
/-- reference fields and places: 0 none, else the object plus one -/
def shRT : List (List (List Nat)) := [[[2, 3, 26, 77, 80, 84], [3, 49, 52], [0, 0, 0, 0, 0, 0, 0, 4, 5, 6, 7, 8, 9, 10, 11, 12, 16, 20, 24], [], [], [], [], [], [], [], [], [13, 14, 15], [], [], [], [17, 18, 19]],
  [[], [], [], [21, 22, 23], [], [], [], [25], [], [0, 0, 0, 0, 0, 0, 0, 27, 28, 29, 30, 31, 32, 33, 34, 35, 39, 43, 47], [], [], [], [], [], []],
  [[], [], [36, 37, 38], [], [], [], [40, 41, 42], [], [], [], [44, 45, 46], [], [], [], [48], []],
  [[50, 51], [], [], [53, 59, 65, 71], [54, 55, 56, 57, 58], [], [], [], [], [], [60, 61, 62, 63, 64], [], [], [], [], []],
  [[66, 67, 68, 69, 70], [], [], [], [], [], [72, 73, 74, 75, 76], [], [], [], [], [], [78, 79], [], [], [81, 82, 83]],
  [[], [], [], [], [86, 87, 88, 89, 0, 0, 0, 0, 0, 0, 0, 0, 0, 0, 0, 90, 0, 0, 0, 0, 91, 92, 93, 94, 95, 96], [], [], [], [], [], [], [], [], [], [], []]]
def shR (o k : Nat) : Option Nat := match nth 0 (nth2 [] shRT o) k with
  | 0 => none
  | q + 1 => some q
end
section
abbrev cEn : Type := Nat × Instr × Nat × Nat × Int
def cd0 : List (List cEn) := [[(0, .aload_n 0, 1, 0, 0), (1, .getfield 9, 4, 1, 1), (4, .aload_n 0, 5, 0, 0), (5, .getfield 15, 8, 1, 0), (8, .iload_n 2, 9, 0, 0), (9, .iload_n 3, 10, 0, 0), (10, .invokevirtual 19, 13, 60, 0), (13, .iconst 0, 14, 0, 0), (14, .istore 4, 16, 0, 0)],
  [(16, .iload 4, 18, 0, 0), (18, .iload_n 1, 19, 0, 0), (19, .if_icmp .ge 19, 22, 38, 0), (22, .aload_n 0, 23, 0, 0), (23, .invokestatic 25, 26, 2, 0), (26, .ifCond .ne 6, 29, 32, 0), (29, .goto 9, 32, 38, 0)],
  [(32, .iinc 4 1, 35, 0, 0), (35, .goto (-19), 38, 16, 0), (38, .aload_n 0, 39, 0, 0), (39, .getfield 9, 42, 1, 1), (42, .getfield 31, 45, 2, 0), (45, .bipush 6, 47, 0, 0), (47, .iaload, 48, 0, 0)],
  [(48, .ireturn, 49, 0, 0)]]
def cd1 : List (List cEn) := [[(0, .aload_n 0, 1, 0, 0), (1, .getfield 9, 4, 1, 1), (4, .getfield 31, 7, 2, 0), (7, .astore 4, 9, 0, 0), (9, .aload_n 0, 10, 0, 0), (10, .getfield 9, 13, 1, 1), (13, .aload_n 0, 14, 0, 0), (14, .getfield 15, 17, 1, 0)],
  [(17, .iload_n 1, 18, 0, 0), (18, .iload_n 2, 19, 0, 0), (19, .invokevirtual 19, 22, 60, 0), (22, .aload_n 0, 23, 0, 0), (23, .getfield 15, 26, 1, 0), (26, .getfield 35, 29, 0, 11), (29, .iload_n 2, 30, 0, 0), (30, .iaload, 31, 0, 0), (31, .aload_n 0, 32, 0, 0)],
  [(32, .getfield 15, 35, 1, 0), (35, .iload_n 1, 36, 0, 0), (36, .invokevirtual 40, 39, 8, 0), (39, .imul, 40, 0, 0), (40, .istore 5, 42, 0, 0), (42, .iconst 0, 43, 0, 0), (43, .istore 6, 45, 0, 0), (45, .iload 6, 47, 0, 0), (47, .bipush 60, 49, 0, 0)],
  [(49, .if_icmp .gt 49, 52, 98, 0), (52, .aload 4, 54, 0, 0), (54, .bipush 6, 56, 0, 0), (56, .sipush 999, 59, 0, 0), (59, .aload 4, 61, 0, 0), (61, .bipush 6, 63, 0, 0), (63, .iaload, 64, 0, 0)],
  [(64, .iload_n 3, 65, 0, 0), (65, .iadd, 66, 0, 0), (66, .invokestatic 44, 69, 1004, 0), (69, .iastore, 70, 0, 0), (70, .aload 4, 72, 0, 0), (72, .bipush 6, 74, 0, 0), (74, .iaload, 75, 0, 0), (75, .iload 5, 77, 0, 0), (77, .if_icmp .le 6, 80, 83, 0)],
  [(80, .iload 6, 82, 0, 0), (82, .ireturn, 83, 0, 0), (83, .aload_n 0, 84, 0, 0), (84, .invokestatic 25, 87, 2, 0), (87, .ifCond .ne 5, 90, 92, 0), (90, .iconst (-1), 91, 0, 0), (91, .ireturn, 92, 0, 0), (92, .iinc 6 1, 95, 0, 0), (95, .goto (-50), 98, 45, 0)],
  [(98, .iconst (-1), 99, 0, 0), (99, .ireturn, 100, 0, 0)]]
def cd2 : List (List cEn) := [[(0, .aload_n 0, 1, 0, 0), (1, .getfield 9, 4, 1, 1), (4, .getfield 31, 7, 2, 0), (7, .astore_n 1, 8, 0, 0), (8, .aload_n 1, 9, 0, 0), (9, .iconst 0, 10, 0, 0), (10, .iaload, 11, 0, 0), (11, .sipush 9999, 14, 0, 0), (14, .if_icmp .lt 5, 17, 19, 0)],
  [(17, .iconst 0, 18, 0, 0), (18, .ireturn, 19, 0, 0), (19, .aload_n 0, 20, 0, 0), (20, .getfield 9, 23, 1, 1), (23, .aload_n 0, 24, 0, 0), (24, .invokevirtual 50, 27, 40, 0), (27, .aload_n 0, 28, 0, 0), (28, .getfield 15, 31, 1, 0), (31, .getfield 35, 34, 0, 11)],
  [(34, .invokevirtual 54, 37, 61, 0), (37, .istore_n 2, 38, 0, 0), (38, .aload_n 1, 39, 0, 0), (39, .bipush 6, 41, 0, 0), (41, .iconst 0, 42, 0, 0), (42, .aload_n 1, 43, 0, 0), (43, .bipush 6, 45, 0, 0), (45, .iaload, 46, 0, 0), (46, .iload_n 2, 47, 0, 0), (47, .isub, 48, 0, 0)],
  [(48, .invokestatic 58, 51, 1003, 0), (51, .iastore, 52, 0, 0), (52, .aload_n 1, 53, 0, 0), (53, .iconst 0, 54, 0, 0), (54, .dup2, 55, 0, 0), (55, .iaload, 56, 0, 0), (56, .iconst 1, 57, 0, 0), (57, .iadd, 58, 0, 0), (58, .iastore, 59, 0, 0), (59, .iconst 1, 60, 0, 0), (60, .ireturn, 61, 0, 0)]]
def cd3 : List (List cEn) := [[(0, .aload_n 0, 1, 0, 0), (1, .getfield 15, 4, 1, 0), (4, .getfield 61, 7, 0, 17), (7, .astore_n 2, 8, 0, 0), (8, .iconst 0, 9, 0, 0), (9, .istore_n 3, 10, 0, 0), (10, .iload_n 3, 11, 0, 0), (11, .aload_n 2, 12, 0, 0), (12, .getfield 65, 15, 7, 3), (15, .if_icmp .ge 58, 18, 73, 0)],
  [(18, .aload_n 0, 19, 0, 0), (19, .getfield 9, 22, 1, 1), (22, .aload_n 0, 23, 0, 0), (23, .getfield 15, 26, 1, 0), (26, .aload_n 2, 27, 0, 0), (27, .getfield 71, 30, 7, 0), (30, .iload_n 3, 31, 0, 0), (31, .iaload, 32, 0, 0)],
  [(32, .aload_n 2, 33, 0, 0), (33, .getfield 74, 36, 7, 1), (36, .iload_n 3, 37, 0, 0), (37, .iaload, 38, 0, 0), (38, .invokevirtual 19, 41, 60, 0), (41, .aload_n 0, 42, 0, 0), (42, .getfield 9, 45, 1, 1), (45, .aload_n 1, 46, 0, 0), (46, .aload_n 0, 47, 0, 0), (47, .getfield 15, 50, 1, 0)],
  [(50, .getfield 35, 53, 0, 11), (53, .invokevirtual 54, 56, 61, 0), (56, .aload_n 2, 57, 0, 0), (57, .getfield 77, 60, 7, 2), (60, .iload_n 3, 61, 0, 0), (61, .iaload, 62, 0, 0), (62, .if_icmp .eq 5, 65, 67, 0)],
  [(65, .iconst 0, 66, 0, 0), (66, .ireturn, 67, 0, 0), (67, .iinc 3 1, 70, 0, 0), (70, .goto (-60), 73, 10, 0), (73, .iconst 1, 74, 0, 0), (74, .ireturn, 75, 0, 0)]]
def cd4 : List (List cEn) := [[(0, .iconst 0, 1, 0, 0), (1, .istore_n 2, 2, 0, 0), (2, .iconst 0, 3, 0, 0), (3, .istore_n 3, 4, 0, 0), (4, .iconst 0, 5, 0, 0), (5, .istore 4, 7, 0, 0), (7, .iconst 1, 8, 0, 0), (8, .istore 5, 10, 0, 0), (10, .iload 5, 12, 0, 0), (12, .iconst 1, 13, 0, 0), (13, .aload_n 0, 14, 0, 0), (14, .getfield 80, 17, 0, 15)],
  [(17, .getfield 65, 20, 7, 3), (20, .ishl, 21, 0, 0), (21, .if_icmp .ge 92, 24, 113, 0), (24, .iload 5, 26, 0, 0), (26, .invokestatic 83, 29, 307, 0), (29, .istore 6, 31, 0, 0), (31, .iload 6, 33, 0, 0)],
  [(33, .iload_n 3, 34, 0, 0), (34, .if_icmp .lt 73, 37, 107, 0), (37, .aload_n 0, 38, 0, 0), (38, .iload_n 1, 39, 0, 0), (39, .iload 5, 41, 0, 0), (41, .invokestatic 88, 44, 5, 0), (44, .ifCond .ne 6, 47, 50, 0), (47, .goto 60, 50, 107, 0)],
  [(50, .aload_n 0, 51, 0, 0), (51, .getfield 80, 54, 0, 15), (54, .iload 5, 56, 0, 0), (56, .iconst 0, 57, 0, 0), (57, .invokestatic 92, 60, 6, 0), (60, .aload_n 0, 61, 0, 0), (61, .getfield 80, 64, 0, 15)],
  [(64, .iload 5, 66, 0, 0), (66, .iconst 1, 67, 0, 0), (67, .invokestatic 92, 70, 6, 0), (70, .iadd, 71, 0, 0), (71, .aload_n 0, 72, 0, 0), (72, .getfield 80, 75, 0, 15), (75, .iload 5, 77, 0, 0), (77, .iconst 2, 78, 0, 0), (78, .invokestatic 92, 81, 6, 0)],
  [(81, .iadd, 82, 0, 0), (82, .istore 7, 84, 0, 0), (84, .iload 6, 86, 0, 0), (86, .iload_n 3, 87, 0, 0), (87, .if_icmp .gt 10, 90, 97, 0), (90, .iload 7, 92, 0, 0), (92, .iload 4, 94, 0, 0), (94, .if_icmp .le 13, 97, 107, 0)],
  [(97, .iload 5, 99, 0, 0), (99, .istore_n 2, 100, 0, 0), (100, .iload 6, 102, 0, 0), (102, .istore_n 3, 103, 0, 0), (103, .iload 7, 105, 0, 0), (105, .istore 4, 107, 0, 0), (107, .iinc 5 1, 110, 0, 0), (110, .goto (-100), 113, 10, 0)],
  [(113, .iload_n 2, 114, 0, 0), (114, .ireturn, 115, 0, 0)]]
def cd5 : List (List cEn) := [[(0, .aload_n 0, 1, 0, 0), (1, .iload_n 1, 2, 0, 0), (2, .invokevirtual 40, 5, 8, 0), (5, .istore_n 3, 6, 0, 0), (6, .iconst 0, 7, 0, 0), (7, .istore 4, 9, 0, 0), (9, .iload 4, 11, 0, 0), (11, .iconst 3, 12, 0, 0), (12, .if_icmp .ge 42, 15, 54, 0), (15, .aload_n 0, 16, 0, 0)],
  [(16, .getfield 80, 19, 0, 15), (19, .iload_n 2, 20, 0, 0), (20, .iload 4, 22, 0, 0), (22, .invokestatic 92, 25, 6, 0), (25, .istore 5, 27, 0, 0), (27, .iload 5, 29, 0, 0), (29, .ifCond .le 19, 32, 48, 0)],
  [(32, .aload_n 0, 33, 0, 0), (33, .iload_n 1, 34, 0, 0), (34, .iload 4, 36, 0, 0), (36, .iload_n 3, 37, 0, 0), (37, .invokevirtual 96, 40, 12, 0), (40, .iload 5, 42, 0, 0), (42, .iadd, 43, 0, 0), (43, .ifCond .le 5, 46, 48, 0), (46, .iconst 0, 47, 0, 0), (47, .ireturn, 48, 0, 0)],
  [(48, .iinc 4 1, 51, 0, 0), (51, .goto (-42), 54, 9, 0), (54, .iconst 1, 55, 0, 0), (55, .ireturn, 56, 0, 0)]]
def cd6 : List (List cEn) := [[(0, .iconst 0, 1, 0, 0), (1, .istore_n 3, 2, 0, 0), (2, .iconst 0, 3, 0, 0), (3, .istore 4, 5, 0, 0), (5, .iload 4, 7, 0, 0), (7, .aload_n 0, 8, 0, 0), (8, .getfield 65, 11, 7, 3), (11, .if_icmp .ge 40, 14, 51, 0), (14, .iload_n 1, 15, 0, 0), (15, .iload 4, 17, 0, 0)],
  [(17, .ishr, 18, 0, 0), (18, .iconst 1, 19, 0, 0), (19, .iand, 20, 0, 0), (20, .iconst 1, 21, 0, 0), (21, .if_icmp .ne 24, 24, 45, 0), (24, .aload_n 0, 25, 0, 0), (25, .getfield 71, 28, 7, 0), (28, .iload 4, 30, 0, 0), (30, .iaload, 31, 0, 0), (31, .iload_n 2, 32, 0, 0)],
  [(32, .if_icmp .ne 13, 35, 45, 0), (35, .iload_n 3, 36, 0, 0), (36, .aload_n 0, 37, 0, 0), (37, .getfield 74, 40, 7, 1), (40, .iload 4, 42, 0, 0), (42, .iaload, 43, 0, 0), (43, .iadd, 44, 0, 0), (44, .istore_n 3, 45, 0, 0), (45, .iinc 4 1, 48, 0, 0)],
  [(48, .goto (-43), 51, 5, 0), (51, .iload_n 3, 52, 0, 0), (52, .ireturn, 53, 0, 0)]]
def cd7 : List (List cEn) := [[(0, .iload_n 1, 1, 0, 0), (1, .ifCond .lt 15, 4, 16, 0), (4, .iload_n 1, 5, 0, 0), (5, .aload_n 0, 6, 0, 0), (6, .getfield 9, 9, 0, 0), (9, .if_icmp .ge 7, 12, 16, 0), (12, .iconst 1, 13, 0, 0), (13, .goto 4, 16, 17, 0)],
  [(16, .iconst 0, 17, 0, 0), (17, .ireturn, 18, 0, 0)]]
def cd8 : List (List cEn) := [[(0, .aload_n 0, 1, 0, 0), (1, .getfield 15, 4, 0, 1), (4, .aload_n 0, 5, 0, 0), (5, .getfield 37, 8, 0, 8), (8, .iload_n 1, 9, 0, 0), (9, .iaload, 10, 0, 0), (10, .invokestatic 78, 13, 9, 0), (13, .ireturn, 14, 0, 0)]]
def cd9 : List (List cEn) := [[(0, .iconst 1, 1, 0, 0), (1, .iload_n 0, 2, 0, 0), (2, .iload_n 1, 3, 0, 0), (3, .isub, 4, 0, 0), (4, .invokestatic 82, 7, 1003, 0), (7, .ireturn, 8, 0, 0)]]
def cd10 : List (List cEn) := [[(0, .aload_n 0, 1, 0, 0), (1, .getfield 43, 4, 0, 10), (4, .iload_n 1, 5, 0, 0), (5, .iconst 4, 6, 0, 0), (6, .imul, 7, 0, 0), (7, .iload_n 2, 8, 0, 0), (8, .iadd, 9, 0, 0), (9, .iaload, 10, 0, 0), (10, .ireturn, 11, 0, 0)]]
def cd11 : List (List cEn) := [[(0, .aload_n 0, 1, 0, 0), (1, .getfield 43, 4, 0, 10), (4, .iload_n 1, 5, 0, 0), (5, .iconst 4, 6, 0, 0), (6, .imul, 7, 0, 0), (7, .iload_n 2, 8, 0, 0), (8, .iadd, 9, 0, 0), (9, .iconst 0, 10, 0, 0), (10, .sipush 999, 13, 0, 0), (13, .iload_n 3, 14, 0, 0), (14, .invokestatic 87, 17, 1004, 0)],
  [(17, .invokestatic 82, 20, 1003, 0), (20, .iastore, 21, 0, 0), (21, .return_, 22, 0, 0)]]
def cd12 : List (List cEn) := [[(0, .aload_n 0, 1, 0, 0), (1, .iload_n 1, 2, 0, 0), (2, .iload_n 2, 3, 0, 0), (3, .invokevirtual 90, 6, 10, 0), (6, .aload_n 0, 7, 0, 0), (7, .getfield 46, 10, 0, 11), (10, .iload_n 2, 11, 0, 0), (11, .iaload, 12, 0, 0), (12, .iload_n 3, 13, 0, 0), (13, .imul, 14, 0, 0), (14, .isub, 15, 0, 0), (15, .ireturn, 16, 0, 0)]]
def cd13 : List (List cEn) := [[(0, .aload_n 0, 1, 0, 0), (1, .iload_n 1, 2, 0, 0), (2, .invokevirtual 93, 5, 8, 0), (5, .istore_n 2, 6, 0, 0), (6, .iconst 0, 7, 0, 0), (7, .istore_n 3, 8, 0, 0), (8, .iconst 0, 9, 0, 0), (9, .istore 4, 11, 0, 0), (11, .iload 4, 13, 0, 0), (13, .iconst 3, 14, 0, 0), (14, .if_icmp .ge 27, 17, 41, 0)],
  [(17, .aload_n 0, 18, 0, 0), (18, .iload_n 1, 19, 0, 0), (19, .iload 4, 21, 0, 0), (21, .iload_n 2, 22, 0, 0), (22, .invokevirtual 97, 25, 12, 0), (25, .ifCond .le 10, 28, 35, 0), (28, .iload_n 3, 29, 0, 0), (29, .iconst 1, 30, 0, 0), (30, .iload 4, 32, 0, 0)],
  [(32, .ishl, 33, 0, 0), (33, .ior, 34, 0, 0), (34, .istore_n 3, 35, 0, 0), (35, .iinc 4 1, 38, 0, 0), (38, .goto (-27), 41, 11, 0), (41, .iload_n 3, 42, 0, 0), (42, .ireturn, 43, 0, 0)]]
def cd14 : List (List cEn) := [[(0, .aload_n 0, 1, 0, 0), (1, .getfield 21, 4, 0, 3), (4, .istore_n 1, 5, 0, 0), (5, .aload_n 0, 6, 0, 0), (6, .aload_n 0, 7, 0, 0), (7, .getfield 21, 10, 0, 3), (10, .sipush 389, 13, 0, 0), (13, .imul, 14, 0, 0), (14, .sipush 269, 17, 0, 0)],
  [(17, .iadd, 18, 0, 0), (18, .sipush 30493, 21, 0, 0), (21, .irem, 22, 0, 0), (22, .putfield 21, 25, 0, 3), (25, .iload_n 1, 26, 0, 0), (26, .ireturn, 27, 0, 0)]]
def cd15 : List (List cEn) := [[(0, .aload_n 0, 1, 0, 0), (1, .getfield 30, 4, 0, 6), (4, .bipush 30, 6, 0, 0), (6, .if_icmp .ne 28, 9, 34, 0), (9, .aload_n 0, 10, 0, 0), (10, .getfield 55, 13, 0, 14), (13, .iconst 1, 14, 0, 0), (14, .aload_n 0, 15, 0, 0), (15, .getfield 55, 18, 0, 14)],
  [(18, .iconst 0, 19, 0, 0), (19, .bipush 29, 21, 0, 0), (21, .invokestatic 101, 24, 1000, 0), (24, .aload_n 0, 25, 0, 0), (25, .dup, 26, 0, 0), (26, .getfield 30, 29, 0, 6), (29, .iconst 1, 30, 0, 0), (30, .isub, 31, 0, 0), (31, .putfield 30, 34, 0, 6)],
  [(34, .aload_n 0, 35, 0, 0), (35, .getfield 55, 38, 0, 14), (38, .aload_n 0, 39, 0, 0), (39, .getfield 30, 42, 0, 6), (42, .aload_n 0, 43, 0, 0), (43, .getfield 18, 46, 0, 2), (46, .bipush 6, 48, 0, 0)],
  [(48, .imul, 49, 0, 0), (49, .iload_n 1, 50, 0, 0), (50, .iadd, 51, 0, 0), (51, .iconst 3, 52, 0, 0), (52, .imul, 53, 0, 0), (53, .iload_n 2, 54, 0, 0), (54, .iadd, 55, 0, 0), (55, .sipush 10000, 58, 0, 0), (58, .imul, 59, 0, 0), (59, .iload_n 3, 60, 0, 0), (60, .iadd, 61, 0, 0), (61, .iastore, 62, 0, 0), (62, .aload_n 0, 63, 0, 0), (63, .dup, 64, 0, 0)],
  [(64, .getfield 30, 67, 0, 6), (67, .iconst 1, 68, 0, 0), (68, .iadd, 69, 0, 0), (69, .putfield 30, 72, 0, 6), (72, .return_, 73, 0, 0)]]
def cd16 : List (List cEn) := [[(0, .aload_n 0, 1, 0, 0), (1, .getfield 55, 4, 0, 14), (4, .iload_n 1, 5, 0, 0), (5, .iaload, 6, 0, 0), (6, .sipush 10000, 9, 0, 0), (9, .irem, 10, 0, 0), (10, .ireturn, 11, 0, 0)]]
def cd17 : List (List cEn) := [[(0, .aload_n 0, 1, 0, 0), (1, .getfield 55, 4, 0, 14), (4, .iload_n 1, 5, 0, 0), (5, .iaload, 6, 0, 0), (6, .sipush 10000, 9, 0, 0), (9, .idiv, 10, 0, 0), (10, .iconst 3, 11, 0, 0), (11, .irem, 12, 0, 0), (12, .ireturn, 13, 0, 0)]]
def cd18 : List (List cEn) := [[(0, .aload_n 0, 1, 0, 0), (1, .getfield 55, 4, 0, 14), (4, .iload_n 1, 5, 0, 0), (5, .iaload, 6, 0, 0), (6, .sipush 30000, 9, 0, 0), (9, .idiv, 10, 0, 0), (10, .bipush 6, 12, 0, 0), (12, .irem, 13, 0, 0), (13, .ireturn, 14, 0, 0)]]
def cd19 : List (List cEn) := [[(0, .aload_n 0, 1, 0, 0), (1, .getfield 55, 4, 0, 14), (4, .iload_n 1, 5, 0, 0), (5, .iaload, 6, 0, 0), (6, .ldc 107, 8, 0, 180000), (8, .idiv, 9, 0, 0), (9, .ireturn, 10, 0, 0)]]
def cd20 : List (List cEn) := [[(0, .aload_n 0, 1, 0, 0), (1, .aload_n 1, 2, 0, 0), (2, .getfield 9, 5, 0, 0), (5, .putfield 9, 8, 0, 0), (8, .aload_n 0, 9, 0, 0), (9, .aload_n 1, 10, 0, 0), (10, .getfield 15, 13, 0, 1), (13, .putfield 15, 16, 0, 1)],
  [(16, .aload_n 0, 17, 0, 0), (17, .aload_n 1, 18, 0, 0), (18, .getfield 18, 21, 0, 2), (21, .putfield 18, 24, 0, 2), (24, .aload_n 0, 25, 0, 0), (25, .aload_n 1, 26, 0, 0), (26, .getfield 21, 29, 0, 3), (29, .putfield 21, 32, 0, 3)],
  [(32, .aload_n 0, 33, 0, 0), (33, .aload_n 1, 34, 0, 0), (34, .getfield 24, 37, 0, 4), (37, .putfield 24, 40, 0, 4), (40, .aload_n 0, 41, 0, 0), (41, .aload_n 1, 42, 0, 0), (42, .getfield 27, 45, 0, 5), (45, .putfield 27, 48, 0, 5)],
  [(48, .aload_n 0, 49, 0, 0), (49, .aload_n 1, 50, 0, 0), (50, .getfield 30, 53, 0, 6), (53, .putfield 30, 56, 0, 6), (56, .aload_n 1, 57, 0, 0), (57, .getfield 33, 60, 0, 7), (60, .aload_n 0, 61, 0, 0), (61, .getfield 33, 64, 0, 7)],
  [(64, .invokestatic 108, 67, 21, 0), (67, .aload_n 1, 68, 0, 0), (68, .getfield 37, 71, 0, 8), (71, .aload_n 0, 72, 0, 0), (72, .getfield 37, 75, 0, 8), (75, .invokestatic 108, 78, 21, 0), (78, .aload_n 1, 79, 0, 0), (79, .getfield 40, 82, 0, 9)],
  [(82, .aload_n 0, 83, 0, 0), (83, .getfield 40, 86, 0, 9), (86, .invokestatic 108, 89, 21, 0), (89, .aload_n 1, 90, 0, 0), (90, .getfield 43, 93, 0, 10), (93, .aload_n 0, 94, 0, 0), (94, .getfield 43, 97, 0, 10)],
  [(97, .invokestatic 108, 100, 21, 0), (100, .aload_n 1, 101, 0, 0), (101, .getfield 46, 104, 0, 11), (104, .aload_n 0, 105, 0, 0), (105, .getfield 46, 108, 0, 11), (108, .invokestatic 108, 111, 21, 0), (111, .aload_n 1, 112, 0, 0)],
  [(112, .getfield 49, 115, 0, 12), (115, .aload_n 0, 116, 0, 0), (116, .getfield 49, 119, 0, 12), (119, .invokestatic 108, 122, 21, 0), (122, .aload_n 1, 123, 0, 0), (123, .getfield 52, 126, 0, 13), (126, .aload_n 0, 127, 0, 0), (127, .getfield 52, 130, 0, 13)],
  [(130, .invokestatic 108, 133, 21, 0), (133, .aload_n 1, 134, 0, 0), (134, .getfield 55, 137, 0, 14), (137, .aload_n 0, 138, 0, 0), (138, .getfield 55, 141, 0, 14), (141, .invokestatic 108, 144, 21, 0)],
  [(144, .aload_n 0, 145, 0, 0), (145, .getfield 61, 148, 0, 15), (148, .aload_n 1, 149, 0, 0), (149, .getfield 61, 152, 0, 15), (152, .invokevirtual 112, 155, 109, 0), (155, .aload_n 0, 156, 0, 0), (156, .getfield 65, 159, 0, 16), (159, .aload_n 1, 160, 0, 0)],
  [(160, .getfield 65, 163, 0, 16), (163, .invokevirtual 112, 166, 109, 0), (166, .aload_n 0, 167, 0, 0), (167, .getfield 68, 170, 0, 17), (170, .aload_n 1, 171, 0, 0), (171, .getfield 68, 174, 0, 17), (174, .invokevirtual 112, 177, 109, 0)],
  [(177, .aload_n 0, 178, 0, 0), (178, .getfield 74, 181, 0, 18), (181, .aload_n 1, 182, 0, 0), (182, .getfield 74, 185, 0, 18), (185, .invokevirtual 116, 188, 101, 0), (188, .return_, 189, 0, 0)]]
def cd21 : List (List cEn) := [[(0, .aload_n 0, 1, 0, 0), (1, .iconst 0, 2, 0, 0), (2, .aload_n 1, 3, 0, 0), (3, .iconst 0, 4, 0, 0), (4, .aload_n 0, 5, 0, 0), (5, .arraylength, 6, 0, 0), (6, .aload_n 1, 7, 0, 0), (7, .arraylength, 8, 0, 0), (8, .invokestatic 87, 11, 1004, 0), (11, .invokestatic 101, 14, 1000, 0), (14, .return_, 15, 0, 0)]]
def cd22 : List (List cEn) := [[(0, .lconst 0, 1, 0, 0), (1, .lstore_n 2, 2, 0, 0), (2, .iload_n 1, 3, 0, 0), (3, .iconst 2, 4, 0, 0), (4, .idiv, 5, 0, 0), (5, .iconst 1, 6, 0, 0), (6, .iadd, 7, 0, 0), (7, .istore 4, 9, 0, 0), (9, .iload 4, 11, 0, 0), (11, .iload_n 1, 12, 0, 0), (12, .if_icmp .gt 39, 15, 51, 0), (15, .lload_n 2, 16, 0, 0)],
  [(16, .iload_n 1, 17, 0, 0), (17, .iload 4, 19, 0, 0), (19, .invokestatic 9, 22, 23, 0), (22, .iload_n 0, 23, 0, 0), (23, .i2l, 24, 0, 0), (24, .iload 4, 26, 0, 0), (26, .invokestatic 15, 29, 24, 0), (29, .lmul, 30, 0, 0), (30, .bipush 10, 32, 0, 0)],
  [(32, .iload_n 0, 33, 0, 0), (33, .isub, 34, 0, 0), (34, .i2l, 35, 0, 0), (35, .iload_n 1, 36, 0, 0), (36, .iload 4, 38, 0, 0), (38, .isub, 39, 0, 0), (39, .invokestatic 15, 42, 24, 0), (42, .lmul, 43, 0, 0), (43, .ladd, 44, 0, 0), (44, .lstore_n 2, 45, 0, 0), (45, .iinc 4 1, 48, 0, 0)],
  [(48, .goto (-39), 51, 9, 0), (51, .lload_n 2, 52, 0, 0), (52, .lreturn, 53, 0, 0)]]
def cd23 : List (List cEn) := [[(0, .lconst 1, 1, 0, 0), (1, .lstore_n 2, 2, 0, 0), (2, .iconst 1, 3, 0, 0), (3, .istore 4, 5, 0, 0), (5, .iload 4, 7, 0, 0), (7, .iload_n 1, 8, 0, 0), (8, .if_icmp .gt 23, 11, 31, 0), (11, .lload_n 2, 12, 0, 0), (12, .iload_n 0, 13, 0, 0), (13, .iload_n 1, 14, 0, 0), (14, .isub, 15, 0, 0), (15, .iload 4, 17, 0, 0)],
  [(17, .iadd, 18, 0, 0), (18, .i2l, 19, 0, 0), (19, .lmul, 20, 0, 0), (20, .iload 4, 22, 0, 0), (22, .i2l, 23, 0, 0), (23, .ldiv, 24, 0, 0), (24, .lstore_n 2, 25, 0, 0), (25, .iinc 4 1, 28, 0, 0), (28, .goto (-23), 31, 5, 0), (31, .lload_n 2, 32, 0, 0)],
  [(32, .lreturn, 33, 0, 0)]]
def cd24 : List (List cEn) := [[(0, .lconst 1, 1, 0, 0), (1, .lstore_n 3, 2, 0, 0), (2, .iconst 0, 3, 0, 0), (3, .istore 5, 5, 0, 0), (5, .iload 5, 7, 0, 0), (7, .iload_n 2, 8, 0, 0), (8, .if_icmp .ge 13, 11, 21, 0), (11, .lload_n 3, 12, 0, 0), (12, .lload_n 0, 13, 0, 0), (13, .lmul, 14, 0, 0), (14, .lstore_n 3, 15, 0, 0), (15, .iinc 5 1, 18, 0, 0)],
  [(18, .goto (-13), 21, 5, 0), (21, .lload_n 3, 22, 0, 0), (22, .lreturn, 23, 0, 0)]]
def cd25 : List (List cEn) := [[(0, .iconst 0, 1, 0, 0), (1, .istore 4, 3, 0, 0), (3, .iload 4, 5, 0, 0), (5, .sipush 200, 8, 0, 0), (8, .if_icmp .ge 25, 11, 33, 0), (11, .lload_n 2, 12, 0, 0), (12, .lconst 0, 13, 0, 0), (13, .lcmp, 14, 0, 0), (14, .ifCond .eq 19, 17, 33, 0)],
  [(17, .lload_n 0, 18, 0, 0), (18, .lload_n 2, 19, 0, 0), (19, .lrem, 20, 0, 0), (20, .lstore 5, 22, 0, 0), (22, .lload_n 2, 23, 0, 0), (23, .lstore_n 0, 24, 0, 0), (24, .lload 5, 26, 0, 0), (26, .lstore_n 2, 27, 0, 0), (27, .iinc 4 1, 30, 0, 0), (30, .goto (-27), 33, 3, 0)],
  [(33, .lload_n 0, 34, 0, 0), (34, .lreturn, 35, 0, 0)]]
def cd26 : List (List cEn) := [[(0, .aload_n 0, 1, 0, 0), (1, .iconst 1, 2, 0, 0), (2, .iaload, 3, 0, 0), (3, .aload_n 0, 4, 0, 0), (4, .iconst 2, 5, 0, 0), (5, .iaload, 6, 0, 0), (6, .imul, 7, 0, 0), (7, .aload_n 0, 8, 0, 0), (8, .iconst 0, 9, 0, 0), (9, .iaload, 10, 0, 0), (10, .aload_n 0, 11, 0, 0), (11, .iconst 2, 12, 0, 0), (12, .iaload, 13, 0, 0), (13, .imul, 14, 0, 0), (14, .iadd, 15, 0, 0), (15, .aload_n 0, 16, 0, 0)],
  [(16, .iconst 0, 17, 0, 0), (17, .iaload, 18, 0, 0), (18, .aload_n 0, 19, 0, 0), (19, .iconst 1, 20, 0, 0), (20, .iaload, 21, 0, 0), (21, .imul, 22, 0, 0), (22, .iadd, 23, 0, 0), (23, .istore_n 3, 24, 0, 0), (24, .iconst 1, 25, 0, 0), (25, .istore 4, 27, 0, 0), (27, .iconst 0, 28, 0, 0), (28, .istore 5, 30, 0, 0), (30, .iload 5, 32, 0, 0)],
  [(32, .iconst 3, 33, 0, 0), (33, .if_icmp .ge 28, 36, 61, 0), (36, .iload 4, 38, 0, 0), (38, .iload 5, 40, 0, 0), (40, .iload_n 1, 41, 0, 0), (41, .if_icmp .ne 7, 44, 48, 0), (44, .iconst 1, 45, 0, 0), (45, .goto 7, 48, 52, 0)],
  [(48, .aload_n 0, 49, 0, 0), (49, .iload 5, 51, 0, 0), (51, .iaload, 52, 0, 0), (52, .imul, 53, 0, 0), (53, .istore 4, 55, 0, 0), (55, .iinc 5 1, 58, 0, 0), (58, .goto (-28), 61, 30, 0), (61, .iload 4, 63, 0, 0), (63, .i2l, 64, 0, 0)],
  [(64, .iload_n 3, 65, 0, 0), (65, .i2l, 66, 0, 0), (66, .invokestatic 19, 69, 25, 0), (69, .lstore 5, 71, 0, 0), (71, .lload 5, 73, 0, 0), (73, .lconst 0, 74, 0, 0), (74, .lcmp, 75, 0, 0), (75, .ifCond .ne 5, 78, 80, 0), (78, .iconst (-1), 79, 0, 0), (79, .ireturn, 80, 0, 0)],
  [(80, .iload_n 2, 81, 0, 0), (81, .ifCond .eq 7, 84, 88, 0), (84, .iload_n 3, 85, 0, 0), (85, .goto 5, 88, 90, 0), (88, .iload 4, 90, 0, 0), (90, .i2l, 91, 0, 0), (91, .lload 5, 93, 0, 0), (93, .ldiv, 94, 0, 0), (94, .l2i, 95, 0, 0), (95, .ireturn, 96, 0, 0)]]
def cd27 : List (List cEn) := [[(0, .iload_n 1, 1, 0, 0), (1, .iconst 1, 2, 0, 0), (2, .if_icmp .ge 5, 5, 7, 0), (5, .iconst 0, 6, 0, 0), (6, .ireturn, 7, 0, 0), (7, .iconst 0, 8, 0, 0), (8, .istore_n 2, 9, 0, 0), (9, .iload_n 2, 10, 0, 0), (10, .aload_n 0, 11, 0, 0), (11, .getfield 23, 14, 7, 3), (14, .if_icmp .ge 28, 17, 42, 0)],
  [(17, .aload_n 0, 18, 0, 0), (18, .getfield 29, 21, 7, 0), (21, .iload_n 2, 22, 0, 0), (22, .iaload, 23, 0, 0), (23, .iload_n 1, 24, 0, 0), (24, .idiv, 25, 0, 0), (25, .aload_n 0, 26, 0, 0), (26, .getfield 33, 29, 7, 1), (29, .iload_n 2, 30, 0, 0), (30, .iaload, 31, 0, 0), (31, .if_icmp .eq 5, 34, 36, 0)],
  [(34, .iconst 0, 35, 0, 0), (35, .ireturn, 36, 0, 0), (36, .iinc 2 1, 39, 0, 0), (39, .goto (-30), 42, 9, 0), (42, .iconst 1, 43, 0, 0), (43, .ireturn, 44, 0, 0)]]
def cd28 : List (List cEn) := [[(0, .iconst 1, 1, 0, 0), (1, .istore_n 1, 2, 0, 0), (2, .iload_n 1, 3, 0, 0), (3, .bipush 99, 5, 0, 0), (5, .if_icmp .gt 19, 8, 24, 0), (8, .aload_n 0, 9, 0, 0), (9, .iload_n 1, 10, 0, 0), (10, .invokestatic 36, 13, 27, 0), (13, .ifCond .eq 5, 16, 18, 0)],
  [(16, .iload_n 1, 17, 0, 0), (17, .ireturn, 18, 0, 0), (18, .iinc 1 1, 21, 0, 0), (21, .goto (-19), 24, 2, 0), (24, .iconst (-1), 25, 0, 0), (25, .ireturn, 26, 0, 0)]]
def cd29 : List (List cEn) := [[(0, .bipush 99, 2, 0, 0), (2, .istore_n 1, 3, 0, 0), (3, .iload_n 1, 4, 0, 0), (4, .iconst 1, 5, 0, 0), (5, .if_icmp .lt 19, 8, 24, 0), (8, .aload_n 0, 9, 0, 0), (9, .iload_n 1, 10, 0, 0), (10, .invokestatic 36, 13, 27, 0), (13, .ifCond .eq 5, 16, 18, 0)],
  [(16, .iload_n 1, 17, 0, 0), (17, .ireturn, 18, 0, 0), (18, .iinc 1 (-1), 21, 0, 0), (21, .goto (-18), 24, 3, 0), (24, .iconst (-1), 25, 0, 0), (25, .ireturn, 26, 0, 0)]]
def cd30 : List (List cEn) := [[(0, .aload_n 0, 1, 0, 0), (1, .invokestatic 40, 4, 28, 0), (4, .istore_n 1, 5, 0, 0), (5, .aload_n 0, 6, 0, 0), (6, .invokestatic 44, 9, 29, 0), (9, .istore_n 2, 10, 0, 0), (10, .iload_n 1, 11, 0, 0), (11, .iconst (-1), 12, 0, 0), (12, .if_icmp .ne 5, 15, 17, 0), (15, .iconst (-1), 16, 0, 0)],
  [(16, .ireturn, 17, 0, 0), (17, .iconst 0, 18, 0, 0), (18, .istore_n 3, 19, 0, 0), (19, .iconst 0, 20, 0, 0), (20, .istore 4, 22, 0, 0), (22, .iconst 0, 23, 0, 0), (23, .istore 5, 25, 0, 0), (25, .iload 5, 27, 0, 0), (27, .sipush 999, 30, 0, 0), (30, .if_icmp .gt 40, 33, 70, 0)],
  [(33, .iload 4, 35, 0, 0), (35, .iload_n 2, 36, 0, 0), (36, .iload_n 1, 37, 0, 0), (37, .isub, 38, 0, 0), (38, .if_icmp .gt 32, 41, 70, 0), (41, .iload 5, 43, 0, 0), (43, .iload_n 1, 44, 0, 0), (44, .iload_n 2, 45, 0, 0), (45, .invokestatic 47, 48, 31, 0)],
  [(48, .istore 6, 50, 0, 0), (50, .iload 6, 52, 0, 0), (52, .iload 4, 54, 0, 0), (54, .if_icmp .le 10, 57, 64, 0), (57, .iload 5, 59, 0, 0), (59, .istore_n 3, 60, 0, 0), (60, .iload 6, 62, 0, 0), (62, .istore 4, 64, 0, 0)],
  [(64, .iinc 5 1, 67, 0, 0), (67, .goto (-42), 70, 25, 0), (70, .iload_n 3, 71, 0, 0), (71, .ireturn, 72, 0, 0)]]
def cd31 : List (List cEn) := [[(0, .iconst 0, 1, 0, 0), (1, .istore_n 3, 2, 0, 0), (2, .iload_n 1, 3, 0, 0), (3, .istore 4, 5, 0, 0), (5, .iconst 0, 6, 0, 0), (6, .istore 5, 8, 0, 0), (8, .iload 5, 10, 0, 0), (10, .bipush 99, 12, 0, 0), (12, .if_icmp .ge 46, 15, 58, 0), (15, .iload 4, 17, 0, 0)],
  [(17, .iconst 1, 18, 0, 0), (18, .if_icmp .lt 40, 21, 58, 0), (21, .iload 4, 23, 0, 0), (23, .iload_n 2, 24, 0, 0), (24, .if_icmp .gt 34, 27, 58, 0), (27, .iinc 3 1, 30, 0, 0), (30, .iload_n 0, 31, 0, 0), (31, .iload 4, 33, 0, 0)],
  [(33, .idiv, 34, 0, 0), (34, .istore 6, 36, 0, 0), (36, .iload 6, 38, 0, 0), (38, .ifCond .ne 6, 41, 44, 0), (41, .goto 17, 44, 58, 0), (44, .iload_n 0, 45, 0, 0), (45, .iload 6, 47, 0, 0), (47, .idiv, 48, 0, 0)],
  [(48, .iconst 1, 49, 0, 0), (49, .iadd, 50, 0, 0), (50, .istore 4, 52, 0, 0), (52, .iinc 5 1, 55, 0, 0), (55, .goto (-47), 58, 8, 0), (58, .iload_n 3, 59, 0, 0), (59, .ireturn, 60, 0, 0)]]
def cd32 : List (List cEn) := [[(0, .iconst 0, 1, 0, 0), (1, .istore_n 2, 2, 0, 0), (2, .iconst 0, 3, 0, 0), (3, .istore_n 3, 4, 0, 0), (4, .iload_n 3, 5, 0, 0), (5, .aload_n 0, 6, 0, 0), (6, .getfield 51, 9, 0, 0), (9, .if_icmp .ge 83, 12, 92, 0), (12, .aload_n 0, 13, 0, 0), (13, .iload_n 3, 14, 0, 0), (14, .invokevirtual 56, 17, 8, 0)],
  [(17, .istore 4, 19, 0, 0), (19, .iload_n 1, 20, 0, 0), (20, .aload_n 0, 21, 0, 0), (21, .getfield 60, 24, 0, 8), (24, .iload_n 3, 25, 0, 0), (25, .iaload, 26, 0, 0), (26, .invokestatic 63, 29, 9, 0), (29, .istore 5, 31, 0, 0), (31, .iconst 0, 32, 0, 0)],
  [(32, .istore 6, 34, 0, 0), (34, .iload 6, 36, 0, 0), (36, .iconst 3, 37, 0, 0), (37, .if_icmp .ge 49, 40, 86, 0), (40, .aload_n 0, 41, 0, 0), (41, .iload_n 3, 42, 0, 0), (42, .iload 6, 44, 0, 0), (44, .iload 4, 46, 0, 0), (46, .invokevirtual 67, 49, 12, 0)],
  [(49, .ifCond .le 7, 52, 56, 0), (52, .iconst 1, 53, 0, 0), (53, .goto 4, 56, 57, 0), (56, .iconst 0, 57, 0, 0), (57, .aload_n 0, 58, 0, 0), (58, .iload_n 3, 59, 0, 0), (59, .iload 6, 61, 0, 0), (61, .iload 5, 63, 0, 0), (63, .invokevirtual 67, 66, 12, 0)],
  [(66, .ifCond .le 7, 69, 73, 0), (69, .iconst 1, 70, 0, 0), (70, .goto 4, 73, 74, 0), (73, .iconst 0, 74, 0, 0), (74, .if_icmp .eq 6, 77, 80, 0), (77, .iinc 2 1, 80, 0, 0)],
  [(80, .iinc 6 1, 83, 0, 0), (83, .goto (-49), 86, 34, 0), (86, .iinc 3 1, 89, 0, 0), (89, .goto (-85), 92, 4, 0), (92, .iload_n 2, 93, 0, 0), (93, .ireturn, 94, 0, 0)]]
def cd33 : List (List cEn) := [[(0, .aload_n 0, 1, 0, 0), (1, .iload_n 1, 2, 0, 0), (2, .invokevirtual 70, 5, 13, 0), (5, .istore_n 3, 6, 0, 0), (6, .iconst 0, 7, 0, 0), (7, .istore 4, 9, 0, 0), (9, .iconst 1, 10, 0, 0), (10, .istore 5, 12, 0, 0), (12, .iload 5, 14, 0, 0), (14, .bipush 8, 16, 0, 0)],
  [(16, .if_icmp .ge 75, 19, 91, 0), (19, .aload_n 0, 20, 0, 0), (20, .iload_n 1, 21, 0, 0), (21, .iload 5, 23, 0, 0), (23, .invokestatic 73, 26, 34, 0), (26, .istore 6, 28, 0, 0), (28, .iload 5, 30, 0, 0), (30, .iload_n 3, 31, 0, 0), (31, .iand, 32, 0, 0)],
  [(32, .iload 5, 34, 0, 0), (34, .if_icmp .ne 51, 37, 85, 0), (37, .iload 6, 39, 0, 0), (39, .iload_n 2, 40, 0, 0), (40, .if_icmp .le 6, 43, 46, 0), (43, .goto 42, 46, 85, 0), (46, .iload 5, 48, 0, 0)],
  [(48, .invokestatic 77, 51, 307, 0), (51, .iload 4, 53, 0, 0), (53, .invokestatic 77, 56, 307, 0), (56, .isub, 57, 0, 0), (57, .istore 7, 59, 0, 0), (59, .iload 7, 61, 0, 0), (61, .ifCond .gt 20, 64, 81, 0)],
  [(64, .iload 7, 66, 0, 0), (66, .ifCond .ne 19, 69, 85, 0), (69, .iload 6, 71, 0, 0), (71, .aload_n 0, 72, 0, 0), (72, .iload_n 1, 73, 0, 0), (73, .iload 4, 75, 0, 0), (75, .invokestatic 73, 78, 34, 0), (78, .if_icmp .ge 7, 81, 85, 0)],
  [(81, .iload 5, 83, 0, 0), (83, .istore 4, 85, 0, 0), (85, .iinc 5 1, 88, 0, 0), (88, .goto (-76), 91, 12, 0), (91, .iload 4, 93, 0, 0), (93, .ireturn, 94, 0, 0)]]
def cd34 : List (List cEn) := [[(0, .aload_n 0, 1, 0, 0), (1, .iload_n 1, 2, 0, 0), (2, .invokevirtual 56, 5, 8, 0), (5, .istore_n 3, 6, 0, 0), (6, .iconst 0, 7, 0, 0), (7, .istore 4, 9, 0, 0), (9, .iconst 0, 10, 0, 0), (10, .istore 5, 12, 0, 0), (12, .iload 5, 14, 0, 0), (14, .iconst 3, 15, 0, 0), (15, .if_icmp .ge 36, 18, 51, 0)],
  [(18, .iload_n 2, 19, 0, 0), (19, .iload 5, 21, 0, 0), (21, .ishr, 22, 0, 0), (22, .iconst 1, 23, 0, 0), (23, .iand, 24, 0, 0), (24, .iconst 1, 25, 0, 0), (25, .if_icmp .ne 20, 28, 45, 0), (28, .iload 4, 30, 0, 0), (30, .iconst 0, 31, 0, 0), (31, .aload_n 0, 32, 0, 0)],
  [(32, .iload_n 1, 33, 0, 0), (33, .iload 5, 35, 0, 0), (35, .iload_n 3, 36, 0, 0), (36, .invokevirtual 67, 39, 12, 0), (39, .invokestatic 82, 42, 1003, 0), (42, .iadd, 43, 0, 0), (43, .istore 4, 45, 0, 0), (45, .iinc 5 1, 48, 0, 0)],
  [(48, .goto (-36), 51, 12, 0), (51, .iload 4, 53, 0, 0), (53, .ireturn, 54, 0, 0)]]
def cd35 : List (List cEn) := [[(0, .iload_n 1, 1, 0, 0), (1, .iload_n 1, 2, 0, 0), (2, .ineg, 3, 0, 0), (3, .iand, 4, 0, 0), (4, .istore_n 2, 5, 0, 0), (5, .iload_n 1, 6, 0, 0), (6, .istore_n 3, 7, 0, 0), (7, .iload_n 2, 8, 0, 0), (8, .istore 4, 10, 0, 0), (10, .iload 4, 12, 0, 0), (12, .iload_n 1, 13, 0, 0), (13, .if_icmp .ge 56, 16, 69, 0)],
  [(16, .iload 4, 18, 0, 0), (18, .iload_n 1, 19, 0, 0), (19, .iand, 20, 0, 0), (20, .iload 4, 22, 0, 0), (22, .if_icmp .ne 14, 25, 36, 0), (25, .iload 4, 27, 0, 0), (27, .iload_n 2, 28, 0, 0), (28, .iand, 29, 0, 0), (29, .ifCond .eq 7, 32, 36, 0)],
  [(32, .iconst 1, 33, 0, 0), (33, .goto 4, 36, 37, 0), (36, .iconst 0, 37, 0, 0), (37, .istore 5, 39, 0, 0), (39, .iload 5, 41, 0, 0), (41, .ifCond .eq 22, 44, 63, 0), (44, .aload_n 0, 45, 0, 0), (45, .iload_n 1, 46, 0, 0), (46, .iload 4, 48, 0, 0)],
  [(48, .invokestatic 87, 51, 36, 0), (51, .aload_n 0, 52, 0, 0), (52, .iload_n 1, 53, 0, 0), (53, .iload_n 3, 54, 0, 0), (54, .invokestatic 87, 57, 36, 0), (57, .if_icmp .ge 6, 60, 63, 0), (60, .iload 4, 62, 0, 0), (62, .istore_n 3, 63, 0, 0), (63, .iinc 4 1, 66, 0, 0)],
  [(66, .goto (-56), 69, 10, 0), (69, .iload_n 3, 70, 0, 0), (70, .ireturn, 71, 0, 0)]]
def cd36 : List (List cEn) := [[(0, .iconst 0, 1, 0, 0), (1, .istore_n 3, 2, 0, 0), (2, .iconst 0, 3, 0, 0), (3, .istore 4, 5, 0, 0), (5, .iload 4, 7, 0, 0), (7, .aload_n 0, 8, 0, 0), (8, .getfield 51, 11, 0, 0), (11, .if_icmp .ge 48, 14, 59, 0), (14, .iload_n 1, 15, 0, 0), (15, .iload 4, 17, 0, 0)],
  [(17, .ishr, 18, 0, 0), (18, .iconst 1, 19, 0, 0), (19, .iand, 20, 0, 0), (20, .iconst 1, 21, 0, 0), (21, .if_icmp .ne 32, 24, 53, 0), (24, .iload_n 3, 25, 0, 0), (25, .iload_n 2, 26, 0, 0), (26, .iload 4, 28, 0, 0), (28, .ishr, 29, 0, 0), (29, .iconst 1, 30, 0, 0), (30, .iand, 31, 0, 0), (31, .iconst 1, 32, 0, 0)],
  [(32, .if_icmp .ne 12, 35, 44, 0), (35, .aload_n 0, 36, 0, 0), (36, .iload 4, 38, 0, 0), (38, .invokevirtual 56, 41, 8, 0), (41, .goto 10, 44, 51, 0), (44, .aload_n 0, 45, 0, 0), (45, .iload 4, 47, 0, 0), (47, .invokevirtual 56, 50, 8, 0)],
  [(50, .ineg, 51, 0, 0), (51, .iadd, 52, 0, 0), (52, .istore_n 3, 53, 0, 0), (53, .iinc 4 1, 56, 0, 0), (56, .goto (-51), 59, 5, 0), (59, .iload_n 3, 60, 0, 0), (60, .invokestatic 90, 63, 1005, 0), (63, .ireturn, 64, 0, 0)]]
def cd37 : List (List cEn) := [[(0, .iconst (-1), 1, 0, 0), (1, .istore_n 1, 2, 0, 0), (2, .iconst 0, 3, 0, 0), (3, .istore_n 2, 4, 0, 0), (4, .iconst 0, 5, 0, 0), (5, .istore_n 3, 6, 0, 0), (6, .iload_n 3, 7, 0, 0), (7, .aload_n 0, 8, 0, 0), (8, .getfield 51, 11, 0, 0), (11, .if_icmp .ge 29, 14, 40, 0), (14, .aload_n 0, 15, 0, 0), (15, .iload_n 3, 16, 0, 0)],
  [(16, .bipush 7, 18, 0, 0), (18, .invokestatic 73, 21, 34, 0), (21, .istore 4, 23, 0, 0), (23, .iload 4, 25, 0, 0), (25, .iload_n 2, 26, 0, 0), (26, .if_icmp .le 8, 29, 34, 0), (29, .iload_n 3, 30, 0, 0), (30, .istore_n 1, 31, 0, 0), (31, .iload 4, 33, 0, 0)],
  [(33, .istore_n 2, 34, 0, 0), (34, .iinc 3 1, 37, 0, 0), (37, .goto (-31), 40, 6, 0), (40, .iload_n 1, 41, 0, 0), (41, .ireturn, 42, 0, 0)]]
def cd38 : List (List cEn) := [[(0, .iconst (-1), 1, 0, 0), (1, .istore_n 2, 2, 0, 0), (2, .aload_n 0, 3, 0, 0), (3, .getfield 60, 6, 0, 8), (6, .iload_n 1, 7, 0, 0), (7, .iaload, 8, 0, 0), (8, .istore_n 3, 9, 0, 0), (9, .iload_n 3, 10, 0, 0), (10, .bipush 9, 12, 0, 0), (12, .if_icmp .gt 51, 15, 63, 0), (15, .aload_n 0, 16, 0, 0)],
  [(16, .getfield 93, 19, 0, 1), (19, .iload_n 3, 20, 0, 0), (20, .invokestatic 63, 23, 9, 0), (23, .istore 4, 25, 0, 0), (25, .iconst 0, 26, 0, 0), (26, .istore 5, 28, 0, 0), (28, .iload 5, 30, 0, 0), (30, .iconst 3, 31, 0, 0), (31, .if_icmp .ge 23, 34, 54, 0)],
  [(34, .aload_n 0, 35, 0, 0), (35, .iload_n 1, 36, 0, 0), (36, .iload 5, 38, 0, 0), (38, .iload 4, 40, 0, 0), (40, .invokevirtual 67, 43, 12, 0), (43, .ifCond .le 5, 46, 48, 0), (46, .iload_n 2, 47, 0, 0), (47, .ireturn, 48, 0, 0)],
  [(48, .iinc 5 1, 51, 0, 0), (51, .goto (-23), 54, 28, 0), (54, .iinc 2 1, 57, 0, 0), (57, .iinc 3 1, 60, 0, 0), (60, .goto (-51), 63, 9, 0), (63, .iload_n 2, 64, 0, 0)],
  [(64, .ireturn, 65, 0, 0)]]
def cd39 : List (List cEn) := [[(0, .iconst 0, 1, 0, 0), (1, .istore_n 1, 2, 0, 0), (2, .iconst 0, 3, 0, 0), (3, .istore_n 2, 4, 0, 0), (4, .iconst 0, 5, 0, 0), (5, .istore_n 3, 6, 0, 0), (6, .iload_n 3, 7, 0, 0), (7, .iconst 4, 8, 0, 0), (8, .if_icmp .ge 53, 11, 61, 0), (11, .iconst 0, 12, 0, 0), (12, .istore 4, 14, 0, 0), (14, .iconst 0, 15, 0, 0), (15, .istore 5, 17, 0, 0)],
  [(17, .iload 5, 19, 0, 0), (19, .aload_n 0, 20, 0, 0), (20, .getfield 51, 23, 0, 0), (23, .if_icmp .ge 21, 26, 44, 0), (26, .iload 4, 28, 0, 0), (28, .aload_n 0, 29, 0, 0), (29, .iload 5, 31, 0, 0), (31, .iload_n 3, 32, 0, 0)],
  [(32, .invokevirtual 96, 35, 10, 0), (35, .iadd, 36, 0, 0), (36, .istore 4, 38, 0, 0), (38, .iinc 5 1, 41, 0, 0), (41, .goto (-24), 44, 17, 0), (44, .iload 4, 46, 0, 0), (46, .iload_n 2, 47, 0, 0), (47, .if_icmp .le 8, 50, 55, 0)],
  [(50, .iload_n 3, 51, 0, 0), (51, .istore_n 1, 52, 0, 0), (52, .iload 4, 54, 0, 0), (54, .istore_n 2, 55, 0, 0), (55, .iinc 3 1, 58, 0, 0), (58, .goto (-52), 61, 6, 0), (61, .iload_n 1, 62, 0, 0), (62, .ireturn, 63, 0, 0)]]
def cd40 : List (List cEn) := [[(0, .aload_n 0, 1, 0, 0), (1, .getfield 12, 4, 1, 0), (4, .getfield 36, 7, 0, 5), (7, .iconst 0, 8, 0, 0), (8, .aload_n 0, 9, 0, 0), (9, .getfield 27, 12, 1, 2), (12, .arraylength, 13, 0, 0), (13, .iconst 1, 14, 0, 0), (14, .isub, 15, 0, 0), (15, .invokestatic 40, 18, 162, 0)],
  [(18, .ifCond .eq 18, 21, 36, 0), (21, .aload_n 0, 22, 0, 0), (22, .getfield 27, 25, 1, 2), (25, .aload_n 0, 26, 0, 0), (26, .getfield 12, 29, 1, 0), (29, .getfield 36, 32, 0, 5)],
  [(32, .aaload, 33, 0, 0), (33, .goto 4, 36, 37, 0), (36, .aconst_null, 37, 0, 0), (37, .areturn, 38, 0, 0)]]
def cd41 : List (List cEn) := [[(0, .aload_n 0, 1, 0, 0), (1, .getfield 21, 4, 1, 1), (4, .aload_n 0, 5, 0, 0), (5, .getfield 12, 8, 1, 0), (8, .iload_n 1, 9, 0, 0), (9, .iload_n 2, 10, 0, 0), (10, .invokevirtual 44, 13, 60, 0), (13, .aload_n 0, 14, 0, 0), (14, .getfield 21, 17, 1, 1)],
  [(17, .aload_n 0, 18, 0, 0), (18, .invokevirtual 48, 21, 40, 0), (21, .aload_n 0, 22, 0, 0), (22, .getfield 12, 25, 1, 0), (25, .getfield 52, 28, 0, 11), (28, .invokevirtual 56, 31, 61, 0), (31, .ireturn, 32, 0, 0)]]
def cd42 : List (List cEn) := [[(0, .aload_n 0, 1, 0, 0), (1, .getfield 21, 4, 1, 1), (4, .aload_n 0, 5, 0, 0), (5, .getfield 12, 8, 1, 0), (8, .iload_n 1, 9, 0, 0), (9, .iload_n 2, 10, 0, 0), (10, .invokevirtual 44, 13, 60, 0), (13, .aload_n 0, 14, 0, 0), (14, .getfield 21, 17, 1, 1)],
  [(17, .aload_n 0, 18, 0, 0), (18, .invokevirtual 48, 21, 40, 0), (21, .aload_n 0, 22, 0, 0), (22, .getfield 12, 25, 1, 0), (25, .getfield 52, 28, 0, 11), (28, .invokevirtual 60, 31, 62, 0), (31, .ireturn, 32, 0, 0)]]
def cd43 : List (List cEn) := [[(0, .aload_n 0, 1, 0, 0), (1, .getfield 21, 4, 1, 1), (4, .aload_n 0, 5, 0, 0), (5, .getfield 12, 8, 1, 0), (8, .iload_n 1, 9, 0, 0), (9, .iload_n 2, 10, 0, 0), (10, .invokevirtual 44, 13, 60, 0), (13, .aload_n 0, 14, 0, 0), (14, .getfield 21, 17, 1, 1)],
  [(17, .aload_n 0, 18, 0, 0), (18, .invokevirtual 48, 21, 40, 0), (21, .aload_n 0, 22, 0, 0), (22, .getfield 12, 25, 1, 0), (25, .getfield 52, 28, 0, 11), (28, .invokevirtual 63, 31, 63, 0), (31, .ireturn, 32, 0, 0)]]
def cd44 : List (List cEn) := [[(0, .aload_n 0, 1, 0, 0), (1, .getfield 31, 4, 1, 3), (4, .ifCond .ne 17, 7, 21, 0), (7, .aload_n 0, 8, 0, 0), (8, .getfield 12, 11, 1, 0), (11, .getfield 66, 14, 0, 18), (14, .aload_n 0, 15, 0, 0), (15, .getfield 12, 18, 1, 0)],
  [(18, .invokevirtual 70, 21, 98, 0), (21, .return_, 22, 0, 0)]]
def cd45 : List (List cEn) := [[(0, .aload_n 0, 1, 0, 0), (1, .getfield 12, 4, 1, 0), (4, .getfield 76, 7, 0, 0), (7, .istore 4, 9, 0, 0), (9, .iload_n 1, 10, 0, 0), (10, .iconst 0, 11, 0, 0), (11, .iconst 2, 12, 0, 0), (12, .invokestatic 40, 15, 162, 0), (15, .ifCond .eq 31, 18, 46, 0)],
  [(18, .iload_n 2, 19, 0, 0), (19, .iconst 0, 20, 0, 0), (20, .bipush 9, 22, 0, 0), (22, .invokestatic 40, 25, 162, 0), (25, .ifCond .eq 21, 28, 46, 0), (28, .iload_n 3, 29, 0, 0), (29, .iconst 0, 30, 0, 0), (30, .sipush 9999, 33, 0, 0)],
  [(33, .invokestatic 40, 36, 162, 0), (36, .ifCond .eq 10, 39, 46, 0), (39, .iload 4, 41, 0, 0), (41, .bipush 6, 43, 0, 0), (43, .if_icmp .lt 5, 46, 48, 0), (46, .iconst (-1), 47, 0, 0), (47, .ireturn, 48, 0, 0)],
  [(48, .aload_n 0, 49, 0, 0), (49, .getfield 12, 52, 1, 0), (52, .getfield 79, 55, 0, 7), (55, .iload 4, 57, 0, 0), (57, .iload_n 1, 58, 0, 0), (58, .iastore, 59, 0, 0), (59, .aload_n 0, 60, 0, 0), (60, .getfield 12, 63, 1, 0), (63, .getfield 82, 66, 0, 8)],
  [(66, .iload 4, 68, 0, 0), (68, .iload_n 2, 69, 0, 0), (69, .iastore, 70, 0, 0), (70, .aload_n 0, 71, 0, 0), (71, .getfield 12, 74, 1, 0), (74, .getfield 85, 77, 0, 9), (77, .iload 4, 79, 0, 0), (79, .iload_n 3, 80, 0, 0)],
  [(80, .iastore, 81, 0, 0), (81, .iconst 0, 82, 0, 0), (82, .istore 5, 84, 0, 0), (84, .iload 5, 86, 0, 0), (86, .iconst 4, 87, 0, 0), (87, .if_icmp .ge 21, 90, 108, 0), (90, .aload_n 0, 91, 0, 0), (91, .getfield 12, 94, 1, 0), (94, .iload 4, 96, 0, 0)],
  [(96, .iload 5, 98, 0, 0), (98, .iconst 0, 99, 0, 0), (99, .invokevirtual 88, 102, 11, 0), (102, .iinc 5 1, 105, 0, 0), (105, .goto (-21), 108, 84, 0), (108, .aload_n 0, 109, 0, 0), (109, .getfield 12, 112, 1, 0)],
  [(112, .dup, 113, 0, 0), (113, .getfield 76, 116, 0, 0), (116, .iconst 1, 117, 0, 0), (117, .iadd, 118, 0, 0), (118, .putfield 76, 121, 0, 0), (121, .iload 4, 123, 0, 0), (123, .ireturn, 124, 0, 0)]]
def cd46 : List (List cEn) := [[(0, .iload_n 1, 1, 0, 0), (1, .invokestatic 92, 4, 161, 0), (4, .ifCond .eq 13, 7, 17, 0), (7, .iload_n 2, 8, 0, 0), (8, .iconst 0, 9, 0, 0), (9, .bipush 9, 11, 0, 0), (11, .invokestatic 40, 14, 162, 0), (14, .ifCond .ne 5, 17, 19, 0)],
  [(17, .iconst 0, 18, 0, 0), (18, .ireturn, 19, 0, 0), (19, .aload_n 0, 20, 0, 0), (20, .getfield 12, 23, 1, 0), (23, .getfield 52, 26, 0, 11), (26, .iload_n 1, 27, 0, 0), (27, .iload_n 2, 28, 0, 0), (28, .iastore, 29, 0, 0), (29, .iconst 1, 30, 0, 0), (30, .ireturn, 31, 0, 0)]]
def cd47 : List (List cEn) := [[(0, .iload_n 1, 1, 0, 0), (1, .iconst 1, 2, 0, 0), (2, .bipush 99, 4, 0, 0), (4, .invokestatic 40, 7, 162, 0), (7, .ifCond .ne 5, 10, 12, 0), (10, .iconst 0, 11, 0, 0), (11, .ireturn, 12, 0, 0), (12, .aload_n 0, 13, 0, 0), (13, .getfield 12, 16, 1, 0)],
  [(16, .iload_n 1, 17, 0, 0), (17, .putfield 96, 20, 0, 1), (20, .aload_n 0, 21, 0, 0), (21, .getfield 12, 24, 1, 0), (24, .getfield 66, 27, 0, 18), (27, .iload_n 1, 28, 0, 0), (28, .invokevirtual 99, 31, 100, 0), (31, .iconst 1, 32, 0, 0)],
  [(32, .ireturn, 33, 0, 0)]]
def cd48 : List (List cEn) := [[(0, .aload_n 0, 1, 0, 0), (1, .getfield 12, 4, 1, 0), (4, .iload_n 1, 5, 0, 0), (5, .invokevirtual 103, 8, 7, 0), (8, .ifCond .eq 20, 11, 28, 0), (11, .iload_n 2, 12, 0, 0), (12, .invokestatic 92, 15, 161, 0), (15, .ifCond .eq 13, 18, 28, 0)],
  [(18, .iload_n 3, 19, 0, 0), (19, .iconst 1, 20, 0, 0), (20, .bipush 99, 22, 0, 0), (22, .invokestatic 40, 25, 162, 0), (25, .ifCond .ne 5, 28, 30, 0), (28, .iconst (-1), 29, 0, 0), (29, .ireturn, 30, 0, 0), (30, .aload_n 0, 31, 0, 0), (31, .invokevirtual 106, 34, 44, 0)],
  [(34, .aload_n 0, 35, 0, 0), (35, .getfield 12, 38, 1, 0), (38, .iload_n 1, 39, 0, 0), (39, .iload_n 2, 40, 0, 0), (40, .aload_n 0, 41, 0, 0), (41, .getfield 12, 44, 1, 0), (44, .iload_n 1, 45, 0, 0), (45, .iload_n 2, 46, 0, 0), (46, .invokevirtual 109, 49, 10, 0)],
  [(49, .iload_n 3, 50, 0, 0), (50, .iadd, 51, 0, 0), (51, .invokevirtual 88, 54, 11, 0), (54, .aload_n 0, 55, 0, 0), (55, .getfield 12, 58, 1, 0), (58, .iload_n 1, 59, 0, 0), (59, .iload_n 2, 60, 0, 0), (60, .invokevirtual 109, 63, 10, 0), (63, .ireturn, 64, 0, 0)]]
def cd49 : List (List cEn) := [[(0, .aload_n 0, 1, 0, 0), (1, .getfield 12, 4, 1, 0), (4, .iload_n 1, 5, 0, 0), (5, .invokevirtual 103, 8, 7, 0), (8, .ifCond .eq 13, 11, 21, 0), (11, .iload_n 2, 12, 0, 0), (12, .iconst 1, 13, 0, 0), (13, .bipush 99, 15, 0, 0), (15, .invokestatic 40, 18, 162, 0)],
  [(18, .ifCond .ne 5, 21, 23, 0), (21, .iconst (-1), 22, 0, 0), (22, .ireturn, 23, 0, 0), (23, .aload_n 0, 24, 0, 0), (24, .invokevirtual 106, 27, 44, 0), (27, .aload_n 0, 28, 0, 0), (28, .getfield 12, 31, 1, 0), (31, .iload_n 1, 32, 0, 0)],
  [(32, .iconst 3, 33, 0, 0), (33, .aload_n 0, 34, 0, 0), (34, .getfield 12, 37, 1, 0), (37, .iload_n 1, 38, 0, 0), (38, .iconst 3, 39, 0, 0), (39, .invokevirtual 109, 42, 10, 0), (42, .iload_n 2, 43, 0, 0), (43, .iadd, 44, 0, 0), (44, .invokevirtual 88, 47, 11, 0), (47, .aload_n 0, 48, 0, 0)],
  [(48, .getfield 12, 51, 1, 0), (51, .iload_n 1, 52, 0, 0), (52, .iconst 3, 53, 0, 0), (53, .invokevirtual 109, 56, 10, 0), (56, .ireturn, 57, 0, 0)]]
def cd50 : List (List cEn) := [[(0, .aload_n 0, 1, 0, 0), (1, .getfield 12, 4, 1, 0), (4, .iload_n 1, 5, 0, 0), (5, .invokevirtual 103, 8, 7, 0), (8, .ifCond .eq 15, 11, 23, 0), (11, .iload_n 2, 12, 0, 0), (12, .invokestatic 92, 15, 161, 0), (15, .ifCond .eq 8, 18, 23, 0)],
  [(18, .iload_n 3, 19, 0, 0), (19, .iconst 1, 20, 0, 0), (20, .if_icmp .ge 5, 23, 25, 0), (23, .iconst (-1), 24, 0, 0), (24, .ireturn, 25, 0, 0), (25, .aload_n 0, 26, 0, 0), (26, .getfield 12, 29, 1, 0), (29, .iload_n 1, 30, 0, 0), (30, .iload_n 2, 31, 0, 0), (31, .invokevirtual 109, 34, 10, 0)],
  [(34, .istore 4, 36, 0, 0), (36, .aload_n 0, 37, 0, 0), (37, .getfield 12, 40, 1, 0), (40, .iload_n 1, 41, 0, 0), (41, .iconst 3, 42, 0, 0), (42, .invokevirtual 109, 45, 10, 0), (45, .istore 5, 47, 0, 0), (47, .iload_n 3, 48, 0, 0)],
  [(48, .iload 4, 50, 0, 0), (50, .if_icmp .gt 9, 53, 59, 0), (53, .iload_n 3, 54, 0, 0), (54, .iload 5, 56, 0, 0), (56, .if_icmp .le 5, 59, 61, 0), (59, .iconst (-1), 60, 0, 0), (60, .ireturn, 61, 0, 0), (61, .aload_n 0, 62, 0, 0), (62, .invokevirtual 106, 65, 44, 0)],
  [(65, .aload_n 0, 66, 0, 0), (66, .getfield 12, 69, 1, 0), (69, .iload_n 1, 70, 0, 0), (70, .iload_n 2, 71, 0, 0), (71, .iload 4, 73, 0, 0), (73, .iload_n 3, 74, 0, 0), (74, .isub, 75, 0, 0), (75, .invokevirtual 88, 78, 11, 0), (78, .aload_n 0, 79, 0, 0), (79, .getfield 12, 82, 1, 0)],
  [(82, .iload_n 1, 83, 0, 0), (83, .iconst 3, 84, 0, 0), (84, .iload 5, 86, 0, 0), (86, .iload_n 3, 87, 0, 0), (87, .isub, 88, 0, 0), (88, .invokevirtual 88, 91, 11, 0), (91, .iload 4, 93, 0, 0), (93, .iload_n 3, 94, 0, 0), (94, .isub, 95, 0, 0), (95, .ireturn, 96, 0, 0)]]
def cd51 : List (List cEn) := [[(0, .aload_n 0, 1, 0, 0), (1, .getfield 12, 4, 1, 0), (4, .iload_n 1, 5, 0, 0), (5, .invokevirtual 103, 8, 7, 0), (8, .ifCond .eq 10, 11, 18, 0), (11, .iload_n 2, 12, 0, 0), (12, .invokestatic 92, 15, 161, 0), (15, .ifCond .ne 6, 18, 21, 0)],
  [(18, .bipush (-2), 20, 0, 0), (20, .ireturn, 21, 0, 0), (21, .aload_n 0, 22, 0, 0), (22, .invokevirtual 106, 25, 44, 0), (25, .aload_n 0, 26, 0, 0), (26, .getfield 12, 29, 1, 0), (29, .iload_n 1, 30, 0, 0), (30, .invokevirtual 113, 33, 13, 0)],
  [(33, .iload_n 2, 34, 0, 0), (34, .ishr, 35, 0, 0), (35, .iconst 1, 36, 0, 0), (36, .iand, 37, 0, 0), (37, .iconst 1, 38, 0, 0), (38, .if_icmp .ne 7, 41, 45, 0), (41, .iconst 1, 42, 0, 0), (42, .goto 4, 45, 46, 0), (45, .iconst 0, 46, 0, 0), (46, .istore_n 3, 47, 0, 0), (47, .aload_n 0, 48, 0, 0)],
  [(48, .getfield 12, 51, 1, 0), (51, .invokevirtual 117, 54, 14, 0), (54, .bipush 10, 56, 0, 0), (56, .irem, 57, 0, 0), (57, .aload_n 0, 58, 0, 0), (58, .iload_n 1, 59, 0, 0), (59, .iload_n 2, 60, 0, 0), (60, .invokevirtual 121, 63, 42, 0), (63, .if_icmp .ge 7, 66, 70, 0)],
  [(66, .iconst 1, 67, 0, 0), (67, .goto 4, 70, 71, 0), (70, .iconst 0, 71, 0, 0), (71, .istore 4, 73, 0, 0), (73, .iload_n 3, 74, 0, 0), (74, .iload 4, 76, 0, 0), (76, .if_icmp .ne 5, 79, 81, 0), (79, .iconst (-1), 80, 0, 0)],
  [(80, .ireturn, 81, 0, 0), (81, .aload_n 0, 82, 0, 0), (82, .getfield 12, 85, 1, 0), (85, .getfield 85, 88, 0, 9), (88, .iload_n 1, 89, 0, 0), (89, .iaload, 90, 0, 0), (90, .aload_n 0, 91, 0, 0), (91, .iload_n 1, 92, 0, 0), (92, .iload_n 2, 93, 0, 0), (93, .invokevirtual 124, 96, 43, 0)],
  [(96, .invokestatic 127, 99, 1004, 0), (99, .istore 5, 101, 0, 0), (101, .aload_n 0, 102, 0, 0), (102, .getfield 12, 105, 1, 0), (105, .getfield 85, 108, 0, 9), (108, .iload_n 1, 109, 0, 0), (109, .dup2, 110, 0, 0), (110, .iaload, 111, 0, 0), (111, .iload 5, 113, 0, 0)],
  [(113, .isub, 114, 0, 0), (114, .iastore, 115, 0, 0), (115, .aload_n 0, 116, 0, 0), (116, .getfield 12, 119, 1, 0), (119, .iload_n 1, 120, 0, 0), (120, .iload_n 2, 121, 0, 0), (121, .iconst 0, 122, 0, 0), (122, .invokevirtual 88, 125, 11, 0), (125, .aload_n 0, 126, 0, 0), (126, .getfield 12, 129, 1, 0)],
  [(129, .iload_n 1, 130, 0, 0), (130, .iload_n 2, 131, 0, 0), (131, .iload 5, 133, 0, 0), (133, .invokevirtual 132, 136, 15, 0), (136, .iload 5, 138, 0, 0), (138, .ireturn, 139, 0, 0)]]
def cd52 : List (List cEn) := [[(0, .aload_n 0, 1, 0, 0), (1, .getfield 12, 4, 1, 0), (4, .iload_n 1, 5, 0, 0), (5, .invokevirtual 103, 8, 7, 0), (8, .ifCond .eq 17, 11, 25, 0), (11, .aload_n 0, 12, 0, 0), (12, .getfield 12, 15, 1, 0), (15, .getfield 82, 18, 0, 8)],
  [(18, .iload_n 1, 19, 0, 0), (19, .iaload, 20, 0, 0), (20, .bipush 9, 22, 0, 0), (22, .if_icmp .lt 5, 25, 27, 0), (25, .iconst (-1), 26, 0, 0), (26, .ireturn, 27, 0, 0), (27, .aload_n 0, 28, 0, 0), (28, .invokevirtual 106, 31, 44, 0), (31, .aload_n 0, 32, 0, 0)],
  [(32, .getfield 12, 35, 1, 0), (35, .getfield 82, 38, 0, 8), (38, .iload_n 1, 39, 0, 0), (39, .dup2, 40, 0, 0), (40, .iaload, 41, 0, 0), (41, .iconst 1, 42, 0, 0), (42, .iadd, 43, 0, 0), (43, .iastore, 44, 0, 0), (44, .aload_n 0, 45, 0, 0), (45, .getfield 12, 48, 1, 0)],
  [(48, .iload_n 1, 49, 0, 0), (49, .invokevirtual 135, 52, 8, 0), (52, .ireturn, 53, 0, 0)]]
def cd53 : List (List cEn) := [[(0, .iload_n 1, 1, 0, 0), (1, .iconst 1, 2, 0, 0), (2, .if_icmp .lt 14, 5, 16, 0), (5, .iload_n 1, 6, 0, 0), (6, .aload_n 0, 7, 0, 0), (7, .getfield 12, 10, 1, 0), (10, .getfield 96, 13, 0, 1), (13, .if_icmp .lt 5, 16, 18, 0)],
  [(16, .iconst (-1), 17, 0, 0), (17, .ireturn, 18, 0, 0), (18, .aload_n 0, 19, 0, 0), (19, .invokevirtual 106, 22, 44, 0), (22, .aload_n 0, 23, 0, 0), (23, .getfield 12, 26, 1, 0), (26, .dup, 27, 0, 0), (27, .getfield 96, 30, 0, 1), (30, .iload_n 1, 31, 0, 0), (31, .isub, 32, 0, 0)],
  [(32, .putfield 96, 35, 0, 1), (35, .aload_n 0, 36, 0, 0), (36, .getfield 12, 39, 1, 0), (39, .getfield 96, 42, 0, 1), (42, .ireturn, 43, 0, 0)]]
def cd54 : List (List cEn) := [[(0, .iconst 0, 1, 0, 0), (1, .istore_n 2, 2, 0, 0), (2, .iload_n 2, 3, 0, 0), (3, .iload_n 1, 4, 0, 0), (4, .if_icmp .ge 45, 7, 49, 0), (7, .aload_n 0, 8, 0, 0), (8, .getfield 12, 11, 1, 0), (11, .getfield 138, 14, 0, 2), (14, .sipush 9999, 17, 0, 0)],
  [(17, .if_icmp .lt 5, 20, 22, 0), (20, .iconst 0, 21, 0, 0), (21, .ireturn, 22, 0, 0), (22, .aload_n 0, 23, 0, 0), (23, .invokevirtual 106, 26, 44, 0), (26, .aload_n 0, 27, 0, 0), (27, .invokevirtual 141, 30, 55, 0), (30, .aload_n 0, 31, 0, 0), (31, .getfield 12, 34, 1, 0)],
  [(34, .dup, 35, 0, 0), (35, .getfield 138, 38, 0, 2), (38, .iconst 1, 39, 0, 0), (39, .iadd, 40, 0, 0), (40, .putfield 138, 43, 0, 2), (43, .iinc 2 1, 46, 0, 0), (46, .goto (-44), 49, 2, 0)],
  [(49, .iconst 1, 50, 0, 0), (50, .ireturn, 51, 0, 0)]]
def cd55 : List (List cEn) := [[(0, .iconst 0, 1, 0, 0), (1, .istore_n 1, 2, 0, 0), (2, .iload_n 1, 3, 0, 0), (3, .aload_n 0, 4, 0, 0), (4, .getfield 12, 7, 1, 0), (7, .getfield 76, 10, 0, 0), (10, .if_icmp .ge 78, 13, 88, 0), (13, .iconst 0, 14, 0, 0), (14, .istore_n 2, 15, 0, 0), (15, .iload_n 2, 16, 0, 0)],
  [(16, .iconst 4, 17, 0, 0), (17, .if_icmp .ge 65, 20, 82, 0), (20, .aload_n 0, 21, 0, 0), (21, .getfield 12, 24, 1, 0), (24, .iload_n 1, 25, 0, 0), (25, .iload_n 2, 26, 0, 0), (26, .invokevirtual 109, 29, 10, 0), (29, .istore_n 3, 30, 0, 0), (30, .iload_n 3, 31, 0, 0), (31, .ifCond .le 45, 34, 76, 0)],
  [(34, .aload_n 0, 35, 0, 0), (35, .getfield 21, 38, 1, 1), (38, .aload_n 0, 39, 0, 0), (39, .getfield 12, 42, 1, 0), (42, .iload_n 1, 43, 0, 0), (43, .iload_n 2, 44, 0, 0), (44, .invokevirtual 44, 47, 60, 0), (47, .aload_n 0, 48, 0, 0)],
  [(48, .getfield 12, 51, 1, 0), (51, .iload_n 1, 52, 0, 0), (52, .iload_n 2, 53, 0, 0), (53, .iload_n 3, 54, 0, 0), (54, .aload_n 0, 55, 0, 0), (55, .getfield 21, 58, 1, 1), (58, .aload_n 0, 59, 0, 0), (59, .invokevirtual 48, 62, 40, 0), (62, .aload_n 0, 63, 0, 0), (63, .getfield 12, 66, 1, 0)],
  [(66, .getfield 52, 69, 0, 11), (69, .invokevirtual 56, 72, 61, 0), (72, .isub, 73, 0, 0), (73, .invokevirtual 88, 76, 11, 0), (76, .iinc 2 1, 79, 0, 0), (79, .goto (-64), 82, 15, 0)],
  [(82, .iinc 1 1, 85, 0, 0), (85, .goto (-83), 88, 2, 0), (88, .return_, 89, 0, 0)]]
def cd56 : List (List cEn) := [[(0, .iconst 0, 1, 0, 0), (1, .istore_n 2, 2, 0, 0), (2, .iload_n 2, 3, 0, 0), (3, .aload_n 1, 4, 0, 0), (4, .getfield 144, 7, 6, 5), (7, .if_icmp .ge 48, 10, 55, 0), (10, .iload_n 2, 11, 0, 0), (11, .bipush 24, 13, 0, 0), (13, .if_icmp .ge 42, 16, 55, 0)],
  [(16, .aload_n 0, 17, 0, 0), (17, .aload_n 1, 18, 0, 0), (18, .iload_n 2, 19, 0, 0), (19, .iconst 0, 20, 0, 0), (20, .invokevirtual 147, 23, 103, 0), (23, .aload_n 1, 24, 0, 0), (24, .iload_n 2, 25, 0, 0), (25, .iconst 1, 26, 0, 0), (26, .invokevirtual 147, 29, 103, 0), (29, .aload_n 1, 30, 0, 0), (30, .iload_n 2, 31, 0, 0), (31, .iconst 2, 32, 0, 0)],
  [(32, .invokevirtual 147, 35, 103, 0), (35, .aload_n 1, 36, 0, 0), (36, .iload_n 2, 37, 0, 0), (37, .iconst 3, 38, 0, 0), (38, .invokevirtual 147, 41, 103, 0), (41, .invokevirtual 150, 44, 57, 0), (44, .ifCond .ne 5, 47, 49, 0), (47, .iload_n 2, 48, 0, 0)],
  [(48, .ireturn, 49, 0, 0), (49, .iinc 2 1, 52, 0, 0), (52, .goto (-50), 55, 2, 0), (55, .iconst (-1), 56, 0, 0), (56, .ireturn, 57, 0, 0)]]
def cd57 : List (List cEn) := [[(0, .iload_n 1, 1, 0, 0), (1, .tableswitch 191 3 12 #[55, 73, 80, 86, 104, 120, 138, 155, 170, 185], 56, 0, 0)],
  [],
  [],
  [(56, .aload_n 0, 57, 0, 0), (57, .iload_n 2, 58, 0, 0), (58, .iload_n 3, 59, 0, 0), (59, .iload 4, 61, 0, 0), (61, .invokevirtual 154, 64, 45, 0)],
  [(64, .iconst (-1), 65, 0, 0), (65, .if_icmp .eq 7, 68, 72, 0), (68, .iconst 1, 69, 0, 0), (69, .goto 4, 72, 73, 0), (72, .iconst 0, 73, 0, 0), (73, .ireturn, 74, 0, 0), (74, .aload_n 0, 75, 0, 0), (75, .iload_n 3, 76, 0, 0), (76, .iload_n 2, 77, 0, 0), (77, .invokevirtual 158, 80, 46, 0)],
  [(80, .ireturn, 81, 0, 0), (81, .aload_n 0, 82, 0, 0), (82, .iload_n 2, 83, 0, 0), (83, .invokevirtual 162, 86, 47, 0), (86, .ireturn, 87, 0, 0), (87, .aload_n 0, 88, 0, 0), (88, .iload 4, 90, 0, 0), (90, .iload_n 3, 91, 0, 0), (91, .iload_n 2, 92, 0, 0), (92, .invokevirtual 164, 95, 48, 0), (95, .iconst (-1), 96, 0, 0)],
  [(96, .if_icmp .eq 7, 99, 103, 0), (99, .iconst 1, 100, 0, 0), (100, .goto 4, 103, 104, 0), (103, .iconst 0, 104, 0, 0), (104, .ireturn, 105, 0, 0), (105, .aload_n 0, 106, 0, 0), (106, .iload_n 3, 107, 0, 0), (107, .iload_n 2, 108, 0, 0), (108, .invokevirtual 167, 111, 49, 0), (111, .iconst (-1), 112, 0, 0)],
  [(112, .if_icmp .eq 7, 115, 119, 0), (115, .iconst 1, 116, 0, 0), (116, .goto 4, 119, 120, 0), (119, .iconst 0, 120, 0, 0), (120, .ireturn, 121, 0, 0), (121, .aload_n 0, 122, 0, 0), (122, .iload 4, 124, 0, 0), (124, .iload_n 3, 125, 0, 0), (125, .iload_n 2, 126, 0, 0), (126, .invokevirtual 170, 129, 50, 0)],
  [(129, .iconst (-1), 130, 0, 0), (130, .if_icmp .eq 7, 133, 137, 0), (133, .iconst 1, 134, 0, 0), (134, .goto 4, 137, 138, 0), (137, .iconst 0, 138, 0, 0), (138, .ireturn, 139, 0, 0), (139, .aload_n 0, 140, 0, 0), (140, .iload_n 2, 141, 0, 0), (141, .iload_n 3, 142, 0, 0), (142, .invokevirtual 173, 145, 51, 0)],
  [(145, .bipush (-2), 147, 0, 0), (147, .if_icmp .eq 7, 150, 154, 0), (150, .iconst 1, 151, 0, 0), (151, .goto 4, 154, 155, 0), (154, .iconst 0, 155, 0, 0), (155, .ireturn, 156, 0, 0), (156, .aload_n 0, 157, 0, 0), (157, .iload_n 2, 158, 0, 0), (158, .invokevirtual 176, 161, 52, 0)],
  [(161, .iconst (-1), 162, 0, 0), (162, .if_icmp .eq 7, 165, 169, 0), (165, .iconst 1, 166, 0, 0), (166, .goto 4, 169, 170, 0), (169, .iconst 0, 170, 0, 0), (170, .ireturn, 171, 0, 0), (171, .aload_n 0, 172, 0, 0), (172, .iload_n 2, 173, 0, 0), (173, .invokevirtual 179, 176, 53, 0)],
  [(176, .iconst (-1), 177, 0, 0), (177, .if_icmp .eq 7, 180, 184, 0), (180, .iconst 1, 181, 0, 0), (181, .goto 4, 184, 185, 0), (184, .iconst 0, 185, 0, 0), (185, .ireturn, 186, 0, 0), (186, .aload_n 0, 187, 0, 0), (187, .iload_n 2, 188, 0, 0), (188, .invokevirtual 182, 191, 54, 0), (191, .ireturn, 192, 0, 0)],
  [(192, .iconst 1, 193, 0, 0), (193, .ireturn, 194, 0, 0)]]
def cd58 : List (List cEn) := [[(0, .aload_n 0, 1, 0, 0), (1, .invokevirtual 106, 4, 44, 0), (4, .aload_n 0, 5, 0, 0), (5, .iconst 1, 6, 0, 0), (6, .putfield 31, 9, 1, 3), (9, .aload_n 0, 10, 0, 0), (10, .getfield 12, 13, 1, 0), (13, .iload_n 1, 14, 0, 0), (14, .iconst 2, 15, 0, 0), (15, .imul, 16, 0, 0)],
  [(16, .sipush 157, 19, 0, 0), (19, .iadd, 20, 0, 0), (20, .putfield 185, 23, 0, 3), (23, .iconst 0, 24, 0, 0), (24, .istore_n 3, 25, 0, 0), (25, .iload_n 3, 26, 0, 0), (26, .iload_n 2, 27, 0, 0), (27, .if_icmp .ge 20, 30, 47, 0), (30, .aload_n 0, 31, 0, 0), (31, .aload_n 0, 32, 0, 0)],
  [(32, .getfield 12, 35, 1, 0), (35, .invokevirtual 117, 38, 14, 0), (38, .invokevirtual 188, 41, 59, 0), (41, .iinc 3 1, 44, 0, 0), (44, .goto (-19), 47, 25, 0), (47, .aload_n 0, 48, 0, 0)],
  [(48, .iconst 0, 49, 0, 0), (49, .putfield 31, 52, 1, 3), (52, .return_, 53, 0, 0)]]
def cd59 : List (List cEn) := [[(0, .iload_n 1, 1, 0, 0), (1, .bipush 7, 3, 0, 0), (3, .irem, 4, 0, 0), (4, .bipush 6, 6, 0, 0), (6, .if_icmp .ne 10, 9, 16, 0), (9, .aload_n 0, 10, 0, 0), (10, .iconst 1, 11, 0, 0), (11, .invokevirtual 182, 14, 54, 0), (14, .pop, 15, 0, 0), (15, .return_, 16, 0, 0)],
  [(16, .aload_n 0, 17, 0, 0), (17, .getfield 12, 20, 1, 0), (20, .getfield 76, 23, 0, 0), (23, .ifCond .ne 4, 26, 27, 0), (26, .return_, 27, 0, 0), (27, .iload_n 1, 28, 0, 0), (28, .aload_n 0, 29, 0, 0), (29, .getfield 12, 32, 1, 0)],
  [(32, .getfield 76, 35, 0, 0), (35, .irem, 36, 0, 0), (36, .istore_n 2, 37, 0, 0), (37, .iload_n 1, 38, 0, 0), (38, .iconst 3, 39, 0, 0), (39, .irem, 40, 0, 0), (40, .istore_n 3, 41, 0, 0), (41, .iload_n 1, 42, 0, 0), (42, .bipush 7, 44, 0, 0), (44, .irem, 45, 0, 0), (45, .tableswitch 89 0 4 #[35, 35, 51, 66, 79], 80, 1, 0)],
  [],
  [],
  [(80, .aload_n 0, 81, 0, 0), (81, .iload_n 2, 82, 0, 0), (82, .iload_n 3, 83, 0, 0), (83, .iconst 1, 84, 0, 0), (84, .iload_n 1, 85, 0, 0), (85, .bipush 30, 87, 0, 0), (87, .irem, 88, 0, 0), (88, .iadd, 89, 0, 0), (89, .invokevirtual 164, 92, 48, 0), (92, .pop, 93, 0, 0), (93, .goto 53, 96, 146, 0)],
  [(96, .aload_n 0, 97, 0, 0), (97, .iload_n 2, 98, 0, 0), (98, .iconst 1, 99, 0, 0), (99, .iload_n 1, 100, 0, 0), (100, .bipush 20, 102, 0, 0), (102, .irem, 103, 0, 0), (103, .iadd, 104, 0, 0), (104, .invokevirtual 167, 107, 49, 0), (107, .pop, 108, 0, 0), (108, .goto 38, 111, 146, 0), (111, .aload_n 0, 112, 0, 0)],
  [(112, .iload_n 2, 113, 0, 0), (113, .iload_n 3, 114, 0, 0), (114, .iload_n 1, 115, 0, 0), (115, .iconst 5, 116, 0, 0), (116, .irem, 117, 0, 0), (117, .invokevirtual 170, 120, 50, 0), (120, .pop, 121, 0, 0), (121, .goto 25, 124, 146, 0), (124, .aload_n 0, 125, 0, 0), (125, .iload_n 2, 126, 0, 0), (126, .iload_n 3, 127, 0, 0), (127, .invokevirtual 173, 130, 51, 0)],
  [(130, .pop, 131, 0, 0), (131, .goto 15, 134, 146, 0), (134, .iload_n 1, 135, 0, 0), (135, .iconst 4, 136, 0, 0), (136, .irem, 137, 0, 0), (137, .ifCond .ne 9, 140, 146, 0), (140, .aload_n 0, 141, 0, 0), (141, .iload_n 2, 142, 0, 0), (142, .invokevirtual 176, 145, 52, 0)],
  [(145, .pop, 146, 0, 0), (146, .return_, 147, 0, 0)]]
def cd60 : List (List cEn) := [[(0, .aload_n 0, 1, 0, 0), (1, .getfield 11, 4, 2, 0), (4, .iconst 0, 5, 0, 0), (5, .aload_n 1, 6, 0, 0), (6, .getfield 18, 9, 0, 2), (9, .iastore, 10, 0, 0), (10, .aload_n 0, 11, 0, 0), (11, .getfield 11, 14, 2, 0), (14, .iconst 1, 15, 0, 0), (15, .iload_n 2, 16, 0, 0)],
  [(16, .iastore, 17, 0, 0), (17, .aload_n 0, 18, 0, 0), (18, .getfield 11, 21, 2, 0), (21, .iconst 2, 22, 0, 0), (22, .aload_n 1, 23, 0, 0), (23, .getfield 24, 26, 0, 7), (26, .iload_n 2, 27, 0, 0), (27, .iaload, 28, 0, 0), (28, .iastore, 29, 0, 0), (29, .aload_n 0, 30, 0, 0), (30, .getfield 11, 33, 2, 0)],
  [(33, .iconst 3, 34, 0, 0), (34, .aload_n 1, 35, 0, 0), (35, .getfield 27, 38, 0, 8), (38, .iload_n 2, 39, 0, 0), (39, .iaload, 40, 0, 0), (40, .iastore, 41, 0, 0), (41, .aload_n 0, 42, 0, 0), (42, .getfield 11, 45, 2, 0), (45, .iconst 4, 46, 0, 0), (46, .aload_n 1, 47, 0, 0), (47, .iload_n 2, 48, 0, 0)],
  [(48, .invokevirtual 30, 51, 8, 0), (51, .iastore, 52, 0, 0), (52, .aload_n 0, 53, 0, 0), (53, .getfield 11, 56, 2, 0), (56, .iconst 5, 57, 0, 0), (57, .iload_n 3, 58, 0, 0), (58, .iastore, 59, 0, 0), (59, .aload_n 0, 60, 0, 0), (60, .getfield 11, 63, 2, 0), (63, .bipush 6, 65, 0, 0)],
  [(65, .aload_n 1, 66, 0, 0), (66, .iload_n 2, 67, 0, 0), (67, .iload_n 3, 68, 0, 0), (68, .invokevirtual 34, 71, 10, 0), (71, .iastore, 72, 0, 0), (72, .aload_n 0, 73, 0, 0), (73, .getfield 11, 76, 2, 0), (76, .bipush 7, 78, 0, 0), (78, .aload_n 1, 79, 0, 0), (79, .getfield 38, 82, 0, 9)],
  [(82, .iload_n 2, 83, 0, 0), (83, .iaload, 84, 0, 0), (84, .iastore, 85, 0, 0), (85, .aload_n 0, 86, 0, 0), (86, .getfield 11, 89, 2, 0), (89, .bipush 8, 91, 0, 0), (91, .aload_n 1, 92, 0, 0), (92, .iload_n 2, 93, 0, 0), (93, .iconst 3, 94, 0, 0), (94, .invokevirtual 34, 97, 10, 0)],
  [(97, .iastore, 98, 0, 0), (98, .return_, 99, 0, 0)]]
def cd61 : List (List cEn) := [[(0, .aload_n 1, 1, 0, 0), (1, .ifnull 13, 4, 14, 0), (4, .aload_n 1, 5, 0, 0), (5, .getfield 41, 8, 6, 3), (8, .iconst 0, 9, 0, 0), (9, .iaload, 10, 0, 0), (10, .iconst (-1), 11, 0, 0), (11, .if_icmp .ne 19, 14, 30, 0), (14, .aload_n 0, 15, 0, 0), (15, .getfield 11, 18, 2, 0)],
  [(18, .iconst 2, 19, 0, 0), (19, .iaload, 20, 0, 0), (20, .iconst 1, 21, 0, 0), (21, .if_icmp .ne 7, 24, 28, 0), (24, .iconst 3, 25, 0, 0), (25, .goto 4, 28, 29, 0), (28, .iconst 1, 29, 0, 0), (29, .ireturn, 30, 0, 0), (30, .lconst 0, 31, 0, 0), (31, .ldc2_w 48, 34, 0, 99)],
  [(34, .aload_n 0, 35, 0, 0), (35, .aload_n 1, 36, 0, 0), (36, .iconst 0, 37, 0, 0), (37, .aload_n 2, 38, 0, 0), (38, .invokevirtual 50, 41, 65, 0), (41, .i2l, 42, 0, 0), (42, .invokestatic 54, 45, 64, 0), (45, .ireturn, 46, 0, 0)]]
def cd62 : List (List cEn) := [[(0, .aload_n 1, 1, 0, 0), (1, .ifnull 13, 4, 14, 0), (4, .aload_n 1, 5, 0, 0), (5, .getfield 41, 8, 6, 3), (8, .iconst 1, 9, 0, 0), (9, .iaload, 10, 0, 0), (10, .iconst (-1), 11, 0, 0), (11, .if_icmp .ne 5, 14, 16, 0), (14, .iconst 1, 15, 0, 0), (15, .ireturn, 16, 0, 0)],
  [(16, .lconst 0, 17, 0, 0), (17, .ldc2_w 58, 20, 0, 10), (20, .aload_n 0, 21, 0, 0), (21, .aload_n 1, 22, 0, 0), (22, .iconst 1, 23, 0, 0), (23, .aload_n 2, 24, 0, 0), (24, .invokevirtual 50, 27, 65, 0), (27, .i2l, 28, 0, 0), (28, .invokestatic 54, 31, 64, 0), (31, .ireturn, 32, 0, 0)]]
def cd63 : List (List cEn) := [[(0, .aload_n 1, 1, 0, 0), (1, .ifnull 13, 4, 14, 0), (4, .aload_n 1, 5, 0, 0), (5, .getfield 41, 8, 6, 3), (8, .iconst 2, 9, 0, 0), (9, .iaload, 10, 0, 0), (10, .iconst (-1), 11, 0, 0), (11, .if_icmp .ne 35, 14, 46, 0), (14, .iconst 0, 15, 0, 0), (15, .aload_n 0, 16, 0, 0)],
  [(16, .getfield 11, 19, 2, 0), (19, .bipush 6, 21, 0, 0), (21, .iaload, 22, 0, 0), (22, .bipush 24, 24, 0, 0), (24, .aload_n 0, 25, 0, 0), (25, .getfield 11, 28, 2, 0), (28, .iconst 5, 29, 0, 0), (29, .iaload, 30, 0, 0), (30, .aload_n 2, 31, 0, 0), (31, .invokestatic 60, 34, 67, 0)],
  [(34, .aload_n 0, 35, 0, 0), (35, .getfield 11, 38, 2, 0), (38, .iconst 4, 39, 0, 0), (39, .iaload, 40, 0, 0), (40, .imul, 41, 0, 0), (41, .isub, 42, 0, 0), (42, .invokestatic 64, 45, 1003, 0), (45, .ireturn, 46, 0, 0), (46, .lconst 0, 47, 0, 0), (47, .ldc2_w 69, 50, 0, 9999)],
  [(50, .aload_n 0, 51, 0, 0), (51, .aload_n 1, 52, 0, 0), (52, .iconst 2, 53, 0, 0), (53, .aload_n 2, 54, 0, 0), (54, .invokevirtual 50, 57, 65, 0), (57, .i2l, 58, 0, 0), (58, .invokestatic 54, 61, 64, 0), (61, .ireturn, 62, 0, 0)]]
def cd64 : List (List cEn) := [[(0, .lload 4, 2, 0, 0), (2, .lload_n 0, 3, 0, 0), (3, .lcmp, 4, 0, 0), (4, .ifCond .ge 7, 7, 11, 0), (7, .lload_n 0, 8, 0, 0), (8, .goto 16, 11, 24, 0), (11, .lload 4, 13, 0, 0), (13, .lload_n 2, 14, 0, 0), (14, .lcmp, 15, 0, 0), (15, .ifCond .le 7, 18, 22, 0)],
  [(18, .lload_n 2, 19, 0, 0), (19, .goto 5, 22, 24, 0), (22, .lload 4, 24, 0, 0), (24, .l2i, 25, 0, 0), (25, .ireturn, 26, 0, 0)]]
def cd65 : List (List cEn) := [[(0, .iconst 0, 1, 0, 0), (1, .istore 4, 3, 0, 0), (3, .aload_n 1, 4, 0, 0), (4, .getfield 41, 7, 6, 3), (7, .iload_n 2, 8, 0, 0), (8, .iaload, 9, 0, 0), (9, .istore 5, 11, 0, 0), (11, .sipush 300, 14, 0, 0), (14, .aload_n 1, 15, 0, 0), (15, .getfield 71, 18, 6, 4)],
  [(18, .iload_n 2, 19, 0, 0), (19, .iaload, 20, 0, 0), (20, .invokestatic 74, 23, 1004, 0), (23, .istore 6, 25, 0, 0), (25, .iconst 0, 26, 0, 0), (26, .istore 7, 28, 0, 0), (28, .iload 7, 30, 0, 0), (30, .sipush 300, 33, 0, 0)],
  [(33, .if_icmp .ge 251, 36, 284, 0), (36, .iload 5, 38, 0, 0), (38, .ifCond .lt 246, 41, 284, 0), (41, .iload 5, 43, 0, 0), (43, .iload 6, 45, 0, 0), (45, .if_icmp .ge 239, 48, 284, 0)],
  [(48, .aload_n 1, 49, 0, 0), (49, .getfield 77, 52, 6, 1), (52, .iload 5, 54, 0, 0), (54, .iaload, 55, 0, 0), (55, .istore 8, 57, 0, 0), (57, .aload_n 1, 58, 0, 0), (58, .getfield 80, 61, 6, 2), (61, .iload 5, 63, 0, 0), (63, .iaload, 64, 0, 0)],
  [(64, .istore 9, 66, 0, 0), (66, .iinc 5 1, 69, 0, 0), (69, .iload 8, 71, 0, 0), (71, .bipush 52, 73, 0, 0), (73, .if_icmp .ne 10, 76, 83, 0), (76, .iload 9, 78, 0, 0), (78, .istore 5, 80, 0, 0)],
  [(80, .goto 198, 83, 278, 0), (83, .iload 8, 85, 0, 0), (85, .bipush 46, 87, 0, 0), (87, .if_icmp .eq 10, 90, 97, 0), (90, .iload 8, 92, 0, 0), (92, .bipush 49, 94, 0, 0), (94, .if_icmp .ne 44, 97, 138, 0)],
  [(97, .iload 4, 99, 0, 0), (99, .aload_n 0, 100, 0, 0), (100, .getfield 15, 103, 2, 1), (103, .arraylength, 104, 0, 0), (104, .if_icmp .ge 174, 107, 278, 0), (107, .aload_n 0, 108, 0, 0), (108, .getfield 15, 111, 2, 1), (111, .iload 4, 113, 0, 0)],
  [(113, .iload 8, 115, 0, 0), (115, .bipush 46, 117, 0, 0), (117, .if_icmp .ne 8, 120, 125, 0), (120, .iload 9, 122, 0, 0), (122, .goto 9, 125, 131, 0), (125, .aload_n 0, 126, 0, 0), (126, .iload 9, 128, 0, 0)],
  [(128, .invokevirtual 83, 131, 66, 0), (131, .iastore, 132, 0, 0), (132, .iinc 4 1, 135, 0, 0), (135, .goto 143, 138, 278, 0), (138, .iload 8, 140, 0, 0), (140, .bipush 51, 142, 0, 0), (142, .if_icmp .ne 33, 145, 175, 0)],
  [(145, .iload 4, 147, 0, 0), (147, .ifCond .le 131, 150, 278, 0), (150, .iinc 4 (-1), 153, 0, 0), (153, .aload_n 0, 154, 0, 0), (154, .getfield 15, 157, 2, 1), (157, .iload 4, 159, 0, 0), (159, .iaload, 160, 0, 0)],
  [(160, .ifCond .ne 8, 163, 168, 0), (163, .iload 9, 165, 0, 0), (165, .goto 5, 168, 170, 0), (168, .iload 5, 170, 0, 0), (170, .istore 5, 172, 0, 0), (172, .goto 106, 175, 278, 0), (175, .iload 8, 177, 0, 0)],
  [(177, .bipush 50, 179, 0, 0), (179, .if_icmp .eq 17, 182, 196, 0), (182, .iload 8, 184, 0, 0), (184, .bipush 24, 186, 0, 0), (186, .if_icmp .eq 10, 189, 196, 0), (189, .iload 8, 191, 0, 0), (191, .bipush 31, 193, 0, 0)],
  [(193, .if_icmp .ne 35, 196, 228, 0), (196, .iload 4, 198, 0, 0), (198, .ifCond .le 80, 201, 278, 0), (201, .aload_n 0, 202, 0, 0), (202, .getfield 15, 205, 2, 1), (205, .iload 4, 207, 0, 0), (207, .iconst 1, 208, 0, 0)],
  [(208, .isub, 209, 0, 0), (209, .iload 8, 211, 0, 0), (211, .aload_n 0, 212, 0, 0), (212, .getfield 15, 215, 2, 1), (215, .iload 4, 217, 0, 0), (217, .iconst 1, 218, 0, 0), (218, .isub, 219, 0, 0), (219, .iaload, 220, 0, 0), (220, .aload_n 3, 221, 0, 0), (221, .invokestatic 60, 224, 67, 0)],
  [(224, .iastore, 225, 0, 0), (225, .goto 53, 228, 278, 0), (228, .iload 4, 230, 0, 0), (230, .iconst 1, 231, 0, 0), (231, .if_icmp .le 47, 234, 278, 0), (234, .iinc 4 (-1), 237, 0, 0), (237, .aload_n 0, 238, 0, 0), (238, .getfield 15, 241, 2, 1)],
  [(241, .iload 4, 243, 0, 0), (243, .iconst 1, 244, 0, 0), (244, .isub, 245, 0, 0), (245, .ldc2_w 86, 248, 0, (-1000000)), (248, .ldc2_w 88, 251, 0, 1000000), (251, .iload 8, 253, 0, 0), (253, .aload_n 0, 254, 0, 0), (254, .getfield 15, 257, 2, 1)],
  [(257, .iload 4, 259, 0, 0), (259, .iconst 1, 260, 0, 0), (260, .isub, 261, 0, 0), (261, .iaload, 262, 0, 0), (262, .i2l, 263, 0, 0), (263, .aload_n 0, 264, 0, 0), (264, .getfield 15, 267, 2, 1), (267, .iload 4, 269, 0, 0), (269, .iaload, 270, 0, 0), (270, .i2l, 271, 0, 0), (271, .invokestatic 90, 274, 68, 0)],
  [(274, .invokestatic 54, 277, 64, 0), (277, .iastore, 278, 0, 0), (278, .iinc 7 1, 281, 0, 0), (281, .goto (-253), 284, 28, 0), (284, .iload 4, 286, 0, 0), (286, .ifCond .le 12, 289, 298, 0)],
  [(289, .aload_n 0, 290, 0, 0), (290, .getfield 15, 293, 2, 1), (293, .iconst 0, 294, 0, 0), (294, .iaload, 295, 0, 0), (295, .goto 4, 298, 299, 0), (298, .iconst 0, 299, 0, 0), (299, .ireturn, 300, 0, 0)]]
def cd66 : List (List cEn) := [[(0, .iload_n 1, 1, 0, 0), (1, .ifCond .lt 21, 4, 22, 0), (4, .iload_n 1, 5, 0, 0), (5, .aload_n 0, 6, 0, 0), (6, .getfield 11, 9, 2, 0), (9, .arraylength, 10, 0, 0), (10, .if_icmp .ge 12, 13, 22, 0), (13, .aload_n 0, 14, 0, 0), (14, .getfield 11, 17, 2, 0)],
  [(17, .iload_n 1, 18, 0, 0), (18, .iaload, 19, 0, 0), (19, .goto 4, 22, 23, 0), (22, .iconst 0, 23, 0, 0), (23, .ireturn, 24, 0, 0)]]
def cd67 : List (List cEn) := [[(0, .iload_n 0, 1, 0, 0), (1, .lookupswitch 48 #[(24, 30), (50, 27)], 28, 2, 0)],
  [(28, .iload_n 1, 29, 0, 0), (29, .ineg, 30, 0, 0), (30, .ireturn, 31, 0, 0), (31, .iload_n 1, 32, 0, 0)],
  [(32, .ifCond .lt 15, 35, 47, 0), (35, .iload_n 1, 36, 0, 0), (36, .aload_n 2, 37, 0, 0), (37, .arraylength, 38, 0, 0), (38, .if_icmp .ge 9, 41, 47, 0), (41, .aload_n 2, 42, 0, 0), (42, .iload_n 1, 43, 0, 0), (43, .iaload, 44, 0, 0), (44, .goto 4, 47, 48, 0), (47, .iconst 0, 48, 0, 0)],
  [(48, .ireturn, 49, 0, 0), (49, .iload_n 1, 50, 0, 0), (50, .ifCond .ne 7, 53, 57, 0), (53, .iconst 1, 54, 0, 0), (54, .goto 4, 57, 58, 0), (57, .iconst 0, 58, 0, 0), (58, .ireturn, 59, 0, 0)]]
def cd68 : List (List cEn) := [[(0, .iload_n 0, 1, 0, 0), (1, .tableswitch 225 23 42 #[121, 225, 225, 225, 225, 225, 225, 207, 225, 225, 135, 147, 159, 171, 183, 195, 95, 99, 103, 107], 96, 3, 0)],
  [],
  [],
  [],
  [],
  [],
  [(96, .lload_n 1, 97, 0, 0), (97, .lload_n 3, 98, 0, 0), (98, .ladd, 99, 0, 0), (99, .lreturn, 100, 0, 0), (100, .lload_n 1, 101, 0, 0), (101, .lload_n 3, 102, 0, 0), (102, .lsub, 103, 0, 0), (103, .lreturn, 104, 0, 0), (104, .lload_n 1, 105, 0, 0), (105, .lload_n 3, 106, 0, 0), (106, .lmul, 107, 0, 0), (107, .lreturn, 108, 0, 0), (108, .lload_n 3, 109, 0, 0), (109, .lconst 0, 110, 0, 0), (110, .lcmp, 111, 0, 0), (111, .ifCond .ne 7, 114, 118, 0)],
  [(114, .lconst 0, 115, 0, 0), (115, .goto 6, 118, 121, 0), (118, .lload_n 1, 119, 0, 0), (119, .lload_n 3, 120, 0, 0), (120, .ldiv, 121, 0, 0), (121, .lreturn, 122, 0, 0), (122, .lload_n 1, 123, 0, 0), (123, .lload_n 3, 124, 0, 0), (124, .lcmp, 125, 0, 0), (125, .ifCond .le 9, 128, 134, 0)],
  [(128, .lload_n 1, 129, 0, 0), (129, .lload_n 3, 130, 0, 0), (130, .lsub, 131, 0, 0), (131, .goto 4, 134, 135, 0), (134, .lconst 0, 135, 0, 0), (135, .lreturn, 136, 0, 0), (136, .lload_n 1, 137, 0, 0), (137, .lload_n 3, 138, 0, 0), (138, .lcmp, 139, 0, 0), (139, .ifCond .ge 7, 142, 146, 0), (142, .lconst 1, 143, 0, 0), (143, .goto 4, 146, 147, 0)],
  [(146, .lconst 0, 147, 0, 0), (147, .lreturn, 148, 0, 0), (148, .lload_n 1, 149, 0, 0), (149, .lload_n 3, 150, 0, 0), (150, .lcmp, 151, 0, 0), (151, .ifCond .gt 7, 154, 158, 0), (154, .lconst 1, 155, 0, 0), (155, .goto 4, 158, 159, 0), (158, .lconst 0, 159, 0, 0), (159, .lreturn, 160, 0, 0)],
  [(160, .lload_n 1, 161, 0, 0), (161, .lload_n 3, 162, 0, 0), (162, .lcmp, 163, 0, 0), (163, .ifCond .le 7, 166, 170, 0), (166, .lconst 1, 167, 0, 0), (167, .goto 4, 170, 171, 0), (170, .lconst 0, 171, 0, 0), (171, .lreturn, 172, 0, 0), (172, .lload_n 1, 173, 0, 0), (173, .lload_n 3, 174, 0, 0), (174, .lcmp, 175, 0, 0), (175, .ifCond .lt 7, 178, 182, 0)],
  [(178, .lconst 1, 179, 0, 0), (179, .goto 4, 182, 183, 0), (182, .lconst 0, 183, 0, 0), (183, .lreturn, 184, 0, 0), (184, .lload_n 1, 185, 0, 0), (185, .lload_n 3, 186, 0, 0), (186, .lcmp, 187, 0, 0), (187, .ifCond .ne 7, 190, 194, 0), (190, .lconst 1, 191, 0, 0), (191, .goto 4, 194, 195, 0)],
  [(194, .lconst 0, 195, 0, 0), (195, .lreturn, 196, 0, 0), (196, .lload_n 1, 197, 0, 0), (197, .lload_n 3, 198, 0, 0), (198, .lcmp, 199, 0, 0), (199, .ifCond .eq 7, 202, 206, 0), (202, .lconst 1, 203, 0, 0), (203, .goto 4, 206, 207, 0), (206, .lconst 0, 207, 0, 0), (207, .lreturn, 208, 0, 0)],
  [(208, .lload_n 1, 209, 0, 0), (209, .lconst 0, 210, 0, 0), (210, .lcmp, 211, 0, 0), (211, .ifCond .eq 13, 214, 224, 0), (214, .lload_n 3, 215, 0, 0), (215, .lconst 0, 216, 0, 0), (216, .lcmp, 217, 0, 0), (217, .ifCond .eq 7, 220, 224, 0), (220, .lconst 1, 221, 0, 0), (221, .goto 4, 224, 225, 0)],
  [(224, .lconst 0, 225, 0, 0), (225, .lreturn, 226, 0, 0), (226, .lload_n 1, 227, 0, 0), (227, .lconst 0, 228, 0, 0), (228, .lcmp, 229, 0, 0), (229, .ifCond .ne 9, 232, 238, 0), (232, .lload_n 3, 233, 0, 0), (233, .lconst 0, 234, 0, 0), (234, .lcmp, 235, 0, 0), (235, .ifCond .eq 7, 238, 242, 0), (238, .lconst 1, 239, 0, 0), (239, .goto 4, 242, 243, 0)],
  [(242, .lconst 0, 243, 0, 0), (243, .lreturn, 244, 0, 0)]]
def cd69 : List (List cEn) := [[(0, .aload_n 0, 1, 0, 0), (1, .iconst 0, 2, 0, 0), (2, .putfield 31, 5, 3, 6), (5, .aload_n 0, 6, 0, 0), (6, .iconst (-1), 7, 0, 0), (7, .putfield 34, 10, 3, 7), (10, .aload_n 0, 11, 0, 0), (11, .iconst 0, 12, 0, 0), (12, .putfield 25, 15, 3, 4), (15, .aload_n 3, 16, 0, 0)],
  [(16, .invokevirtual 37, 19, 102, 0), (19, .aload_n 0, 20, 0, 0), (20, .aload_n 1, 21, 0, 0), (21, .iload_n 2, 22, 0, 0), (22, .aload_n 1, 23, 0, 0), (23, .arraylength, 24, 0, 0), (24, .invokestatic 42, 27, 1004, 0), (27, .invokevirtual 48, 30, 70, 0), (30, .iconst 0, 31, 0, 0), (31, .istore 4, 33, 0, 0)],
  [(33, .iload 4, 35, 0, 0), (35, .bipush 24, 37, 0, 0), (37, .if_icmp .gt 27, 40, 64, 0), (40, .aload_n 0, 41, 0, 0), (41, .invokevirtual 52, 44, 79, 0), (44, .bipush 48, 46, 0, 0), (46, .if_icmp .eq 11, 49, 57, 0)],
  [(49, .aload_n 0, 50, 0, 0), (50, .aload_n 3, 51, 0, 0), (51, .invokevirtual 58, 54, 82, 0), (54, .ifCond .ne 4, 57, 58, 0), (57, .return_, 58, 0, 0), (58, .iinc 4 1, 61, 0, 0), (61, .goto (-28), 64, 33, 0)],
  [(64, .return_, 65, 0, 0)]]
def cd70 : List (List cEn) := [[(0, .aload_n 0, 1, 0, 0), (1, .iconst 0, 2, 0, 0), (2, .putfield 21, 5, 3, 3), (5, .iconst 0, 6, 0, 0), (6, .istore_n 3, 7, 0, 0), (7, .iconst 0, 8, 0, 0), (8, .istore 4, 10, 0, 0), (10, .iload 4, 12, 0, 0), (12, .sipush 300, 15, 0, 0), (15, .if_icmp .ge 196, 18, 211, 0)],
  [(18, .iload_n 3, 19, 0, 0), (19, .iload_n 2, 20, 0, 0), (20, .if_icmp .ge 191, 23, 211, 0), (23, .aload_n 1, 24, 0, 0), (24, .iload_n 3, 25, 0, 0), (25, .baload, 26, 0, 0), (26, .istore 5, 28, 0, 0), (28, .iload 5, 30, 0, 0), (30, .bipush 32, 32, 0, 0)],
  [(32, .if_icmp .eq 10, 35, 42, 0), (35, .iload 5, 37, 0, 0), (37, .bipush 10, 39, 0, 0), (39, .if_icmp .ne 9, 42, 48, 0), (42, .iinc 3 1, 45, 0, 0), (45, .goto 160, 48, 205, 0)],
  [(48, .iload 5, 50, 0, 0), (50, .invokestatic 62, 53, 72, 0), (53, .ifCond .eq 31, 56, 84, 0), (56, .aload_n 1, 57, 0, 0), (57, .iload_n 3, 58, 0, 0), (58, .iload_n 2, 59, 0, 0), (59, .iconst 0, 60, 0, 0), (60, .invokestatic 66, 63, 74, 0), (63, .istore 6, 65, 0, 0)],
  [(65, .aload_n 0, 66, 0, 0), (66, .aload_n 1, 67, 0, 0), (67, .iload_n 3, 68, 0, 0), (68, .iload 6, 70, 0, 0), (70, .invokestatic 70, 73, 76, 0), (73, .iload_n 3, 74, 0, 0), (74, .iconst 0, 75, 0, 0), (75, .invokevirtual 74, 78, 71, 0), (78, .iload 6, 80, 0, 0)],
  [(80, .istore_n 3, 81, 0, 0), (81, .goto 124, 84, 205, 0), (84, .iload 5, 86, 0, 0), (86, .invokestatic 78, 89, 73, 0), (89, .ifCond .eq 32, 92, 121, 0), (92, .aload_n 1, 93, 0, 0), (93, .iload_n 3, 94, 0, 0), (94, .iload_n 2, 95, 0, 0), (95, .iconst 1, 96, 0, 0)],
  [(96, .invokestatic 66, 99, 74, 0), (99, .istore 6, 101, 0, 0), (101, .aload_n 0, 102, 0, 0), (102, .bipush 46, 104, 0, 0), (104, .iload_n 3, 105, 0, 0), (105, .aload_n 1, 106, 0, 0), (106, .iload_n 3, 107, 0, 0), (107, .iload 6, 109, 0, 0), (109, .invokestatic 81, 112, 75, 0)],
  [(112, .invokevirtual 74, 115, 71, 0), (115, .iload 6, 117, 0, 0), (117, .istore_n 3, 118, 0, 0), (118, .goto 87, 121, 205, 0), (121, .iload_n 3, 122, 0, 0), (122, .iconst 1, 123, 0, 0), (123, .iadd, 124, 0, 0), (124, .iload_n 2, 125, 0, 0), (125, .if_icmp .ge 31, 128, 156, 0)],
  [(128, .aload_n 1, 129, 0, 0), (129, .iload_n 3, 130, 0, 0), (130, .iconst 1, 131, 0, 0), (131, .iadd, 132, 0, 0), (132, .baload, 133, 0, 0), (133, .bipush 61, 135, 0, 0), (135, .if_icmp .ne 21, 138, 156, 0), (138, .iload 5, 140, 0, 0), (140, .bipush 60, 142, 0, 0), (142, .if_icmp .eq 10, 145, 152, 0)],
  [(145, .iload 5, 147, 0, 0), (147, .bipush 62, 149, 0, 0), (149, .if_icmp .ne 7, 152, 156, 0), (152, .iconst 1, 153, 0, 0), (153, .goto 4, 156, 157, 0), (156, .iconst 0, 157, 0, 0), (157, .istore 6, 159, 0, 0), (159, .aload_n 0, 160, 0, 0)],
  [(160, .iload 6, 162, 0, 0), (162, .ifCond .eq 20, 165, 182, 0), (165, .iload 5, 167, 0, 0), (167, .bipush 60, 169, 0, 0), (169, .if_icmp .ne 8, 172, 177, 0), (172, .bipush 34, 174, 0, 0), (174, .goto 13, 177, 187, 0)],
  [(177, .bipush 36, 179, 0, 0), (179, .goto 8, 182, 187, 0), (182, .iload 5, 184, 0, 0), (184, .invokestatic 84, 187, 78, 0), (187, .iload_n 3, 188, 0, 0), (188, .iconst 0, 189, 0, 0), (189, .invokevirtual 74, 192, 71, 0)],
  [(192, .iload_n 3, 193, 0, 0), (193, .iload 6, 195, 0, 0), (195, .ifCond .eq 7, 198, 202, 0), (198, .iconst 2, 199, 0, 0), (199, .goto 4, 202, 203, 0), (202, .iconst 1, 203, 0, 0), (203, .iadd, 204, 0, 0), (204, .istore_n 3, 205, 0, 0), (205, .iinc 4 1, 208, 0, 0)],
  [(208, .goto (-198), 211, 10, 0), (211, .aload_n 0, 212, 0, 0), (212, .bipush 48, 214, 0, 0), (214, .iload_n 2, 215, 0, 0), (215, .iconst 0, 216, 0, 0), (216, .invokevirtual 74, 219, 71, 0), (219, .return_, 220, 0, 0)]]
def cd71 : List (List cEn) := [[(0, .aload_n 0, 1, 0, 0), (1, .getfield 21, 4, 3, 3), (4, .aload_n 0, 5, 0, 0), (5, .getfield 9, 8, 3, 0), (8, .arraylength, 9, 0, 0), (9, .if_icmp .ge 43, 12, 52, 0), (12, .aload_n 0, 13, 0, 0), (13, .getfield 9, 16, 3, 0)],
  [(16, .aload_n 0, 17, 0, 0), (17, .getfield 21, 20, 3, 3), (20, .iload_n 1, 21, 0, 0), (21, .iastore, 22, 0, 0), (22, .aload_n 0, 23, 0, 0), (23, .getfield 15, 26, 3, 1), (26, .aload_n 0, 27, 0, 0), (27, .getfield 21, 30, 3, 3), (30, .iload_n 2, 31, 0, 0), (31, .iastore, 32, 0, 0)],
  [(32, .aload_n 0, 33, 0, 0), (33, .getfield 18, 36, 3, 2), (36, .aload_n 0, 37, 0, 0), (37, .getfield 21, 40, 3, 3), (40, .iload_n 3, 41, 0, 0), (41, .iastore, 42, 0, 0), (42, .aload_n 0, 43, 0, 0), (43, .dup, 44, 0, 0), (44, .getfield 21, 47, 3, 3), (47, .iconst 1, 48, 0, 0)],
  [(48, .iadd, 49, 0, 0), (49, .putfield 21, 52, 3, 3), (52, .return_, 53, 0, 0)]]
def cd72 : List (List cEn) := [[(0, .iload_n 0, 1, 0, 0), (1, .bipush 97, 3, 0, 0), (3, .if_icmp .lt 9, 6, 12, 0), (6, .iload_n 0, 7, 0, 0), (7, .bipush 122, 9, 0, 0), (9, .if_icmp .le 15, 12, 24, 0), (12, .iload_n 0, 13, 0, 0), (13, .bipush 65, 15, 0, 0), (15, .if_icmp .lt 13, 18, 28, 0)],
  [(18, .iload_n 0, 19, 0, 0), (19, .bipush 90, 21, 0, 0), (21, .if_icmp .gt 7, 24, 28, 0), (24, .iconst 1, 25, 0, 0), (25, .goto 4, 28, 29, 0), (28, .iconst 0, 29, 0, 0), (29, .ireturn, 30, 0, 0)]]
def cd73 : List (List cEn) := [[(0, .iload_n 0, 1, 0, 0), (1, .bipush 48, 3, 0, 0), (3, .if_icmp .lt 13, 6, 16, 0), (6, .iload_n 0, 7, 0, 0), (7, .bipush 57, 9, 0, 0), (9, .if_icmp .gt 7, 12, 16, 0), (12, .iconst 1, 13, 0, 0), (13, .goto 4, 16, 17, 0)],
  [(16, .iconst 0, 17, 0, 0), (17, .ireturn, 18, 0, 0)]]
def cd74 : List (List cEn) := [[(0, .iload_n 1, 1, 0, 0), (1, .istore 4, 3, 0, 0), (3, .iload 4, 5, 0, 0), (5, .iload_n 2, 6, 0, 0), (6, .if_icmp .ge 39, 9, 45, 0), (9, .iload_n 3, 10, 0, 0), (10, .ifCond .eq 16, 13, 26, 0), (13, .aload_n 0, 14, 0, 0), (14, .iload 4, 16, 0, 0)],
  [(16, .baload, 17, 0, 0), (17, .invokestatic 78, 20, 73, 0), (20, .ifCond .ne 19, 23, 39, 0), (23, .goto 13, 26, 36, 0), (26, .aload_n 0, 27, 0, 0), (27, .iload 4, 29, 0, 0), (29, .baload, 30, 0, 0), (30, .invokestatic 62, 33, 72, 0)],
  [(33, .ifCond .ne 6, 36, 39, 0), (36, .iload 4, 38, 0, 0), (38, .ireturn, 39, 0, 0), (39, .iinc 4 1, 42, 0, 0), (42, .goto (-39), 45, 3, 0), (45, .iload_n 2, 46, 0, 0), (46, .ireturn, 47, 0, 0)]]
def cd75 : List (List cEn) := [[(0, .iconst 0, 1, 0, 0), (1, .istore_n 3, 2, 0, 0), (2, .iload_n 1, 3, 0, 0), (3, .istore 4, 5, 0, 0), (5, .iload 4, 7, 0, 0), (7, .iload_n 2, 8, 0, 0), (8, .if_icmp .ge 28, 11, 36, 0), (11, .sipush 10000, 14, 0, 0), (14, .iload_n 3, 15, 0, 0), (15, .bipush 10, 17, 0, 0)],
  [(17, .imul, 18, 0, 0), (18, .aload_n 0, 19, 0, 0), (19, .iload 4, 21, 0, 0), (21, .baload, 22, 0, 0), (22, .iadd, 23, 0, 0), (23, .bipush 48, 25, 0, 0), (25, .isub, 26, 0, 0), (26, .invokestatic 42, 29, 1004, 0), (29, .istore_n 3, 30, 0, 0), (30, .iinc 4 1, 33, 0, 0)],
  [(33, .goto (-28), 36, 5, 0), (36, .iload_n 3, 37, 0, 0), (37, .ireturn, 38, 0, 0)]]
def cd76 : List (List cEn) := [[(0, .iconst 0, 1, 0, 0), (1, .istore_n 3, 2, 0, 0), (2, .iconst 0, 3, 0, 0), (3, .istore 4, 5, 0, 0), (5, .iconst 0, 6, 0, 0), (6, .istore 5, 8, 0, 0), (8, .iload 5, 10, 0, 0), (10, .ldc 88, 12, 1, 0), (12, .invokevirtual 90, 15, 1001, 0), (15, .if_icmp .ge 54, 18, 69, 0)],
  [(18, .ldc 88, 20, 1, 0), (20, .iload 5, 22, 0, 0), (22, .invokevirtual 95, 25, 1002, 0), (25, .bipush 32, 27, 0, 0), (27, .if_icmp .ne 36, 30, 63, 0), (30, .iload 5, 32, 0, 0)],
  [(32, .iload 4, 34, 0, 0), (34, .isub, 35, 0, 0), (35, .iload_n 2, 36, 0, 0), (36, .iload_n 1, 37, 0, 0), (37, .isub, 38, 0, 0), (38, .if_icmp .ne 16, 41, 54, 0), (41, .aload_n 0, 42, 0, 0), (42, .iload_n 1, 43, 0, 0), (43, .iload_n 2, 44, 0, 0), (44, .iload 4, 46, 0, 0), (46, .invokestatic 99, 49, 77, 0)],
  [(49, .ifCond .eq 5, 52, 54, 0), (52, .iload_n 3, 53, 0, 0), (53, .ireturn, 54, 0, 0), (54, .iinc 3 1, 57, 0, 0), (57, .iload 5, 59, 0, 0), (59, .iconst 1, 60, 0, 0), (60, .iadd, 61, 0, 0), (61, .istore 4, 63, 0, 0), (63, .iinc 5 1, 66, 0, 0)],
  [(66, .goto (-58), 69, 8, 0), (69, .bipush 32, 71, 0, 0), (71, .ireturn, 72, 0, 0)]]
def cd77 : List (List cEn) := [[(0, .iload_n 1, 1, 0, 0), (1, .istore 4, 3, 0, 0), (3, .iload 4, 5, 0, 0), (5, .iload_n 2, 6, 0, 0), (6, .if_icmp .ge 29, 9, 35, 0), (9, .aload_n 0, 10, 0, 0), (10, .iload 4, 12, 0, 0), (12, .baload, 13, 0, 0), (13, .ldc 88, 15, 1, 0), (15, .iload_n 3, 16, 0, 0)],
  [(16, .iload 4, 18, 0, 0), (18, .iadd, 19, 0, 0), (19, .iload_n 1, 20, 0, 0), (20, .isub, 21, 0, 0), (21, .invokevirtual 95, 24, 1002, 0), (24, .if_icmp .eq 5, 27, 29, 0), (27, .iconst 0, 28, 0, 0), (28, .ireturn, 29, 0, 0), (29, .iinc 4 1, 32, 0, 0)],
  [(32, .goto (-29), 35, 3, 0), (35, .iconst 1, 36, 0, 0), (36, .ireturn, 37, 0, 0)]]
def cd78 : List (List cEn) := [[(0, .iload_n 0, 1, 0, 0), (1, .tableswitch 160 35 62 #[136, 160, 160, 160, 160, 151, 154, 145, 139, 160, 142, 160, 148, 160, 160, 160, 160, 160, 160, 160, 160, 160, 160, 160, 157, 127, 133, 130], 128, 4, 0)],
  [],
  [],
  [],
  [],
  [],
  [],
  [],
  [(128, .bipush 33, 130, 0, 0), (130, .ireturn, 131, 0, 0), (131, .bipush 35, 133, 0, 0), (133, .ireturn, 134, 0, 0), (134, .bipush 37, 136, 0, 0), (136, .ireturn, 137, 0, 0), (137, .bipush 38, 139, 0, 0), (139, .ireturn, 140, 0, 0), (140, .bipush 39, 142, 0, 0), (142, .ireturn, 143, 0, 0), (143, .bipush 40, 145, 0, 0)],
  [(145, .ireturn, 146, 0, 0), (146, .bipush 41, 148, 0, 0), (148, .ireturn, 149, 0, 0), (149, .bipush 42, 151, 0, 0), (151, .ireturn, 152, 0, 0), (152, .bipush 43, 154, 0, 0), (154, .ireturn, 155, 0, 0), (155, .bipush 44, 157, 0, 0), (157, .ireturn, 158, 0, 0), (158, .bipush 45, 160, 0, 0)],
  [(160, .ireturn, 161, 0, 0), (161, .bipush 47, 163, 0, 0), (163, .ireturn, 164, 0, 0)]]
def cd79 : List (List cEn) := [[(0, .aload_n 0, 1, 0, 0), (1, .getfield 25, 4, 3, 4), (4, .aload_n 0, 5, 0, 0), (5, .getfield 21, 8, 3, 3), (8, .if_icmp .ge 15, 11, 23, 0), (11, .aload_n 0, 12, 0, 0), (12, .getfield 9, 15, 3, 0), (15, .aload_n 0, 16, 0, 0)],
  [(16, .getfield 25, 19, 3, 4), (19, .iaload, 20, 0, 0), (20, .goto 5, 23, 25, 0), (23, .bipush 48, 25, 0, 0), (25, .ireturn, 26, 0, 0)]]
end
section
def cd80 : List (List cEn) := [[(0, .aload_n 0, 1, 0, 0), (1, .getfield 31, 4, 3, 6), (4, .ifCond .ne 32, 7, 36, 0), (7, .aload_n 0, 8, 0, 0), (8, .getfield 25, 11, 3, 4), (11, .aload_n 0, 12, 0, 0), (12, .getfield 21, 15, 3, 3), (15, .if_icmp .ge 21, 18, 36, 0)],
  [(18, .aload_n 0, 19, 0, 0), (19, .iload_n 1, 20, 0, 0), (20, .putfield 31, 23, 3, 6), (23, .aload_n 0, 24, 0, 0), (24, .aload_n 0, 25, 0, 0), (25, .getfield 15, 28, 3, 1), (28, .aload_n 0, 29, 0, 0), (29, .getfield 25, 32, 3, 4)],
  [(32, .iaload, 33, 0, 0), (33, .putfield 34, 36, 3, 7), (36, .iconst 0, 37, 0, 0), (37, .ireturn, 38, 0, 0)]]
def cd81 : List (List cEn) := [[(0, .aload_n 0, 1, 0, 0), (1, .invokevirtual 52, 4, 79, 0), (4, .iload_n 1, 5, 0, 0), (5, .if_icmp .eq 9, 8, 14, 0), (8, .aload_n 0, 9, 0, 0), (9, .iconst 1, 10, 0, 0), (10, .invokevirtual 103, 13, 80, 0), (13, .ireturn, 14, 0, 0), (14, .aload_n 0, 15, 0, 0), (15, .dup, 16, 0, 0)],
  [(16, .getfield 25, 19, 3, 4), (19, .iconst 1, 20, 0, 0), (20, .iadd, 21, 0, 0), (21, .putfield 25, 24, 3, 4), (24, .iconst 1, 25, 0, 0), (25, .ireturn, 26, 0, 0)]]
def cd82 : List (List cEn) := [[(0, .aload_n 0, 1, 0, 0), (1, .invokevirtual 52, 4, 79, 0), (4, .istore_n 2, 5, 0, 0), (5, .iload_n 2, 6, 0, 0), (6, .bipush 12, 8, 0, 0), (8, .if_icmp .le 9, 11, 17, 0), (11, .aload_n 0, 12, 0, 0), (12, .iconst 1, 13, 0, 0), (13, .invokevirtual 103, 16, 80, 0)],
  [(16, .ireturn, 17, 0, 0), (17, .iload_n 2, 18, 0, 0), (18, .iconst 2, 19, 0, 0), (19, .if_icmp .gt 19, 22, 38, 0), (22, .aload_n 1, 23, 0, 0), (23, .getfield 106, 26, 6, 3), (26, .iload_n 2, 27, 0, 0), (27, .iaload, 28, 0, 0), (28, .iconst (-1), 29, 0, 0), (29, .if_icmp .eq 9, 32, 38, 0)],
  [(32, .aload_n 0, 33, 0, 0), (33, .iconst 4, 34, 0, 0), (34, .invokevirtual 103, 37, 80, 0), (37, .ireturn, 38, 0, 0), (38, .aload_n 1, 39, 0, 0), (39, .getfield 109, 42, 6, 5), (42, .bipush 24, 44, 0, 0), (44, .if_icmp .lt 10, 47, 54, 0), (47, .aload_n 0, 48, 0, 0)],
  [(48, .bipush 6, 50, 0, 0), (50, .invokevirtual 103, 53, 80, 0), (53, .ireturn, 54, 0, 0), (54, .aload_n 0, 55, 0, 0), (55, .dup, 56, 0, 0), (56, .getfield 25, 59, 3, 4), (59, .iconst 1, 60, 0, 0), (60, .iadd, 61, 0, 0), (61, .putfield 25, 64, 3, 4)],
  [(64, .aload_n 1, 65, 0, 0), (65, .iconst 0, 66, 0, 0), (66, .iload_n 2, 67, 0, 0), (67, .invokevirtual 112, 70, 104, 0), (70, .iload_n 2, 71, 0, 0), (71, .iconst 2, 72, 0, 0), (72, .if_icmp .gt 15, 75, 87, 0), (75, .aload_n 0, 76, 0, 0), (76, .iload_n 2, 77, 0, 0), (77, .aload_n 1, 78, 0, 0), (78, .invokevirtual 116, 81, 83, 0)],
  [(81, .ifCond .eq 24, 84, 105, 0), (84, .goto 12, 87, 96, 0), (87, .aload_n 0, 88, 0, 0), (88, .iload_n 2, 89, 0, 0), (89, .aload_n 1, 90, 0, 0), (90, .invokevirtual 120, 93, 84, 0), (93, .ifCond .eq 12, 96, 105, 0)],
  [(96, .aload_n 0, 97, 0, 0), (97, .bipush 45, 99, 0, 0), (99, .invokevirtual 123, 102, 81, 0), (102, .ifCond .ne 5, 105, 107, 0), (105, .iconst 0, 106, 0, 0), (106, .ireturn, 107, 0, 0), (107, .aload_n 1, 108, 0, 0), (108, .dup, 109, 0, 0), (109, .getfield 109, 112, 6, 5)],
  [(112, .iconst 1, 113, 0, 0), (113, .iadd, 114, 0, 0), (114, .putfield 109, 117, 6, 5), (117, .iconst 1, 118, 0, 0), (118, .ireturn, 119, 0, 0)]]
def cd83 : List (List cEn) := [[(0, .aload_n 0, 1, 0, 0), (1, .iload_n 1, 2, 0, 0), (2, .putfield 28, 5, 3, 5), (5, .aload_n 2, 6, 0, 0), (6, .getfield 106, 9, 6, 3), (9, .iload_n 1, 10, 0, 0), (10, .aload_n 2, 11, 0, 0), (11, .getfield 126, 14, 6, 6), (14, .iastore, 15, 0, 0), (15, .aload_n 0, 16, 0, 0)],
  [(16, .iconst 0, 17, 0, 0), (17, .aload_n 2, 18, 0, 0), (18, .invokevirtual 129, 21, 86, 0), (21, .ifCond .ne 5, 24, 26, 0), (24, .iconst 0, 25, 0, 0), (25, .ireturn, 26, 0, 0), (26, .aload_n 2, 27, 0, 0), (27, .getfield 132, 30, 6, 4), (30, .iload_n 1, 31, 0, 0), (31, .aload_n 2, 32, 0, 0)],
  [(32, .getfield 126, 35, 6, 6), (35, .iastore, 36, 0, 0), (36, .iconst 1, 37, 0, 0), (37, .ireturn, 38, 0, 0)]]
def cd84 : List (List cEn) := [[(0, .iload_n 1, 1, 0, 0), (1, .tableswitch 311 3 11 #[51, 111, 149, 159, 217, 159, 255, 292, 301], 52, 5, 0)],
  [],
  [],
  [(52, .aload_n 0, 53, 0, 0), (53, .iconst 1, 54, 0, 0), (54, .iconst 0, 55, 0, 0), (55, .iconst 2, 56, 0, 0), (56, .aload_n 2, 57, 0, 0), (57, .invokevirtual 135, 60, 85, 0), (60, .ifCond .eq 50, 63, 110, 0), (63, .aload_n 0, 64, 0, 0)],
  [(64, .bipush 15, 66, 0, 0), (66, .invokevirtual 123, 69, 81, 0), (69, .ifCond .eq 41, 72, 110, 0), (72, .aload_n 0, 73, 0, 0), (73, .iconst 2, 74, 0, 0), (74, .iconst 0, 75, 0, 0), (75, .bipush 9, 77, 0, 0), (77, .aload_n 2, 78, 0, 0), (78, .invokevirtual 135, 81, 85, 0)],
  [(81, .ifCond .eq 29, 84, 110, 0), (84, .aload_n 0, 85, 0, 0), (85, .bipush 19, 87, 0, 0), (87, .invokevirtual 123, 90, 81, 0), (90, .ifCond .eq 20, 93, 110, 0), (93, .aload_n 0, 94, 0, 0), (94, .iconst 3, 95, 0, 0), (95, .iconst 0, 96, 0, 0)],
  [(96, .sipush 9999, 99, 0, 0), (99, .aload_n 2, 100, 0, 0), (100, .invokevirtual 135, 103, 85, 0), (103, .ifCond .eq 7, 106, 110, 0), (106, .iconst 1, 107, 0, 0), (107, .goto 4, 110, 111, 0), (110, .iconst 0, 111, 0, 0), (111, .ireturn, 112, 0, 0)],
  [(112, .aload_n 0, 113, 0, 0), (113, .iconst 1, 114, 0, 0), (114, .iconst 0, 115, 0, 0), (115, .bipush 9, 117, 0, 0), (117, .aload_n 2, 118, 0, 0), (118, .invokevirtual 135, 121, 85, 0), (121, .ifCond .eq 27, 124, 148, 0), (124, .aload_n 0, 125, 0, 0), (125, .bipush 21, 127, 0, 0), (127, .invokevirtual 123, 130, 81, 0)],
  [(130, .ifCond .eq 18, 133, 148, 0), (133, .aload_n 0, 134, 0, 0), (134, .iconst 2, 135, 0, 0), (135, .iconst 0, 136, 0, 0), (136, .iconst 2, 137, 0, 0), (137, .aload_n 2, 138, 0, 0), (138, .invokevirtual 135, 141, 85, 0), (141, .ifCond .eq 7, 144, 148, 0)],
  [(144, .iconst 1, 145, 0, 0), (145, .goto 4, 148, 149, 0), (148, .iconst 0, 149, 0, 0), (149, .ireturn, 150, 0, 0), (150, .aload_n 0, 151, 0, 0), (151, .iconst 1, 152, 0, 0), (152, .iconst 1, 153, 0, 0), (153, .bipush 99, 155, 0, 0), (155, .aload_n 2, 156, 0, 0), (156, .invokevirtual 135, 159, 85, 0), (159, .ireturn, 160, 0, 0)],
  [(160, .aload_n 0, 161, 0, 0), (161, .iconst 1, 162, 0, 0), (162, .iconst 1, 163, 0, 0), (163, .bipush 99, 165, 0, 0), (165, .aload_n 2, 166, 0, 0), (166, .invokevirtual 135, 169, 85, 0), (169, .ifCond .eq 47, 172, 216, 0), (172, .aload_n 0, 173, 0, 0), (173, .bipush 21, 175, 0, 0), (175, .invokevirtual 123, 178, 81, 0)],
  [(178, .ifCond .eq 38, 181, 216, 0), (181, .aload_n 0, 182, 0, 0), (182, .iconst 2, 183, 0, 0), (183, .iconst 0, 184, 0, 0), (184, .iconst 2, 185, 0, 0), (185, .aload_n 2, 186, 0, 0), (186, .invokevirtual 135, 189, 85, 0), (189, .ifCond .eq 27, 192, 216, 0)],
  [(192, .aload_n 0, 193, 0, 0), (193, .bipush 22, 195, 0, 0), (195, .invokevirtual 123, 198, 81, 0), (198, .ifCond .eq 18, 201, 216, 0), (201, .aload_n 0, 202, 0, 0), (202, .iconst 3, 203, 0, 0), (203, .iconst 0, 204, 0, 0), (204, .iconst 5, 205, 0, 0), (205, .aload_n 2, 206, 0, 0), (206, .invokevirtual 135, 209, 85, 0)],
  [(209, .ifCond .eq 7, 212, 216, 0), (212, .iconst 1, 213, 0, 0), (213, .goto 4, 216, 217, 0), (216, .iconst 0, 217, 0, 0), (217, .ireturn, 218, 0, 0), (218, .aload_n 0, 219, 0, 0), (219, .iconst 1, 220, 0, 0), (220, .iconst 1, 221, 0, 0), (221, .bipush 99, 223, 0, 0), (223, .aload_n 2, 224, 0, 0)],
  [(224, .invokevirtual 135, 227, 85, 0), (227, .ifCond .eq 27, 230, 254, 0), (230, .aload_n 0, 231, 0, 0), (231, .bipush 22, 233, 0, 0), (233, .invokevirtual 123, 236, 81, 0), (236, .ifCond .eq 18, 239, 254, 0), (239, .aload_n 0, 240, 0, 0)],
  [(240, .iconst 2, 241, 0, 0), (241, .iconst 0, 242, 0, 0), (242, .iconst 5, 243, 0, 0), (243, .aload_n 2, 244, 0, 0), (244, .invokevirtual 135, 247, 85, 0), (247, .ifCond .eq 7, 250, 254, 0), (250, .iconst 1, 251, 0, 0), (251, .goto 4, 254, 255, 0), (254, .iconst 0, 255, 0, 0), (255, .ireturn, 256, 0, 0)],
  [(256, .aload_n 0, 257, 0, 0), (257, .iconst 1, 258, 0, 0), (258, .iconst 0, 259, 0, 0), (259, .iconst 5, 260, 0, 0), (260, .aload_n 2, 261, 0, 0), (261, .invokevirtual 135, 264, 85, 0), (264, .ifCond .eq 27, 267, 291, 0), (267, .aload_n 0, 268, 0, 0), (268, .bipush 21, 270, 0, 0), (270, .invokevirtual 123, 273, 81, 0)],
  [(273, .ifCond .eq 18, 276, 291, 0), (276, .aload_n 0, 277, 0, 0), (277, .iconst 2, 278, 0, 0), (278, .iconst 0, 279, 0, 0), (279, .iconst 2, 280, 0, 0), (280, .aload_n 2, 281, 0, 0), (281, .invokevirtual 135, 284, 85, 0), (284, .ifCond .eq 7, 287, 291, 0), (287, .iconst 1, 288, 0, 0)],
  [(288, .goto 4, 291, 292, 0), (291, .iconst 0, 292, 0, 0), (292, .ireturn, 293, 0, 0), (293, .aload_n 0, 294, 0, 0), (294, .iconst 1, 295, 0, 0), (295, .iconst 0, 296, 0, 0), (296, .iconst 5, 297, 0, 0), (297, .aload_n 2, 298, 0, 0), (298, .invokevirtual 135, 301, 85, 0), (301, .ireturn, 302, 0, 0), (302, .aload_n 0, 303, 0, 0), (303, .iconst 1, 304, 0, 0)],
  [(304, .iconst 1, 305, 0, 0), (305, .bipush 99, 307, 0, 0), (307, .aload_n 2, 308, 0, 0), (308, .invokevirtual 135, 311, 85, 0), (311, .ireturn, 312, 0, 0), (312, .aload_n 0, 313, 0, 0), (313, .iconst 1, 314, 0, 0), (314, .iconst 1, 315, 0, 0), (315, .bipush 60, 317, 0, 0), (317, .aload_n 2, 318, 0, 0), (318, .invokevirtual 135, 321, 85, 0)],
  [(321, .ireturn, 322, 0, 0)]]
def cd85 : List (List cEn) := [[(0, .aload_n 0, 1, 0, 0), (1, .invokevirtual 52, 4, 79, 0), (4, .bipush 46, 6, 0, 0), (6, .if_icmp .eq 9, 9, 15, 0), (9, .aload_n 0, 10, 0, 0), (10, .iconst 1, 11, 0, 0), (11, .invokevirtual 103, 14, 80, 0), (14, .ireturn, 15, 0, 0), (15, .aload_n 0, 16, 0, 0)],
  [(16, .getfield 18, 19, 3, 2), (19, .aload_n 0, 20, 0, 0), (20, .getfield 25, 23, 3, 4), (23, .iaload, 24, 0, 0), (24, .istore 5, 26, 0, 0), (26, .iload 5, 28, 0, 0), (28, .iload_n 2, 29, 0, 0), (29, .if_icmp .lt 9, 32, 38, 0)],
  [(32, .iload 5, 34, 0, 0), (34, .iload_n 3, 35, 0, 0), (35, .if_icmp .le 9, 38, 44, 0), (38, .aload_n 0, 39, 0, 0), (39, .iconst 2, 40, 0, 0), (40, .invokevirtual 103, 43, 80, 0), (43, .ireturn, 44, 0, 0), (44, .aload 4, 46, 0, 0), (46, .iload_n 1, 47, 0, 0), (47, .iload 5, 49, 0, 0)],
  [(49, .invokevirtual 112, 52, 104, 0), (52, .aload_n 0, 53, 0, 0), (53, .dup, 54, 0, 0), (54, .getfield 25, 57, 3, 4), (57, .iconst 1, 58, 0, 0), (58, .iadd, 59, 0, 0), (59, .putfield 25, 62, 3, 4), (62, .iconst 1, 63, 0, 0), (63, .ireturn, 64, 0, 0)]]
def cd86 : List (List cEn) := [[(0, .aload_n 0, 1, 0, 0), (1, .iload_n 1, 2, 0, 0), (2, .aload_n 2, 3, 0, 0), (3, .invokevirtual 139, 6, 87, 0), (6, .ifCond .ne 5, 9, 11, 0), (9, .iconst 0, 10, 0, 0), (10, .ireturn, 11, 0, 0), (11, .iconst 0, 12, 0, 0), (12, .istore_n 3, 13, 0, 0), (13, .iload_n 3, 14, 0, 0), (14, .sipush 300, 17, 0, 0)],
  [(17, .if_icmp .ge 60, 20, 77, 0), (20, .aload_n 0, 21, 0, 0), (21, .invokevirtual 52, 24, 79, 0), (24, .istore 4, 26, 0, 0), (26, .iload 4, 28, 0, 0), (28, .bipush 39, 30, 0, 0), (30, .if_icmp .eq 12, 33, 42, 0)],
  [(33, .iload 4, 35, 0, 0), (35, .bipush 40, 37, 0, 0), (37, .if_icmp .eq 5, 40, 42, 0), (40, .iconst 1, 41, 0, 0), (41, .ireturn, 42, 0, 0), (42, .aload_n 0, 43, 0, 0), (43, .dup, 44, 0, 0), (44, .getfield 25, 47, 3, 4), (47, .iconst 1, 48, 0, 0)],
  [(48, .iadd, 49, 0, 0), (49, .putfield 25, 52, 3, 4), (52, .aload_n 0, 53, 0, 0), (53, .iload_n 1, 54, 0, 0), (54, .aload_n 2, 55, 0, 0), (55, .invokevirtual 139, 58, 87, 0), (58, .ifCond .ne 5, 61, 63, 0), (61, .iconst 0, 62, 0, 0), (62, .ireturn, 63, 0, 0), (63, .aload_n 2, 64, 0, 0)],
  [(64, .iload 4, 66, 0, 0), (66, .iconst 0, 67, 0, 0), (67, .invokevirtual 142, 70, 105, 0), (70, .pop, 71, 0, 0), (71, .iinc 3 1, 74, 0, 0), (74, .goto (-61), 77, 13, 0), (77, .iconst 1, 78, 0, 0), (78, .ireturn, 79, 0, 0)]]
def cd87 : List (List cEn) := [[(0, .aload_n 0, 1, 0, 0), (1, .iload_n 1, 2, 0, 0), (2, .aload_n 2, 3, 0, 0), (3, .invokevirtual 145, 6, 88, 0), (6, .ifCond .ne 5, 9, 11, 0), (9, .iconst 0, 10, 0, 0), (10, .ireturn, 11, 0, 0), (11, .iconst 0, 12, 0, 0), (12, .istore_n 3, 13, 0, 0), (13, .iload_n 3, 14, 0, 0), (14, .sipush 300, 17, 0, 0)],
  [(17, .if_icmp .ge 60, 20, 77, 0), (20, .aload_n 0, 21, 0, 0), (21, .invokevirtual 52, 24, 79, 0), (24, .istore 4, 26, 0, 0), (26, .iload 4, 28, 0, 0), (28, .bipush 41, 30, 0, 0), (30, .if_icmp .eq 12, 33, 42, 0)],
  [(33, .iload 4, 35, 0, 0), (35, .bipush 42, 37, 0, 0), (37, .if_icmp .eq 5, 40, 42, 0), (40, .iconst 1, 41, 0, 0), (41, .ireturn, 42, 0, 0), (42, .aload_n 0, 43, 0, 0), (43, .dup, 44, 0, 0), (44, .getfield 25, 47, 3, 4), (47, .iconst 1, 48, 0, 0)],
  [(48, .iadd, 49, 0, 0), (49, .putfield 25, 52, 3, 4), (52, .aload_n 0, 53, 0, 0), (53, .iload_n 1, 54, 0, 0), (54, .aload_n 2, 55, 0, 0), (55, .invokevirtual 145, 58, 88, 0), (58, .ifCond .ne 5, 61, 63, 0), (61, .iconst 0, 62, 0, 0), (62, .ireturn, 63, 0, 0), (63, .aload_n 2, 64, 0, 0)],
  [(64, .iload 4, 66, 0, 0), (66, .iconst 0, 67, 0, 0), (67, .invokevirtual 142, 70, 105, 0), (70, .pop, 71, 0, 0), (71, .iinc 3 1, 74, 0, 0), (74, .goto (-61), 77, 13, 0), (77, .iconst 1, 78, 0, 0), (78, .ireturn, 79, 0, 0)]]
def cd88 : List (List cEn) := [[(0, .aload_n 0, 1, 0, 0), (1, .invokevirtual 52, 4, 79, 0), (4, .istore_n 3, 5, 0, 0), (5, .iload_n 3, 6, 0, 0), (6, .bipush 46, 8, 0, 0), (8, .if_icmp .ne 9, 11, 17, 0), (11, .aload_n 0, 12, 0, 0), (12, .aload_n 2, 13, 0, 0), (13, .invokevirtual 148, 16, 89, 0)],
  [(16, .ireturn, 17, 0, 0), (17, .iload_n 3, 18, 0, 0), (18, .bipush 12, 20, 0, 0), (20, .if_icmp .lt 16, 23, 36, 0), (23, .iload_n 3, 24, 0, 0), (24, .bipush 20, 26, 0, 0), (26, .if_icmp .gt 10, 29, 36, 0), (29, .aload_n 0, 30, 0, 0), (30, .iload_n 3, 31, 0, 0), (31, .aload_n 2, 32, 0, 0)],
  [(32, .invokevirtual 151, 35, 90, 0), (35, .ireturn, 36, 0, 0), (36, .iload_n 3, 37, 0, 0), (37, .bipush 43, 39, 0, 0), (39, .if_icmp .eq 27, 42, 66, 0), (42, .iload_n 3, 43, 0, 0), (43, .bipush 40, 45, 0, 0), (45, .if_icmp .eq 21, 48, 66, 0)],
  [(48, .iload_n 3, 49, 0, 0), (49, .bipush 23, 51, 0, 0), (51, .if_icmp .eq 15, 54, 66, 0), (54, .iload_n 3, 55, 0, 0), (55, .bipush 24, 57, 0, 0), (57, .if_icmp .eq 9, 60, 66, 0), (60, .iload_n 3, 61, 0, 0), (61, .bipush 25, 63, 0, 0), (63, .if_icmp .ne 7, 66, 70, 0)],
  [(66, .iconst 1, 67, 0, 0), (67, .goto 4, 70, 71, 0), (70, .iconst 0, 71, 0, 0), (71, .istore 4, 73, 0, 0), (73, .iload 4, 75, 0, 0), (75, .ifCond .ne 9, 78, 84, 0), (78, .aload_n 0, 79, 0, 0), (79, .iconst 1, 80, 0, 0)],
  [(80, .invokevirtual 103, 83, 80, 0), (83, .ireturn, 84, 0, 0), (84, .iload_n 1, 85, 0, 0), (85, .bipush 8, 87, 0, 0), (87, .if_icmp .lt 9, 90, 96, 0), (90, .aload_n 0, 91, 0, 0), (91, .iconst 3, 92, 0, 0), (92, .invokevirtual 103, 95, 80, 0), (95, .ireturn, 96, 0, 0)],
  [(96, .aload_n 0, 97, 0, 0), (97, .dup, 98, 0, 0), (98, .getfield 25, 101, 3, 4), (101, .iconst 1, 102, 0, 0), (102, .iadd, 103, 0, 0), (103, .putfield 25, 106, 3, 4), (106, .aload_n 0, 107, 0, 0), (107, .iload_n 3, 108, 0, 0), (108, .iload_n 1, 109, 0, 0), (109, .iconst 1, 110, 0, 0), (110, .iadd, 111, 0, 0), (111, .aload_n 2, 112, 0, 0)],
  [(112, .invokevirtual 154, 115, 91, 0), (115, .ireturn, 116, 0, 0)]]
def cd89 : List (List cEn) := [[(0, .aload_n 0, 1, 0, 0), (1, .getfield 18, 4, 3, 2), (4, .aload_n 0, 5, 0, 0), (5, .getfield 25, 8, 3, 4), (8, .iaload, 9, 0, 0), (9, .sipush 9999, 12, 0, 0), (12, .if_icmp .le 9, 15, 21, 0), (15, .aload_n 0, 16, 0, 0)],
  [(16, .iconst 2, 17, 0, 0), (17, .invokevirtual 103, 20, 80, 0), (20, .ireturn, 21, 0, 0), (21, .aload_n 1, 22, 0, 0), (22, .bipush 46, 24, 0, 0), (24, .aload_n 0, 25, 0, 0), (25, .getfield 18, 28, 3, 2), (28, .aload_n 0, 29, 0, 0), (29, .getfield 25, 32, 3, 4)],
  [(32, .iaload, 33, 0, 0), (33, .invokevirtual 142, 36, 105, 0), (36, .pop, 37, 0, 0), (37, .aload_n 0, 38, 0, 0), (38, .dup, 39, 0, 0), (39, .getfield 25, 42, 3, 4), (42, .iconst 1, 43, 0, 0), (43, .iadd, 44, 0, 0), (44, .putfield 25, 47, 3, 4), (47, .iconst 1, 48, 0, 0)],
  [(48, .ireturn, 49, 0, 0)]]
def cd90 : List (List cEn) := [[(0, .aload_n 0, 1, 0, 0), (1, .getfield 28, 4, 3, 5), (4, .ifCond .ne 21, 7, 25, 0), (7, .iload_n 1, 8, 0, 0), (8, .bipush 19, 10, 0, 0), (10, .if_icmp .eq 9, 13, 19, 0), (13, .iload_n 1, 14, 0, 0), (14, .bipush 20, 16, 0, 0)],
  [(16, .if_icmp .ne 9, 19, 25, 0), (19, .aload_n 0, 20, 0, 0), (20, .iconst 5, 21, 0, 0), (21, .invokevirtual 103, 24, 80, 0), (24, .ireturn, 25, 0, 0), (25, .aload_n 2, 26, 0, 0), (26, .bipush 49, 28, 0, 0), (28, .iload_n 1, 29, 0, 0), (29, .bipush 12, 31, 0, 0), (31, .isub, 32, 0, 0)],
  [(32, .invokevirtual 142, 35, 105, 0), (35, .pop, 36, 0, 0), (36, .aload_n 0, 37, 0, 0), (37, .dup, 38, 0, 0), (38, .getfield 25, 41, 3, 4), (41, .iconst 1, 42, 0, 0), (42, .iadd, 43, 0, 0), (43, .putfield 25, 46, 3, 4), (46, .iconst 1, 47, 0, 0), (47, .ireturn, 48, 0, 0)]]
def cd91 : List (List cEn) := [[(0, .iload_n 1, 1, 0, 0), (1, .lookupswitch 163 #[(23, 93), (24, 137), (40, 67), (43, 43)], 44, 6, 0)],
  [],
  [(44, .aload_n 0, 45, 0, 0), (45, .iload_n 2, 46, 0, 0), (46, .aload_n 3, 47, 0, 0), (47, .invokevirtual 129, 50, 86, 0)],
  [(50, .ifCond .eq 16, 53, 66, 0), (53, .aload_n 0, 54, 0, 0), (54, .bipush 44, 56, 0, 0), (56, .invokevirtual 123, 59, 81, 0), (59, .ifCond .eq 7, 62, 66, 0), (62, .iconst 1, 63, 0, 0), (63, .goto 4, 66, 67, 0)],
  [(66, .iconst 0, 67, 0, 0), (67, .ireturn, 68, 0, 0), (68, .aload_n 0, 69, 0, 0), (69, .iload_n 2, 70, 0, 0), (70, .aload_n 3, 71, 0, 0), (71, .invokevirtual 145, 74, 88, 0), (74, .ifCond .eq 18, 77, 92, 0), (77, .aload_n 3, 78, 0, 0), (78, .bipush 50, 80, 0, 0)],
  [(80, .iconst 0, 81, 0, 0), (81, .invokevirtual 142, 84, 105, 0), (84, .iconst (-1), 85, 0, 0), (85, .if_icmp .eq 7, 88, 92, 0), (88, .iconst 1, 89, 0, 0), (89, .goto 4, 92, 93, 0), (92, .iconst 0, 93, 0, 0), (93, .ireturn, 94, 0, 0), (94, .aload_n 0, 95, 0, 0), (95, .iload_n 2, 96, 0, 0)],
  [(96, .aload_n 3, 97, 0, 0), (97, .invokevirtual 145, 100, 88, 0), (100, .ifCond .eq 36, 103, 136, 0), (103, .aload_n 0, 104, 0, 0), (104, .bipush 22, 106, 0, 0), (106, .invokevirtual 123, 109, 81, 0), (109, .ifCond .eq 27, 112, 136, 0)],
  [(112, .aload_n 0, 113, 0, 0), (113, .iload_n 2, 114, 0, 0), (114, .aload_n 3, 115, 0, 0), (115, .invokevirtual 145, 118, 88, 0), (118, .ifCond .eq 18, 121, 136, 0), (121, .aload_n 3, 122, 0, 0), (122, .bipush 23, 124, 0, 0), (124, .iconst 0, 125, 0, 0), (125, .invokevirtual 142, 128, 105, 0)],
  [(128, .iconst (-1), 129, 0, 0), (129, .if_icmp .eq 7, 132, 136, 0), (132, .iconst 1, 133, 0, 0), (133, .goto 4, 136, 137, 0), (136, .iconst 0, 137, 0, 0), (137, .ireturn, 138, 0, 0), (138, .aload_n 0, 139, 0, 0), (139, .iload_n 2, 140, 0, 0), (140, .aload_n 3, 141, 0, 0), (141, .invokevirtual 145, 144, 88, 0)],
  [(144, .ifCond .eq 18, 147, 162, 0), (147, .aload_n 3, 148, 0, 0), (148, .bipush 24, 150, 0, 0), (150, .iconst 0, 151, 0, 0), (151, .invokevirtual 142, 154, 105, 0), (154, .iconst (-1), 155, 0, 0), (155, .if_icmp .eq 7, 158, 162, 0), (158, .iconst 1, 159, 0, 0), (159, .goto 4, 162, 163, 0)],
  [(162, .iconst 0, 163, 0, 0), (163, .ireturn, 164, 0, 0), (164, .aload_n 0, 165, 0, 0), (165, .iload_n 2, 166, 0, 0), (166, .aload_n 3, 167, 0, 0), (167, .invokevirtual 158, 170, 92, 0), (170, .ireturn, 171, 0, 0)]]
def cd92 : List (List cEn) := [[(0, .aload_n 0, 1, 0, 0), (1, .iload_n 1, 2, 0, 0), (2, .aload_n 2, 3, 0, 0), (3, .invokevirtual 161, 6, 93, 0), (6, .ifCond .eq 12, 9, 18, 0), (9, .aload_n 0, 10, 0, 0), (10, .bipush 26, 12, 0, 0), (12, .invokevirtual 123, 15, 81, 0), (15, .ifCond .ne 5, 18, 20, 0)],
  [(18, .iconst 0, 19, 0, 0), (19, .ireturn, 20, 0, 0), (20, .aload_n 2, 21, 0, 0), (21, .bipush 51, 23, 0, 0), (23, .iconst 0, 24, 0, 0), (24, .invokevirtual 142, 27, 105, 0), (27, .istore_n 3, 28, 0, 0), (28, .aload_n 0, 29, 0, 0), (29, .iload_n 1, 30, 0, 0), (30, .aload_n 2, 31, 0, 0), (31, .invokevirtual 129, 34, 86, 0)],
  [(34, .ifCond .eq 12, 37, 46, 0), (37, .aload_n 0, 38, 0, 0), (38, .bipush 27, 40, 0, 0), (40, .invokevirtual 123, 43, 81, 0), (43, .ifCond .ne 5, 46, 48, 0), (46, .iconst 0, 47, 0, 0), (47, .ireturn, 48, 0, 0)],
  [(48, .aload_n 2, 49, 0, 0), (49, .bipush 52, 51, 0, 0), (51, .iconst 0, 52, 0, 0), (52, .invokevirtual 142, 55, 105, 0), (55, .istore 4, 57, 0, 0), (57, .aload_n 2, 58, 0, 0), (58, .iload_n 3, 59, 0, 0), (59, .invokevirtual 164, 62, 106, 0), (62, .aload_n 0, 63, 0, 0), (63, .iload_n 1, 64, 0, 0)],
  [(64, .aload_n 2, 65, 0, 0), (65, .invokevirtual 129, 68, 86, 0), (68, .ifCond .eq 12, 71, 80, 0), (71, .aload_n 0, 72, 0, 0), (72, .bipush 28, 74, 0, 0), (74, .invokevirtual 123, 77, 81, 0), (77, .ifCond .ne 5, 80, 82, 0)],
  [(80, .iconst 0, 81, 0, 0), (81, .ireturn, 82, 0, 0), (82, .aload_n 2, 83, 0, 0), (83, .iload 4, 85, 0, 0), (85, .invokevirtual 164, 88, 106, 0), (88, .iconst 1, 89, 0, 0), (89, .ireturn, 90, 0, 0)]]
def cd93 : List (List cEn) := [[(0, .aload_n 0, 1, 0, 0), (1, .iload_n 1, 2, 0, 0), (2, .aload_n 2, 3, 0, 0), (3, .invokevirtual 168, 6, 94, 0), (6, .ifCond .ne 5, 9, 11, 0), (9, .iconst 0, 10, 0, 0), (10, .ireturn, 11, 0, 0), (11, .iconst 0, 12, 0, 0), (12, .istore_n 3, 13, 0, 0), (13, .iload_n 3, 14, 0, 0), (14, .sipush 300, 17, 0, 0)],
  [(17, .if_icmp .ge 47, 20, 64, 0), (20, .aload_n 0, 21, 0, 0), (21, .invokevirtual 52, 24, 79, 0), (24, .bipush 29, 26, 0, 0), (26, .if_icmp .ne 38, 29, 64, 0), (29, .aload_n 0, 30, 0, 0), (30, .dup, 31, 0, 0), (31, .getfield 25, 34, 3, 4)],
  [(34, .iconst 1, 35, 0, 0), (35, .iadd, 36, 0, 0), (36, .putfield 25, 39, 3, 4), (39, .aload_n 0, 40, 0, 0), (40, .iload_n 1, 41, 0, 0), (41, .aload_n 2, 42, 0, 0), (42, .invokevirtual 168, 45, 94, 0), (45, .ifCond .ne 5, 48, 50, 0)],
  [(48, .iconst 0, 49, 0, 0), (49, .ireturn, 50, 0, 0), (50, .aload_n 2, 51, 0, 0), (51, .bipush 29, 53, 0, 0), (53, .iconst 0, 54, 0, 0), (54, .invokevirtual 142, 57, 105, 0), (57, .pop, 58, 0, 0), (58, .iinc 3 1, 61, 0, 0), (61, .goto (-48), 64, 13, 0)],
  [(64, .iconst 1, 65, 0, 0), (65, .ireturn, 66, 0, 0)]]
def cd94 : List (List cEn) := [[(0, .aload_n 0, 1, 0, 0), (1, .iload_n 1, 2, 0, 0), (2, .aload_n 2, 3, 0, 0), (3, .invokevirtual 171, 6, 95, 0), (6, .ifCond .ne 5, 9, 11, 0), (9, .iconst 0, 10, 0, 0), (10, .ireturn, 11, 0, 0), (11, .iconst 0, 12, 0, 0), (12, .istore_n 3, 13, 0, 0), (13, .iload_n 3, 14, 0, 0), (14, .sipush 300, 17, 0, 0)],
  [(17, .if_icmp .ge 47, 20, 64, 0), (20, .aload_n 0, 21, 0, 0), (21, .invokevirtual 52, 24, 79, 0), (24, .bipush 30, 26, 0, 0), (26, .if_icmp .ne 38, 29, 64, 0), (29, .aload_n 0, 30, 0, 0), (30, .dup, 31, 0, 0), (31, .getfield 25, 34, 3, 4)],
  [(34, .iconst 1, 35, 0, 0), (35, .iadd, 36, 0, 0), (36, .putfield 25, 39, 3, 4), (39, .aload_n 0, 40, 0, 0), (40, .iload_n 1, 41, 0, 0), (41, .aload_n 2, 42, 0, 0), (42, .invokevirtual 171, 45, 95, 0), (45, .ifCond .ne 5, 48, 50, 0)],
  [(48, .iconst 0, 49, 0, 0), (49, .ireturn, 50, 0, 0), (50, .aload_n 2, 51, 0, 0), (51, .bipush 30, 53, 0, 0), (53, .iconst 0, 54, 0, 0), (54, .invokevirtual 142, 57, 105, 0), (57, .pop, 58, 0, 0), (58, .iinc 3 1, 61, 0, 0), (61, .goto (-48), 64, 13, 0)],
  [(64, .iconst 1, 65, 0, 0), (65, .ireturn, 66, 0, 0)]]
def cd95 : List (List cEn) := [[(0, .aload_n 0, 1, 0, 0), (1, .invokevirtual 52, 4, 79, 0), (4, .bipush 31, 6, 0, 0), (6, .if_icmp .ne 53, 9, 59, 0), (9, .iload_n 1, 10, 0, 0), (10, .bipush 8, 12, 0, 0), (12, .if_icmp .lt 9, 15, 21, 0), (15, .aload_n 0, 16, 0, 0)],
  [(16, .iconst 3, 17, 0, 0), (17, .invokevirtual 103, 20, 80, 0), (20, .ireturn, 21, 0, 0), (21, .aload_n 0, 22, 0, 0), (22, .dup, 23, 0, 0), (23, .getfield 25, 26, 3, 4), (26, .iconst 1, 27, 0, 0), (27, .iadd, 28, 0, 0), (28, .putfield 25, 31, 3, 4), (31, .aload_n 0, 32, 0, 0)],
  [(32, .iload_n 1, 33, 0, 0), (33, .iconst 1, 34, 0, 0), (34, .iadd, 35, 0, 0), (35, .aload_n 2, 36, 0, 0), (36, .invokevirtual 171, 39, 95, 0), (39, .ifCond .eq 18, 42, 57, 0), (42, .aload_n 2, 43, 0, 0), (43, .bipush 31, 45, 0, 0), (45, .iconst 0, 46, 0, 0), (46, .invokevirtual 142, 49, 105, 0)],
  [(49, .iconst (-1), 50, 0, 0), (50, .if_icmp .eq 7, 53, 57, 0), (53, .iconst 1, 54, 0, 0), (54, .goto 4, 57, 58, 0), (57, .iconst 0, 58, 0, 0), (58, .ireturn, 59, 0, 0), (59, .aload_n 0, 60, 0, 0), (60, .iload_n 1, 61, 0, 0), (61, .aload_n 2, 62, 0, 0), (62, .invokevirtual 129, 65, 86, 0)],
  [(65, .ifCond .ne 5, 68, 70, 0), (68, .iconst 0, 69, 0, 0), (69, .ireturn, 70, 0, 0), (70, .aload_n 0, 71, 0, 0), (71, .invokevirtual 52, 74, 79, 0), (74, .istore_n 3, 75, 0, 0), (75, .iload_n 3, 76, 0, 0), (76, .bipush 33, 78, 0, 0), (78, .if_icmp .lt 9, 81, 87, 0)],
  [(81, .iload_n 3, 82, 0, 0), (82, .bipush 38, 84, 0, 0), (84, .if_icmp .le 9, 87, 93, 0), (87, .aload_n 0, 88, 0, 0), (88, .iconst 1, 89, 0, 0), (89, .invokevirtual 103, 92, 80, 0), (92, .ireturn, 93, 0, 0), (93, .aload_n 0, 94, 0, 0), (94, .dup, 95, 0, 0), (95, .getfield 25, 98, 3, 4)],
  [(98, .iconst 1, 99, 0, 0), (99, .iadd, 100, 0, 0), (100, .putfield 25, 103, 3, 4), (103, .aload_n 0, 104, 0, 0), (104, .iload_n 1, 105, 0, 0), (105, .aload_n 2, 106, 0, 0), (106, .invokevirtual 129, 109, 86, 0), (109, .ifCond .eq 17, 112, 126, 0)],
  [(112, .aload_n 2, 113, 0, 0), (113, .iload_n 3, 114, 0, 0), (114, .iconst 0, 115, 0, 0), (115, .invokevirtual 142, 118, 105, 0), (118, .iconst (-1), 119, 0, 0), (119, .if_icmp .eq 7, 122, 126, 0), (122, .iconst 1, 123, 0, 0), (123, .goto 4, 126, 127, 0), (126, .iconst 0, 127, 0, 0), (127, .ireturn, 128, 0, 0)]]
def cd96 : List (List cEn) := [[(0, .aload_n 0, 1, 0, 0), (1, .iconst 0, 2, 0, 0), (2, .putfield 18, 5, 4, 2), (5, .iload_n 2, 6, 0, 0), (6, .iconst 2, 7, 0, 0), (7, .if_icmp .lt 32, 10, 39, 0), (10, .iload_n 2, 11, 0, 0), (11, .bipush 6, 13, 0, 0), (13, .if_icmp .gt 26, 16, 39, 0)],
  [(16, .aload_n 0, 17, 0, 0), (17, .sipush 595, 20, 0, 0), (20, .putfield 18, 23, 4, 2), (23, .aload_n 0, 24, 0, 0), (24, .getfield 9, 27, 4, 0), (27, .iconst 0, 28, 0, 0), (28, .iconst 0, 29, 0, 0), (29, .iastore, 30, 0, 0), (30, .aload_n 0, 31, 0, 0), (31, .aload_n 1, 32, 0, 0)],
  [(32, .iload_n 2, 33, 0, 0), (33, .iconst 1, 34, 0, 0), (34, .iconst 1, 35, 0, 0), (35, .iconst 0, 36, 0, 0), (36, .invokevirtual 22, 39, 97, 0), (39, .return_, 40, 0, 0)]]
def cd97 : List (List cEn) := [[(0, .iload_n 3, 1, 0, 0), (1, .iconst 1, 2, 0, 0), (2, .if_icmp .lt 8, 5, 10, 0), (5, .iload_n 3, 6, 0, 0), (6, .iload_n 2, 7, 0, 0), (7, .if_icmp .le 4, 10, 11, 0), (10, .return_, 11, 0, 0), (11, .aload_n 0, 12, 0, 0), (12, .getfield 9, 15, 4, 0), (15, .iload_n 3, 16, 0, 0)],
  [(16, .iconst 1, 17, 0, 0), (17, .isub, 18, 0, 0), (18, .iaload, 19, 0, 0), (19, .bipush 6, 21, 0, 0), (21, .imul, 22, 0, 0), (22, .istore 6, 24, 0, 0), (24, .iload_n 3, 25, 0, 0), (25, .iload_n 2, 26, 0, 0), (26, .if_icmp .ne 40, 29, 66, 0), (29, .iload 5, 31, 0, 0), (31, .aload_n 1, 32, 0, 0)],
  [(32, .iload 6, 34, 0, 0), (34, .iaload, 35, 0, 0), (35, .iadd, 36, 0, 0), (36, .aload_n 0, 37, 0, 0), (37, .getfield 18, 40, 4, 2), (40, .if_icmp .ge 25, 43, 65, 0), (43, .aload_n 0, 44, 0, 0), (44, .iload 5, 46, 0, 0), (46, .aload_n 1, 47, 0, 0), (47, .iload 6, 49, 0, 0)],
  [(49, .iaload, 50, 0, 0), (50, .iadd, 51, 0, 0), (51, .putfield 18, 54, 4, 2), (54, .aload_n 0, 55, 0, 0), (55, .getfield 9, 58, 4, 0), (58, .aload_n 0, 59, 0, 0), (59, .getfield 15, 62, 4, 1), (62, .invokestatic 26, 65, 21, 0)],
  [(65, .return_, 66, 0, 0), (66, .iconst 1, 67, 0, 0), (67, .istore 7, 69, 0, 0), (69, .iload 7, 71, 0, 0), (71, .iload_n 2, 72, 0, 0), (72, .if_icmp .ge 53, 75, 125, 0), (75, .iload 4, 77, 0, 0), (77, .iload 7, 79, 0, 0), (79, .ishr, 80, 0, 0)],
  [(80, .iconst 1, 81, 0, 0), (81, .iand, 82, 0, 0), (82, .ifCond .ne 37, 85, 119, 0), (85, .aload_n 0, 86, 0, 0), (86, .getfield 9, 89, 4, 0), (89, .iload_n 3, 90, 0, 0), (90, .iload 7, 92, 0, 0), (92, .iastore, 93, 0, 0), (93, .aload_n 0, 94, 0, 0), (94, .aload_n 1, 95, 0, 0), (95, .iload_n 2, 96, 0, 0)],
  [(96, .iload_n 3, 97, 0, 0), (97, .iconst 1, 98, 0, 0), (98, .iadd, 99, 0, 0), (99, .iload 4, 101, 0, 0), (101, .iconst 1, 102, 0, 0), (102, .iload 7, 104, 0, 0), (104, .ishl, 105, 0, 0), (105, .ior, 106, 0, 0), (106, .iload 5, 108, 0, 0), (108, .aload_n 1, 109, 0, 0), (109, .iload 6, 111, 0, 0), (111, .iload 7, 113, 0, 0)],
  [(113, .iadd, 114, 0, 0), (114, .iaload, 115, 0, 0), (115, .iadd, 116, 0, 0), (116, .invokevirtual 22, 119, 97, 0), (119, .iinc 7 1, 122, 0, 0), (122, .goto (-53), 125, 69, 0), (125, .return_, 126, 0, 0)]]
def cd98 : List (List cEn) := [[(0, .aload_n 0, 1, 0, 0), (1, .getfield 21, 4, 5, 2), (4, .bipush 30, 6, 0, 0), (6, .if_icmp .ne 26, 9, 32, 0), (9, .aload_n 0, 10, 0, 0), (10, .aload_n 0, 11, 0, 0), (11, .getfield 17, 14, 5, 1), (14, .iconst 1, 15, 0, 0), (15, .iadd, 16, 0, 0)],
  [(16, .bipush 30, 18, 0, 0), (18, .irem, 19, 0, 0), (19, .putfield 17, 22, 5, 1), (22, .aload_n 0, 23, 0, 0), (23, .dup, 24, 0, 0), (24, .getfield 21, 27, 5, 2), (27, .iconst 1, 28, 0, 0), (28, .isub, 29, 0, 0), (29, .putfield 21, 32, 5, 2)],
  [(32, .aload_n 0, 33, 0, 0), (33, .getfield 17, 36, 5, 1), (36, .aload_n 0, 37, 0, 0), (37, .getfield 21, 40, 5, 2), (40, .iadd, 41, 0, 0), (41, .bipush 30, 43, 0, 0), (43, .irem, 44, 0, 0), (44, .bipush 71, 46, 0, 0), (46, .imul, 47, 0, 0), (47, .istore_n 2, 48, 0, 0)],
  [(48, .aload_n 0, 49, 0, 0), (49, .dup, 50, 0, 0), (50, .getfield 21, 53, 5, 2), (53, .iconst 1, 54, 0, 0), (54, .iadd, 55, 0, 0), (55, .putfield 21, 58, 5, 2), (58, .aload_n 0, 59, 0, 0), (59, .getfield 13, 62, 5, 0), (62, .iload_n 2, 63, 0, 0), (63, .iconst 0, 64, 0, 0)],
  [(64, .iadd, 65, 0, 0), (65, .aload_n 1, 66, 0, 0), (66, .getfield 24, 69, 0, 0), (69, .iastore, 70, 0, 0), (70, .aload_n 0, 71, 0, 0), (71, .getfield 13, 74, 5, 0), (74, .iload_n 2, 75, 0, 0), (75, .iconst 1, 76, 0, 0), (76, .iadd, 77, 0, 0), (77, .aload_n 1, 78, 0, 0), (78, .getfield 27, 81, 0, 1)],
  [(81, .iastore, 82, 0, 0), (82, .aload_n 0, 83, 0, 0), (83, .getfield 13, 86, 5, 0), (86, .iload_n 2, 87, 0, 0), (87, .iconst 2, 88, 0, 0), (88, .iadd, 89, 0, 0), (89, .aload_n 1, 90, 0, 0), (90, .getfield 30, 93, 0, 2), (93, .iastore, 94, 0, 0), (94, .aload_n 0, 95, 0, 0), (95, .getfield 13, 98, 5, 0)],
  [(98, .iload_n 2, 99, 0, 0), (99, .iconst 3, 100, 0, 0), (100, .iadd, 101, 0, 0), (101, .aload_n 1, 102, 0, 0), (102, .getfield 33, 105, 0, 3), (105, .iastore, 106, 0, 0), (106, .aload_n 0, 107, 0, 0), (107, .getfield 13, 110, 5, 0), (110, .iload_n 2, 111, 0, 0), (111, .iconst 4, 112, 0, 0)],
  [(112, .iadd, 113, 0, 0), (113, .aload_n 1, 114, 0, 0), (114, .getfield 36, 117, 0, 6), (117, .iastore, 118, 0, 0), (118, .aload_n 1, 119, 0, 0), (119, .getfield 39, 122, 0, 8), (122, .iconst 0, 123, 0, 0), (123, .aload_n 0, 124, 0, 0), (124, .getfield 13, 127, 5, 0), (127, .iload_n 2, 128, 0, 0)],
  [(128, .iconst 5, 129, 0, 0), (129, .iadd, 130, 0, 0), (130, .bipush 6, 132, 0, 0), (132, .invokestatic 42, 135, 1000, 0), (135, .aload_n 1, 136, 0, 0), (136, .getfield 48, 139, 0, 9), (139, .iconst 0, 140, 0, 0), (140, .aload_n 0, 141, 0, 0), (141, .getfield 13, 144, 5, 0)],
  [(144, .iload_n 2, 145, 0, 0), (145, .bipush 11, 147, 0, 0), (147, .iadd, 148, 0, 0), (148, .bipush 6, 150, 0, 0), (150, .invokestatic 42, 153, 1000, 0), (153, .aload_n 1, 154, 0, 0), (154, .getfield 51, 157, 0, 10), (157, .iconst 0, 158, 0, 0), (158, .aload_n 0, 159, 0, 0), (159, .getfield 13, 162, 5, 0)],
  [(162, .iload_n 2, 163, 0, 0), (163, .bipush 17, 165, 0, 0), (165, .iadd, 166, 0, 0), (166, .bipush 24, 168, 0, 0), (168, .invokestatic 42, 171, 1000, 0), (171, .aload_n 1, 172, 0, 0), (172, .getfield 54, 175, 0, 14), (175, .iconst 0, 176, 0, 0)],
  [(176, .aload_n 0, 177, 0, 0), (177, .getfield 13, 180, 5, 0), (180, .iload_n 2, 181, 0, 0), (181, .bipush 41, 183, 0, 0), (183, .iadd, 184, 0, 0), (184, .bipush 30, 186, 0, 0), (186, .invokestatic 42, 189, 1000, 0), (189, .return_, 190, 0, 0)]]
def cd99 : List (List cEn) := [[(0, .aload_n 0, 1, 0, 0), (1, .getfield 21, 4, 5, 2), (4, .ifCond .gt 5, 7, 9, 0), (7, .iconst (-1), 8, 0, 0), (8, .ireturn, 9, 0, 0), (9, .aload_n 0, 10, 0, 0), (10, .dup, 11, 0, 0), (11, .getfield 21, 14, 5, 2), (14, .iconst 1, 15, 0, 0), (15, .isub, 16, 0, 0)],
  [(16, .putfield 21, 19, 5, 2), (19, .aload_n 0, 20, 0, 0), (20, .getfield 17, 23, 5, 1), (23, .aload_n 0, 24, 0, 0), (24, .getfield 21, 27, 5, 2), (27, .iadd, 28, 0, 0), (28, .bipush 30, 30, 0, 0), (30, .irem, 31, 0, 0), (31, .bipush 71, 33, 0, 0)],
  [(33, .imul, 34, 0, 0), (34, .istore_n 2, 35, 0, 0), (35, .aload_n 1, 36, 0, 0), (36, .aload_n 0, 37, 0, 0), (37, .getfield 13, 40, 5, 0), (40, .iload_n 2, 41, 0, 0), (41, .iconst 1, 42, 0, 0), (42, .iadd, 43, 0, 0), (43, .iaload, 44, 0, 0), (44, .putfield 27, 47, 0, 1), (47, .aload_n 1, 48, 0, 0)],
  [(48, .aload_n 0, 49, 0, 0), (49, .getfield 13, 52, 5, 0), (52, .iload_n 2, 53, 0, 0), (53, .iconst 2, 54, 0, 0), (54, .iadd, 55, 0, 0), (55, .iaload, 56, 0, 0), (56, .putfield 30, 59, 0, 2), (59, .aload_n 1, 60, 0, 0), (60, .aload_n 0, 61, 0, 0), (61, .getfield 13, 64, 5, 0)],
  [(64, .iload_n 2, 65, 0, 0), (65, .iconst 3, 66, 0, 0), (66, .iadd, 67, 0, 0), (67, .iaload, 68, 0, 0), (68, .putfield 33, 71, 0, 3), (71, .aload_n 1, 72, 0, 0), (72, .aload_n 0, 73, 0, 0), (73, .getfield 13, 76, 5, 0), (76, .iload_n 2, 77, 0, 0), (77, .iconst 4, 78, 0, 0), (78, .iadd, 79, 0, 0), (79, .iaload, 80, 0, 0)],
  [(80, .putfield 36, 83, 0, 6), (83, .aload_n 0, 84, 0, 0), (84, .getfield 13, 87, 5, 0), (87, .iload_n 2, 88, 0, 0), (88, .bipush 41, 90, 0, 0), (90, .iadd, 91, 0, 0), (91, .aload_n 1, 92, 0, 0), (92, .getfield 54, 95, 0, 14), (95, .iconst 0, 96, 0, 0)],
  [(96, .bipush 30, 98, 0, 0), (98, .invokestatic 42, 101, 1000, 0), (101, .bipush 6, 103, 0, 0), (103, .aload_n 0, 104, 0, 0), (104, .getfield 13, 107, 5, 0), (107, .iload_n 2, 108, 0, 0), (108, .iconst 0, 109, 0, 0), (109, .iadd, 110, 0, 0), (110, .iaload, 111, 0, 0), (111, .invokestatic 57, 114, 1004, 0)],
  [(114, .istore_n 3, 115, 0, 0), (115, .aload_n 0, 116, 0, 0), (116, .getfield 13, 119, 5, 0), (119, .iload_n 2, 120, 0, 0), (120, .iconst 5, 121, 0, 0), (121, .iadd, 122, 0, 0), (122, .aload_n 1, 123, 0, 0), (123, .getfield 39, 126, 0, 8), (126, .iconst 0, 127, 0, 0), (127, .iload_n 3, 128, 0, 0)],
  [(128, .invokestatic 42, 131, 1000, 0), (131, .aload_n 0, 132, 0, 0), (132, .getfield 13, 135, 5, 0), (135, .iload_n 2, 136, 0, 0), (136, .bipush 11, 138, 0, 0), (138, .iadd, 139, 0, 0), (139, .aload_n 1, 140, 0, 0), (140, .getfield 48, 143, 0, 9), (143, .iconst 0, 144, 0, 0)],
  [(144, .iload_n 3, 145, 0, 0), (145, .invokestatic 42, 148, 1000, 0), (148, .aload_n 0, 149, 0, 0), (149, .getfield 13, 152, 5, 0), (152, .iload_n 2, 153, 0, 0), (153, .bipush 17, 155, 0, 0), (155, .iadd, 156, 0, 0), (156, .aload_n 1, 157, 0, 0), (157, .getfield 51, 160, 0, 10)],
  [(160, .iconst 0, 161, 0, 0), (161, .iload_n 3, 162, 0, 0), (162, .iconst 4, 163, 0, 0), (163, .imul, 164, 0, 0), (164, .invokestatic 42, 167, 1000, 0), (167, .aload_n 0, 168, 0, 0), (168, .getfield 21, 171, 5, 2), (171, .ireturn, 172, 0, 0)]]
def cd100 : List (List cEn) := [[(0, .iconst 0, 1, 0, 0), (1, .istore_n 2, 2, 0, 0), (2, .iload_n 2, 3, 0, 0), (3, .bipush 30, 5, 0, 0), (5, .if_icmp .ge 21, 8, 26, 0), (8, .aload_n 0, 9, 0, 0), (9, .getfield 13, 12, 5, 0), (12, .iload_n 2, 13, 0, 0), (13, .bipush 71, 15, 0, 0), (15, .imul, 16, 0, 0)],
  [(16, .iconst 1, 17, 0, 0), (17, .iadd, 18, 0, 0), (18, .iload_n 1, 19, 0, 0), (19, .iastore, 20, 0, 0), (20, .iinc 2 1, 23, 0, 0), (23, .goto (-21), 26, 2, 0), (26, .return_, 27, 0, 0)]]
def cd101 : List (List cEn) := [[(0, .aload_n 0, 1, 0, 0), (1, .aload_n 1, 2, 0, 0), (2, .getfield 17, 5, 5, 1), (5, .putfield 17, 8, 5, 1), (8, .aload_n 0, 9, 0, 0), (9, .aload_n 1, 10, 0, 0), (10, .getfield 21, 13, 5, 2), (13, .putfield 21, 16, 5, 2)],
  [(16, .aload_n 1, 17, 0, 0), (17, .getfield 13, 20, 5, 0), (20, .aload_n 0, 21, 0, 0), (21, .getfield 13, 24, 5, 0), (24, .invokestatic 63, 27, 21, 0), (27, .return_, 28, 0, 0)]]
def cd102 : List (List cEn) := [[(0, .aload_n 0, 1, 0, 0), (1, .iconst 0, 2, 0, 0), (2, .putfield 27, 5, 6, 5), (5, .aload_n 0, 6, 0, 0), (6, .iconst 0, 7, 0, 0), (7, .putfield 31, 10, 6, 6), (10, .iconst 0, 11, 0, 0), (11, .istore_n 1, 12, 0, 0), (12, .iload_n 1, 13, 0, 0), (13, .aload_n 0, 14, 0, 0), (14, .getfield 21, 17, 6, 3)],
  [(17, .arraylength, 18, 0, 0), (18, .if_icmp .ge 23, 21, 41, 0), (21, .aload_n 0, 22, 0, 0), (22, .getfield 21, 25, 6, 3), (25, .iload_n 1, 26, 0, 0), (26, .iconst (-1), 27, 0, 0), (27, .iastore, 28, 0, 0), (28, .aload_n 0, 29, 0, 0), (29, .getfield 24, 32, 6, 4)],
  [(32, .iload_n 1, 33, 0, 0), (33, .iconst (-1), 34, 0, 0), (34, .iastore, 35, 0, 0), (35, .iinc 1 1, 38, 0, 0), (38, .goto (-26), 41, 12, 0), (41, .return_, 42, 0, 0)]]
def cd103 : List (List cEn) := [[(0, .aload_n 0, 1, 0, 0), (1, .getfield 11, 4, 6, 0), (4, .iload_n 1, 5, 0, 0), (5, .iconst 4, 6, 0, 0), (6, .imul, 7, 0, 0), (7, .iload_n 2, 8, 0, 0), (8, .iadd, 9, 0, 0), (9, .iaload, 10, 0, 0), (10, .ireturn, 11, 0, 0)]]
def cd104 : List (List cEn) := [[(0, .aload_n 0, 1, 0, 0), (1, .getfield 27, 4, 6, 5), (4, .bipush 24, 6, 0, 0), (6, .if_icmp .ge 17, 9, 23, 0), (9, .aload_n 0, 10, 0, 0), (10, .getfield 11, 13, 6, 0), (13, .aload_n 0, 14, 0, 0), (14, .getfield 27, 17, 6, 5)],
  [(17, .iconst 4, 18, 0, 0), (18, .imul, 19, 0, 0), (19, .iload_n 1, 20, 0, 0), (20, .iadd, 21, 0, 0), (21, .iload_n 2, 22, 0, 0), (22, .iastore, 23, 0, 0), (23, .return_, 24, 0, 0)]]
def cd105 : List (List cEn) := [[(0, .aload_n 0, 1, 0, 0), (1, .getfield 31, 4, 6, 6), (4, .sipush 300, 7, 0, 0), (7, .if_icmp .lt 5, 10, 12, 0), (10, .iconst (-1), 11, 0, 0), (11, .ireturn, 12, 0, 0), (12, .aload_n 0, 13, 0, 0), (13, .getfield 15, 16, 6, 1)],
  [(16, .aload_n 0, 17, 0, 0), (17, .getfield 31, 20, 6, 6), (20, .iload_n 1, 21, 0, 0), (21, .iastore, 22, 0, 0), (22, .aload_n 0, 23, 0, 0), (23, .getfield 18, 26, 6, 2), (26, .aload_n 0, 27, 0, 0), (27, .getfield 31, 30, 6, 6), (30, .iload_n 2, 31, 0, 0), (31, .iastore, 32, 0, 0)],
  [(32, .aload_n 0, 33, 0, 0), (33, .dup, 34, 0, 0), (34, .getfield 31, 37, 6, 6), (37, .iconst 1, 38, 0, 0), (38, .iadd, 39, 0, 0), (39, .putfield 31, 42, 6, 6), (42, .aload_n 0, 43, 0, 0), (43, .getfield 31, 46, 6, 6), (46, .iconst 1, 47, 0, 0), (47, .isub, 48, 0, 0)],
  [(48, .ireturn, 49, 0, 0)]]
def cd106 : List (List cEn) := [[(0, .iload_n 1, 1, 0, 0), (1, .ifCond .lt 20, 4, 21, 0), (4, .iload_n 1, 5, 0, 0), (5, .sipush 300, 8, 0, 0), (8, .if_icmp .ge 13, 11, 21, 0), (11, .aload_n 0, 12, 0, 0), (12, .getfield 18, 15, 6, 2), (15, .iload_n 1, 16, 0, 0)],
  [(16, .aload_n 0, 17, 0, 0), (17, .getfield 31, 20, 6, 6), (20, .iastore, 21, 0, 0), (21, .return_, 22, 0, 0)]]
def cd107 : List (List cEn) := [[(0, .aload_n 0, 1, 0, 0), (1, .getfield 21, 4, 7, 3), (4, .bipush 8, 6, 0, 0), (6, .if_icmp .lt 6, 9, 12, 0), (9, .bipush (-2), 11, 0, 0), (11, .ireturn, 12, 0, 0), (12, .aload_n 0, 13, 0, 0), (13, .getfield 11, 16, 7, 0)],
  [(16, .aload_n 0, 17, 0, 0), (17, .getfield 21, 20, 7, 3), (20, .iload_n 1, 21, 0, 0), (21, .iastore, 22, 0, 0), (22, .aload_n 0, 23, 0, 0), (23, .getfield 15, 26, 7, 1), (26, .aload_n 0, 27, 0, 0), (27, .getfield 21, 30, 7, 3), (30, .iload_n 2, 31, 0, 0), (31, .iastore, 32, 0, 0)],
  [(32, .aload_n 0, 33, 0, 0), (33, .getfield 18, 36, 7, 2), (36, .aload_n 0, 37, 0, 0), (37, .getfield 21, 40, 7, 3), (40, .iload_n 3, 41, 0, 0), (41, .iastore, 42, 0, 0), (42, .aload_n 0, 43, 0, 0), (43, .dup, 44, 0, 0), (44, .getfield 21, 47, 7, 3), (47, .iconst 1, 48, 0, 0)],
  [(48, .iadd, 49, 0, 0), (49, .putfield 21, 52, 7, 3), (52, .aload_n 0, 53, 0, 0), (53, .getfield 21, 56, 7, 3), (56, .ireturn, 57, 0, 0)]]
def cd108 : List (List cEn) := [[(0, .aload_n 0, 1, 0, 0), (1, .iconst 0, 2, 0, 0), (2, .putfield 21, 5, 7, 3), (5, .aload_n 0, 6, 0, 0), (6, .getfield 21, 9, 7, 3), (9, .ireturn, 10, 0, 0)]]
def cd109 : List (List cEn) := [[(0, .aload_n 0, 1, 0, 0), (1, .aload_n 1, 2, 0, 0), (2, .getfield 21, 5, 7, 3), (5, .putfield 21, 8, 7, 3), (8, .aload_n 1, 9, 0, 0), (9, .getfield 11, 12, 7, 0), (12, .aload_n 0, 13, 0, 0), (13, .getfield 11, 16, 7, 0)],
  [(16, .invokestatic 25, 19, 21, 0), (19, .aload_n 1, 20, 0, 0), (20, .getfield 15, 23, 7, 1), (23, .aload_n 0, 24, 0, 0), (24, .getfield 15, 27, 7, 1), (27, .invokestatic 25, 30, 21, 0), (30, .aload_n 1, 31, 0, 0), (31, .getfield 18, 34, 7, 2)],
  [(34, .aload_n 0, 35, 0, 0), (35, .getfield 18, 38, 7, 2), (38, .invokestatic 25, 41, 21, 0), (41, .return_, 42, 0, 0)]]
def cd110 : List (List cEn) := [[(0, .aload_n 0, 1, 0, 0), (1, .getfield 10, 4, 8, 0), (4, .iload_n 1, 5, 0, 0), (5, .iload_n 2, 6, 0, 0), (6, .iload_n 3, 7, 0, 0), (7, .invokevirtual 55, 10, 45, 0), (10, .ireturn, 11, 0, 0)]]
def cd111 : List (List cEn) := [[(0, .aload_n 0, 1, 0, 0), (1, .getfield 10, 4, 8, 0), (4, .iload_n 1, 5, 0, 0), (5, .iload_n 2, 6, 0, 0), (6, .invokevirtual 59, 9, 46, 0), (9, .ireturn, 10, 0, 0)]]
def cd112 : List (List cEn) := [[(0, .aload_n 0, 1, 0, 0), (1, .getfield 10, 4, 8, 0), (4, .iload_n 1, 5, 0, 0), (5, .invokevirtual 63, 8, 47, 0), (8, .ireturn, 9, 0, 0)]]
def cd113 : List (List cEn) := [[(0, .aload_n 0, 1, 0, 0), (1, .getfield 45, 4, 8, 6), (4, .bipush 20, 6, 0, 0), (6, .iadd, 7, 0, 0), (7, .sipush 300, 10, 0, 0), (10, .if_icmp .le 5, 13, 15, 0), (13, .iconst (-1), 14, 0, 0), (14, .ireturn, 15, 0, 0), (15, .aload_n 0, 16, 0, 0)],
  [(16, .iload_n 1, 17, 0, 0), (17, .invokevirtual 67, 20, 114, 0), (20, .aload_n 0, 21, 0, 0), (21, .iload_n 2, 22, 0, 0), (22, .invokevirtual 67, 25, 114, 0), (25, .aload_n 0, 26, 0, 0), (26, .iload_n 3, 27, 0, 0), (27, .invokevirtual 67, 30, 114, 0), (30, .aload_n 0, 31, 0, 0), (31, .iload 4, 33, 0, 0)],
  [(33, .invokevirtual 67, 36, 114, 0), (36, .aload_n 0, 37, 0, 0), (37, .iload 5, 39, 0, 0), (39, .invokevirtual 67, 42, 114, 0), (42, .aload_n 0, 43, 0, 0), (43, .getfield 45, 46, 8, 6), (46, .ireturn, 47, 0, 0)]]
def cd114 : List (List cEn) := [[(0, .bipush 24, 2, 0, 0), (2, .istore_n 2, 3, 0, 0), (3, .iload_n 2, 4, 0, 0), (4, .ifCond .lt 42, 7, 46, 0), (7, .aload_n 0, 8, 0, 0), (8, .getfield 45, 11, 8, 6), (11, .sipush 300, 14, 0, 0), (14, .if_icmp .ge 32, 17, 46, 0)],
  [(17, .aload_n 0, 18, 0, 0), (18, .getfield 41, 21, 8, 5), (21, .aload_n 0, 22, 0, 0), (22, .getfield 45, 25, 8, 6), (25, .iload_n 1, 26, 0, 0), (26, .iload_n 2, 27, 0, 0), (27, .ishr, 28, 0, 0), (28, .i2b, 29, 0, 0), (29, .bastore, 30, 0, 0), (30, .aload_n 0, 31, 0, 0), (31, .dup, 32, 0, 0)],
  [(32, .getfield 45, 35, 8, 6), (35, .iconst 1, 36, 0, 0), (36, .iadd, 37, 0, 0), (37, .putfield 45, 40, 8, 6), (40, .iinc 2 (-8), 43, 0, 0), (43, .goto (-40), 46, 3, 0), (46, .return_, 47, 0, 0)]]
def cd115 : List (List cEn) := [[(0, .iload_n 1, 1, 0, 0), (1, .ifCond .lt 11, 4, 12, 0), (4, .iload_n 1, 5, 0, 0), (5, .aload_n 0, 6, 0, 0), (6, .getfield 45, 9, 8, 6), (9, .if_icmp .le 5, 12, 14, 0), (12, .iconst (-1), 13, 0, 0), (13, .ireturn, 14, 0, 0), (14, .aload_n 0, 15, 0, 0), (15, .iload_n 1, 16, 0, 0)],
  [(16, .putfield 45, 19, 8, 6), (19, .iload_n 1, 20, 0, 0), (20, .ireturn, 21, 0, 0)]]
def cd116 : List (List cEn) := [[(0, .aload_n 0, 1, 0, 0), (1, .getfield 20, 4, 8, 1), (4, .getfield 71, 7, 0, 4), (7, .istore_n 1, 8, 0, 0), (8, .iload_n 1, 9, 0, 0), (9, .iconst 0, 10, 0, 0), (10, .iconst 3, 11, 0, 0), (11, .invokestatic 74, 14, 162, 0), (14, .ifCond .ne 5, 17, 19, 0)],
  [(17, .iconst (-1), 18, 0, 0), (18, .ireturn, 19, 0, 0), (19, .aload_n 0, 20, 0, 0), (20, .getfield 37, 23, 8, 4), (23, .aload_n 0, 24, 0, 0), (24, .getfield 41, 27, 8, 5), (27, .aload_n 0, 28, 0, 0), (28, .getfield 45, 31, 8, 6), (31, .aload_n 0, 32, 0, 0)],
  [(32, .getfield 10, 35, 8, 0), (35, .getfield 78, 38, 1, 2), (38, .iload_n 1, 39, 0, 0), (39, .aaload, 40, 0, 0), (40, .invokevirtual 82, 43, 69, 0), (43, .aload_n 0, 44, 0, 0), (44, .iconst 0, 45, 0, 0), (45, .putfield 45, 48, 8, 6)],
  [(48, .aload_n 0, 49, 0, 0), (49, .aload_n 0, 50, 0, 0), (50, .getfield 37, 53, 8, 4), (53, .getfield 86, 56, 3, 6), (56, .putfield 49, 59, 8, 7), (59, .aload_n 0, 60, 0, 0), (60, .aload_n 0, 61, 0, 0), (61, .getfield 37, 64, 8, 4)],
  [(64, .getfield 89, 67, 3, 7), (67, .putfield 52, 70, 8, 8), (70, .aload_n 0, 71, 0, 0), (71, .getfield 49, 74, 8, 7), (74, .ifCond .eq 5, 77, 79, 0), (77, .iconst (-1), 78, 0, 0), (78, .ireturn, 79, 0, 0), (79, .aload_n 0, 80, 0, 0)],
  [(80, .getfield 20, 83, 8, 1), (83, .iload_n 1, 84, 0, 0), (84, .iconst 1, 85, 0, 0), (85, .iadd, 86, 0, 0), (86, .putfield 71, 89, 0, 4), (89, .iload_n 1, 90, 0, 0), (90, .ireturn, 91, 0, 0)]]
def cd117 : List (List cEn) := [[(0, .iload_n 1, 1, 0, 0), (1, .lookupswitch 37 #[(0, 27), (1, 32)], 28, 7, 0)],
  [(28, .aload_n 0, 29, 0, 0), (29, .getfield 49, 32, 8, 7)],
  [(32, .ireturn, 33, 0, 0), (33, .aload_n 0, 34, 0, 0), (34, .getfield 52, 37, 8, 8), (37, .ireturn, 38, 0, 0), (38, .iconst (-1), 39, 0, 0), (39, .ireturn, 40, 0, 0)]]
def cd118 : List (List cEn) := [[(0, .iload_n 1, 1, 0, 0), (1, .iconst (-1), 2, 0, 0), (2, .if_icmp .lt 14, 5, 16, 0), (5, .iload_n 1, 6, 0, 0), (6, .aload_n 0, 7, 0, 0), (7, .getfield 20, 10, 8, 1), (10, .getfield 71, 13, 0, 4), (13, .if_icmp .lt 5, 16, 18, 0)],
  [(16, .iconst 0, 17, 0, 0), (17, .ireturn, 18, 0, 0), (18, .aload_n 0, 19, 0, 0), (19, .getfield 20, 22, 8, 1), (22, .iload_n 1, 23, 0, 0), (23, .putfield 92, 26, 0, 5), (26, .iconst 1, 27, 0, 0), (27, .ireturn, 28, 0, 0)]]
def cd119 : List (List cEn) := [[(0, .aload_n 0, 1, 0, 0), (1, .getfield 10, 4, 8, 0), (4, .iload_n 1, 5, 0, 0), (5, .iload_n 2, 6, 0, 0), (6, .iload_n 3, 7, 0, 0), (7, .invokevirtual 95, 10, 48, 0), (10, .ireturn, 11, 0, 0)]]
def cd120 : List (List cEn) := [[(0, .aload_n 0, 1, 0, 0), (1, .getfield 10, 4, 8, 0), (4, .iload_n 1, 5, 0, 0), (5, .iload_n 2, 6, 0, 0), (6, .invokevirtual 98, 9, 49, 0), (9, .ireturn, 10, 0, 0)]]
def cd121 : List (List cEn) := [[(0, .aload_n 0, 1, 0, 0), (1, .getfield 10, 4, 8, 0), (4, .iload_n 1, 5, 0, 0), (5, .iload_n 2, 6, 0, 0), (6, .iload_n 3, 7, 0, 0), (7, .invokevirtual 102, 10, 50, 0), (10, .ireturn, 11, 0, 0)]]
def cd122 : List (List cEn) := [[(0, .aload_n 0, 1, 0, 0), (1, .getfield 10, 4, 8, 0), (4, .iload_n 1, 5, 0, 0), (5, .iload_n 2, 6, 0, 0), (6, .invokevirtual 105, 9, 51, 0), (9, .ireturn, 10, 0, 0)]]
def cd123 : List (List cEn) := [[(0, .aload_n 0, 1, 0, 0), (1, .getfield 10, 4, 8, 0), (4, .iload_n 1, 5, 0, 0), (5, .invokevirtual 108, 8, 52, 0), (8, .ireturn, 9, 0, 0)]]
def cd124 : List (List cEn) := [[(0, .aload_n 0, 1, 0, 0), (1, .getfield 10, 4, 8, 0), (4, .iload_n 1, 5, 0, 0), (5, .invokevirtual 112, 8, 53, 0), (8, .ireturn, 9, 0, 0)]]
def cd125 : List (List cEn) := [[(0, .iload_n 1, 1, 0, 0), (1, .iconst 1, 2, 0, 0), (2, .bipush 60, 4, 0, 0), (4, .invokestatic 74, 7, 162, 0), (7, .ifCond .eq 18, 10, 25, 0), (10, .aload_n 0, 11, 0, 0), (11, .getfield 20, 14, 8, 1), (14, .getfield 115, 17, 0, 2)],
  [(17, .iload_n 1, 18, 0, 0), (18, .iadd, 19, 0, 0), (19, .sipush 9999, 22, 0, 0), (22, .if_icmp .le 5, 25, 27, 0), (25, .iconst (-1), 26, 0, 0), (26, .ireturn, 27, 0, 0), (27, .aload_n 0, 28, 0, 0), (28, .getfield 10, 31, 8, 0), (31, .iload_n 1, 32, 0, 0)],
  [(32, .invokevirtual 118, 35, 54, 0), (35, .pop, 36, 0, 0), (36, .aload_n 0, 37, 0, 0), (37, .getfield 20, 40, 8, 1), (40, .getfield 115, 43, 0, 2), (43, .ireturn, 44, 0, 0)]]
def cd126 : List (List cEn) := [[(0, .iload_n 1, 1, 0, 0), (1, .ifCond .lt 14, 4, 15, 0), (4, .iload_n 1, 5, 0, 0), (5, .aload_n 0, 6, 0, 0), (6, .getfield 20, 9, 8, 1), (9, .getfield 71, 12, 0, 4), (12, .if_icmp .lt 6, 15, 18, 0), (15, .bipush (-2), 17, 0, 0)],
  [(17, .ireturn, 18, 0, 0), (18, .aload_n 0, 19, 0, 0), (19, .getfield 10, 22, 8, 0), (22, .aload_n 0, 23, 0, 0), (23, .getfield 10, 26, 8, 0), (26, .getfield 78, 29, 1, 2), (29, .iload_n 1, 30, 0, 0), (30, .aaload, 31, 0, 0), (31, .invokevirtual 121, 34, 56, 0)],
  [(34, .ireturn, 35, 0, 0)]]
def cd127 : List (List cEn) := [[(0, .iload_n 1, 1, 0, 0), (1, .iconst 0, 2, 0, 0), (2, .sipush 9999, 5, 0, 0), (5, .invokestatic 74, 8, 162, 0), (8, .ifCond .eq 13, 11, 21, 0), (11, .iload_n 2, 12, 0, 0), (12, .iconst 1, 13, 0, 0), (13, .bipush 40, 15, 0, 0), (15, .invokestatic 74, 18, 162, 0)],
  [(18, .ifCond .ne 5, 21, 23, 0), (21, .iconst (-1), 22, 0, 0), (22, .ireturn, 23, 0, 0), (23, .aload_n 0, 24, 0, 0), (24, .getfield 10, 27, 8, 0), (27, .iload_n 1, 28, 0, 0), (28, .iload_n 2, 29, 0, 0), (29, .invokevirtual 125, 32, 58, 0)],
  [(32, .aload_n 0, 33, 0, 0), (33, .getfield 20, 36, 8, 1), (36, .getfield 115, 39, 0, 2), (39, .ireturn, 40, 0, 0)]]
def cd128 : List (List cEn) := [[(0, .aload_n 0, 1, 0, 0), (1, .getfield 20, 4, 8, 1), (4, .getfield 129, 7, 0, 18), (7, .aload_n 0, 8, 0, 0), (8, .getfield 20, 11, 8, 1), (11, .invokevirtual 133, 14, 99, 0), (14, .ireturn, 15, 0, 0)]]
def cd129 : List (List cEn) := [[(0, .aload_n 0, 1, 0, 0), (1, .getfield 20, 4, 8, 1), (4, .iload_n 1, 5, 0, 0), (5, .invokevirtual 139, 8, 7, 0), (8, .ifCond .ne 5, 11, 13, 0), (11, .iconst (-1), 12, 0, 0), (12, .ireturn, 13, 0, 0), (13, .iload_n 2, 14, 0, 0), (14, .tableswitch 82 0 4 #[34, 44, 54, 64, 73], 48, 8, 0)],
  [],
  [],
  [(48, .aload_n 0, 49, 0, 0), (49, .getfield 20, 52, 8, 1), (52, .getfield 142, 55, 0, 7), (55, .iload_n 1, 56, 0, 0), (56, .iaload, 57, 0, 0), (57, .ireturn, 58, 0, 0), (58, .aload_n 0, 59, 0, 0), (59, .getfield 20, 62, 8, 1), (62, .getfield 146, 65, 0, 8)],
  [(65, .iload_n 1, 66, 0, 0), (66, .iaload, 67, 0, 0), (67, .ireturn, 68, 0, 0), (68, .aload_n 0, 69, 0, 0), (69, .getfield 20, 72, 8, 1), (72, .getfield 149, 75, 0, 9), (75, .iload_n 1, 76, 0, 0), (76, .iaload, 77, 0, 0), (77, .ireturn, 78, 0, 0), (78, .aload_n 0, 79, 0, 0), (79, .getfield 20, 82, 8, 1)],
  [(82, .iload_n 1, 83, 0, 0), (83, .invokevirtual 152, 86, 8, 0), (86, .ireturn, 87, 0, 0), (87, .aload_n 0, 88, 0, 0), (88, .getfield 20, 91, 8, 1), (91, .iload_n 1, 92, 0, 0), (92, .invokevirtual 155, 95, 13, 0), (95, .ireturn, 96, 0, 0)],
  [(96, .iconst (-1), 97, 0, 0), (97, .ireturn, 98, 0, 0)]]
def cd130 : List (List cEn) := [[(0, .aload_n 0, 1, 0, 0), (1, .getfield 20, 4, 8, 1), (4, .iload_n 1, 5, 0, 0), (5, .invokevirtual 139, 8, 7, 0), (8, .ifCond .eq 12, 11, 20, 0), (11, .iload_n 2, 12, 0, 0), (12, .iconst 0, 13, 0, 0), (13, .iconst 3, 14, 0, 0), (14, .invokestatic 74, 17, 162, 0)],
  [(17, .ifCond .ne 5, 20, 22, 0), (20, .iconst (-1), 21, 0, 0), (21, .ireturn, 22, 0, 0), (22, .iload_n 3, 23, 0, 0), (23, .iconst 2, 24, 0, 0), (24, .if_icmp .lt 10, 27, 34, 0), (27, .iload_n 2, 28, 0, 0), (28, .iconst 3, 29, 0, 0), (29, .if_icmp .ne 5, 32, 34, 0)],
  [(32, .iconst (-1), 33, 0, 0), (33, .ireturn, 34, 0, 0), (34, .iload_n 3, 35, 0, 0), (35, .tableswitch 69 0 3 #[29, 39, 49, 59], 64, 9, 0)],
  [],
  [(64, .aload_n 0, 65, 0, 0), (65, .getfield 20, 68, 8, 1), (68, .iload_n 1, 69, 0, 0), (69, .iload_n 2, 70, 0, 0), (70, .invokevirtual 158, 73, 10, 0), (73, .ireturn, 74, 0, 0), (74, .aload_n 0, 75, 0, 0), (75, .getfield 10, 78, 8, 0), (78, .iload_n 1, 79, 0, 0), (79, .iload_n 2, 80, 0, 0)],
  [(80, .invokevirtual 161, 83, 41, 0), (83, .ireturn, 84, 0, 0), (84, .aload_n 0, 85, 0, 0), (85, .getfield 10, 88, 8, 0), (88, .iload_n 1, 89, 0, 0), (89, .iload_n 2, 90, 0, 0), (90, .invokevirtual 164, 93, 42, 0), (93, .ireturn, 94, 0, 0), (94, .aload_n 0, 95, 0, 0), (95, .getfield 10, 98, 8, 0)],
  [(98, .iload_n 1, 99, 0, 0), (99, .iload_n 2, 100, 0, 0), (100, .invokevirtual 167, 103, 43, 0), (103, .ireturn, 104, 0, 0), (104, .iconst (-1), 105, 0, 0), (105, .ireturn, 106, 0, 0)]]
def cd131 : List (List cEn) := [[(0, .iload_n 1, 1, 0, 0), (1, .tableswitch 93 0 5 #[39, 47, 55, 63, 73, 83], 40, 10, 0)],
  [],
  [(40, .aload_n 0, 41, 0, 0), (41, .getfield 20, 44, 8, 1), (44, .getfield 115, 47, 0, 2), (47, .ireturn, 48, 0, 0)],
  [(48, .aload_n 0, 49, 0, 0), (49, .getfield 20, 52, 8, 1), (52, .getfield 170, 55, 0, 1), (55, .ireturn, 56, 0, 0), (56, .aload_n 0, 57, 0, 0), (57, .getfield 20, 60, 8, 1), (60, .getfield 173, 63, 0, 3), (63, .ireturn, 64, 0, 0)],
  [(64, .aload_n 0, 65, 0, 0), (65, .getfield 20, 68, 8, 1), (68, .getfield 176, 71, 0, 11), (71, .iconst 0, 72, 0, 0), (72, .iaload, 73, 0, 0), (73, .ireturn, 74, 0, 0), (74, .aload_n 0, 75, 0, 0), (75, .getfield 20, 78, 8, 1), (78, .getfield 176, 81, 0, 11)],
  [(81, .iconst 1, 82, 0, 0), (82, .iaload, 83, 0, 0), (83, .ireturn, 84, 0, 0), (84, .aload_n 0, 85, 0, 0), (85, .getfield 20, 88, 8, 1), (88, .getfield 176, 91, 0, 11), (91, .iconst 2, 92, 0, 0), (92, .iaload, 93, 0, 0), (93, .ireturn, 94, 0, 0), (94, .bipush (-2), 96, 0, 0)],
  [(96, .ireturn, 97, 0, 0)]]
def cd132 : List (List cEn) := [[(0, .iload_n 1, 1, 0, 0), (1, .iconst (-1), 2, 0, 0), (2, .if_icmp .ne 11, 5, 13, 0), (5, .aload_n 0, 6, 0, 0), (6, .getfield 20, 9, 8, 1), (9, .getfield 179, 12, 0, 6), (12, .ireturn, 13, 0, 0), (13, .iload_n 1, 14, 0, 0), (14, .ifCond .lt 14, 17, 28, 0)],
  [(17, .iload_n 1, 18, 0, 0), (18, .aload_n 0, 19, 0, 0), (19, .getfield 20, 22, 8, 1), (22, .getfield 179, 25, 0, 6), (25, .if_icmp .lt 6, 28, 31, 0), (28, .bipush (-2), 30, 0, 0), (30, .ireturn, 31, 0, 0), (31, .iload_n 2, 32, 0, 0)],
  [(32, .tableswitch 68 0 3 #[32, 41, 50, 59], 64, 11, 0)],
  [],
  [(64, .aload_n 0, 65, 0, 0), (65, .getfield 20, 68, 8, 1), (68, .iload_n 1, 69, 0, 0), (69, .invokevirtual 182, 72, 19, 0), (72, .ireturn, 73, 0, 0), (73, .aload_n 0, 74, 0, 0), (74, .getfield 20, 77, 8, 1), (77, .iload_n 1, 78, 0, 0), (78, .invokevirtual 185, 81, 18, 0)],
  [(81, .ireturn, 82, 0, 0), (82, .aload_n 0, 83, 0, 0), (83, .getfield 20, 86, 8, 1), (86, .iload_n 1, 87, 0, 0), (87, .invokevirtual 188, 90, 17, 0), (90, .ireturn, 91, 0, 0), (91, .aload_n 0, 92, 0, 0), (92, .getfield 20, 95, 8, 1), (95, .iload_n 1, 96, 0, 0)],
  [(96, .invokevirtual 191, 99, 16, 0), (99, .ireturn, 100, 0, 0), (100, .bipush (-2), 102, 0, 0), (102, .ireturn, 103, 0, 0)]]
def cd133 : List (List cEn) := [[(0, .iload_n 1, 1, 0, 0), (1, .iconst 1, 2, 0, 0), (2, .bipush 60, 4, 0, 0), (4, .invokestatic 74, 7, 162, 0), (7, .ifCond .eq 23, 10, 30, 0), (10, .aload_n 0, 11, 0, 0), (11, .getfield 20, 14, 8, 1), (14, .iload_n 2, 15, 0, 0), (15, .invokevirtual 139, 18, 7, 0)],
  [(18, .ifCond .eq 12, 21, 30, 0), (21, .iload_n 3, 22, 0, 0), (22, .iconst 0, 23, 0, 0), (23, .iconst 3, 24, 0, 0), (24, .invokestatic 74, 27, 162, 0), (27, .ifCond .ne 5, 30, 32, 0), (30, .iconst (-1), 31, 0, 0), (31, .ireturn, 32, 0, 0)],
  [(32, .aload_n 0, 33, 0, 0), (33, .getfield 10, 36, 8, 0), (36, .iload_n 1, 37, 0, 0), (37, .iload_n 2, 38, 0, 0), (38, .iload_n 3, 39, 0, 0), (39, .invokestatic 194, 42, 0, 0), (42, .ireturn, 43, 0, 0)]]
def cd134 : List (List cEn) := [[(0, .aload_n 0, 1, 0, 0), (1, .iload_n 1, 2, 0, 0), (2, .iload_n 2, 3, 0, 0), (3, .invokevirtual 200, 6, 160, 0), (6, .ifCond .eq 13, 9, 19, 0), (9, .iload_n 3, 10, 0, 0), (10, .iconst 1, 11, 0, 0), (11, .bipush 99, 13, 0, 0), (13, .invokestatic 74, 16, 162, 0)],
  [(16, .ifCond .ne 5, 19, 21, 0), (19, .iconst (-1), 20, 0, 0), (20, .ireturn, 21, 0, 0), (21, .aload_n 0, 22, 0, 0), (22, .getfield 10, 25, 8, 0), (25, .iload_n 1, 26, 0, 0), (26, .iload_n 2, 27, 0, 0), (27, .iload_n 3, 28, 0, 0), (28, .invokestatic 203, 31, 1, 0), (31, .ireturn, 32, 0, 0)]]
def cd135 : List (List cEn) := [[(0, .iload_n 1, 1, 0, 0), (1, .iconst (-1), 2, 0, 0), (2, .if_icmp .ne 14, 5, 16, 0), (5, .aload_n 0, 6, 0, 0), (6, .getfield 20, 9, 8, 1), (9, .getfield 206, 12, 0, 15), (12, .invokevirtual 210, 15, 108, 0), (15, .ireturn, 16, 0, 0)],
  [(16, .iload_n 1, 17, 0, 0), (17, .invokestatic 216, 20, 161, 0), (20, .ifCond .eq 13, 23, 33, 0), (23, .iload_n 2, 24, 0, 0), (24, .iconst 1, 25, 0, 0), (25, .bipush 99, 27, 0, 0), (27, .invokestatic 74, 30, 162, 0), (30, .ifCond .ne 6, 33, 36, 0)],
  [(33, .bipush (-2), 35, 0, 0), (35, .ireturn, 36, 0, 0), (36, .aload_n 0, 37, 0, 0), (37, .getfield 20, 40, 8, 1), (40, .getfield 206, 43, 0, 15), (43, .iload_n 1, 44, 0, 0), (44, .iload_n 2, 45, 0, 0), (45, .iconst 0, 46, 0, 0), (46, .invokevirtual 219, 49, 107, 0)],
  [(49, .ireturn, 50, 0, 0)]]
def cd136 : List (List cEn) := [[(0, .aload_n 0, 1, 0, 0), (1, .getfield 20, 4, 8, 1), (4, .iload_n 1, 5, 0, 0), (5, .invokevirtual 139, 8, 7, 0), (8, .ifCond .eq 14, 11, 22, 0), (11, .aload_n 0, 12, 0, 0), (12, .getfield 20, 15, 8, 1), (15, .iload_n 1, 16, 0, 0)],
  [(16, .invokestatic 222, 19, 4, 0), (19, .goto 4, 22, 23, 0), (22, .iconst (-1), 23, 0, 0), (23, .ireturn, 24, 0, 0)]]
def cd137 : List (List cEn) := [[(0, .aload_n 0, 1, 0, 0), (1, .iload_n 1, 2, 0, 0), (2, .iload_n 2, 3, 0, 0), (3, .invokevirtual 200, 6, 160, 0), (6, .ifCond .eq 19, 9, 25, 0), (9, .iload_n 3, 10, 0, 0), (10, .iconst 1, 11, 0, 0), (11, .bipush 9, 13, 0, 0), (13, .invokestatic 74, 16, 162, 0)],
  [(16, .ifCond .eq 9, 19, 25, 0), (19, .iload_n 3, 20, 0, 0), (20, .iconst 2, 21, 0, 0), (21, .irem, 22, 0, 0), (22, .ifCond .ne 7, 25, 29, 0), (25, .ldc2_w 226, 28, 0, (-1)), (28, .lreturn, 29, 0, 0), (29, .aload_n 0, 30, 0, 0), (30, .getfield 10, 33, 8, 0)],
  [(33, .iload_n 1, 34, 0, 0), (34, .iload_n 2, 35, 0, 0), (35, .invokevirtual 164, 38, 42, 0), (38, .iload_n 3, 39, 0, 0), (39, .invokestatic 228, 42, 22, 0), (42, .lstore 5, 44, 0, 0), (44, .ldc2_w 234, 47, 0, 10), (47, .iload_n 3, 48, 0, 0)],
  [(48, .invokestatic 236, 51, 24, 0), (51, .lstore 7, 53, 0, 0), (53, .lload 5, 55, 0, 0), (55, .lload 7, 57, 0, 0), (57, .invokestatic 240, 60, 25, 0), (60, .lstore 9, 62, 0, 0), (62, .lload 9, 64, 0, 0)],
  [(64, .lconst 0, 65, 0, 0), (65, .lcmp, 66, 0, 0), (66, .ifCond .ne 7, 69, 73, 0), (69, .ldc2_w 226, 72, 0, (-1)), (72, .lreturn, 73, 0, 0), (73, .iload 4, 75, 0, 0), (75, .ifCond .eq 8, 78, 83, 0), (78, .lload 7, 80, 0, 0)],
  [(80, .goto 5, 83, 85, 0), (83, .lload 5, 85, 0, 0), (85, .lload 9, 87, 0, 0), (87, .ldiv, 88, 0, 0), (88, .lreturn, 89, 0, 0)]]
def cd138 : List (List cEn) := [[(0, .aload_n 0, 1, 0, 0), (1, .iload_n 1, 2, 0, 0), (2, .iload_n 2, 3, 0, 0), (3, .invokevirtual 200, 6, 160, 0), (6, .ifCond .eq 13, 9, 19, 0), (9, .iload_n 3, 10, 0, 0), (10, .iconst 0, 11, 0, 0), (11, .bipush 100, 13, 0, 0), (13, .invokestatic 74, 16, 162, 0)],
  [(16, .ifCond .ne 5, 19, 21, 0), (19, .iconst (-1), 20, 0, 0), (20, .ireturn, 21, 0, 0), (21, .aload_n 0, 22, 0, 0), (22, .getfield 10, 25, 8, 0), (25, .iload_n 1, 26, 0, 0), (26, .iload_n 2, 27, 0, 0), (27, .invokevirtual 164, 30, 42, 0), (30, .istore 4, 32, 0, 0)],
  [(32, .iconst 1, 33, 0, 0), (33, .istore 5, 35, 0, 0), (35, .iload 5, 37, 0, 0), (37, .bipush 9, 39, 0, 0), (39, .if_icmp .gt 38, 42, 77, 0), (42, .iload 4, 44, 0, 0), (44, .iload 5, 46, 0, 0), (46, .invokestatic 228, 49, 22, 0)],
  [(49, .ldc2_w 244, 52, 0, 100), (52, .lmul, 53, 0, 0), (53, .ldc2_w 234, 56, 0, 10), (56, .iload 5, 58, 0, 0), (58, .invokestatic 236, 61, 24, 0), (61, .iload_n 3, 62, 0, 0), (62, .i2l, 63, 0, 0), (63, .lmul, 64, 0, 0)],
  [(64, .lcmp, 65, 0, 0), (65, .ifCond .gt 6, 68, 71, 0), (68, .iload 5, 70, 0, 0), (70, .ireturn, 71, 0, 0), (71, .iinc 5 2, 74, 0, 0), (74, .goto (-39), 77, 35, 0), (77, .iconst (-1), 78, 0, 0), (78, .ireturn, 79, 0, 0)]]
def cd139 : List (List cEn) := [[(0, .aload_n 0, 1, 0, 0), (1, .getfield 20, 4, 8, 1), (4, .iload_n 1, 5, 0, 0), (5, .invokevirtual 139, 8, 7, 0), (8, .ifCond .eq 29, 11, 37, 0), (11, .aload_n 0, 12, 0, 0), (12, .getfield 20, 15, 8, 1), (15, .iload_n 2, 16, 0, 0)],
  [(16, .invokevirtual 139, 19, 7, 0), (19, .ifCond .eq 18, 22, 37, 0), (22, .iload_n 1, 23, 0, 0), (23, .iload_n 2, 24, 0, 0), (24, .if_icmp .eq 13, 27, 37, 0), (27, .iload_n 3, 28, 0, 0), (28, .iconst 1, 29, 0, 0), (29, .bipush 99, 31, 0, 0), (31, .invokestatic 74, 34, 162, 0)],
  [(34, .ifCond .ne 5, 37, 39, 0), (37, .iconst 0, 38, 0, 0), (38, .ireturn, 39, 0, 0), (39, .aload_n 0, 40, 0, 0), (40, .getfield 20, 43, 8, 1), (43, .getfield 246, 46, 0, 13), (46, .iload_n 1, 47, 0, 0), (47, .bipush 6, 49, 0, 0)],
  [(49, .imul, 50, 0, 0), (50, .iload_n 2, 51, 0, 0), (51, .iadd, 52, 0, 0), (52, .iload_n 3, 53, 0, 0), (53, .iastore, 54, 0, 0), (54, .aload_n 0, 55, 0, 0), (55, .getfield 20, 58, 8, 1), (58, .getfield 246, 61, 0, 13), (61, .iload_n 2, 62, 0, 0), (62, .bipush 6, 64, 0, 0)],
  [(64, .imul, 65, 0, 0), (65, .iload_n 1, 66, 0, 0), (66, .iadd, 67, 0, 0), (67, .iload_n 3, 68, 0, 0), (68, .iastore, 69, 0, 0), (69, .iconst 1, 70, 0, 0), (70, .ireturn, 71, 0, 0)]]
def cd140 : List (List cEn) := [[(0, .iload_n 1, 1, 0, 0), (1, .iconst (-1), 2, 0, 0), (2, .if_icmp .lt 21, 5, 23, 0), (5, .iload_n 1, 6, 0, 0), (6, .aload_n 0, 7, 0, 0), (7, .getfield 20, 10, 8, 1), (10, .getfield 249, 13, 0, 0), (13, .iconst 2, 14, 0, 0), (14, .isub, 15, 0, 0), (15, .if_icmp .le 11, 18, 26, 0)],
  [(18, .iload_n 1, 19, 0, 0), (19, .iconst (-1), 20, 0, 0), (20, .if_icmp .eq 6, 23, 26, 0), (23, .bipush (-2), 25, 0, 0), (25, .ireturn, 26, 0, 0), (26, .aload_n 0, 27, 0, 0), (27, .getfield 30, 30, 8, 3), (30, .aload_n 0, 31, 0, 0), (31, .getfield 20, 34, 8, 1)],
  [(34, .getfield 246, 37, 0, 13), (37, .aload_n 0, 38, 0, 0), (38, .getfield 20, 41, 8, 1), (41, .getfield 249, 44, 0, 0), (44, .invokevirtual 252, 47, 96, 0), (47, .iload_n 1, 48, 0, 0)],
  [(48, .iconst (-1), 49, 0, 0), (49, .if_icmp .ne 13, 52, 62, 0), (52, .aload_n 0, 53, 0, 0), (53, .getfield 30, 56, 8, 3), (56, .getfield 256, 59, 4, 2), (59, .goto 14, 62, 73, 0), (62, .aload_n 0, 63, 0, 0), (63, .getfield 30, 66, 8, 3)],
  [(66, .getfield 259, 69, 4, 1), (69, .iload_n 1, 70, 0, 0), (70, .iconst 1, 71, 0, 0), (71, .iadd, 72, 0, 0), (72, .iaload, 73, 0, 0), (73, .ireturn, 74, 0, 0)]]
def cd141 : List (List cEn) := [[(0, .iload_n 1, 1, 0, 0), (1, .iconst (-1), 2, 0, 0), (2, .if_icmp .ne 14, 5, 16, 0), (5, .aload_n 0, 6, 0, 0), (6, .getfield 20, 9, 8, 1), (9, .getfield 262, 12, 0, 16), (12, .invokevirtual 210, 15, 108, 0), (15, .ireturn, 16, 0, 0)],
  [(16, .iload_n 1, 17, 0, 0), (17, .iconst 0, 18, 0, 0), (18, .sipush 999, 21, 0, 0), (21, .invokestatic 74, 24, 162, 0), (24, .ifCond .eq 14, 27, 38, 0), (27, .iload_n 2, 28, 0, 0), (28, .iconst 0, 29, 0, 0), (29, .sipush 999, 32, 0, 0)],
  [(32, .invokestatic 74, 35, 162, 0), (35, .ifCond .ne 6, 38, 41, 0), (38, .bipush (-2), 40, 0, 0), (40, .ireturn, 41, 0, 0), (41, .aload_n 0, 42, 0, 0), (42, .getfield 20, 45, 8, 1), (45, .getfield 262, 48, 0, 16)],
  [(48, .iload_n 1, 49, 0, 0), (49, .iload_n 2, 50, 0, 0), (50, .iconst 0, 51, 0, 0), (51, .invokevirtual 219, 54, 107, 0), (54, .ireturn, 55, 0, 0)]]
def cd142 : List (List cEn) := [[(0, .aload_n 0, 1, 0, 0), (1, .getfield 20, 4, 8, 1), (4, .getfield 262, 7, 0, 16), (7, .invokestatic 265, 10, 28, 0), (10, .istore_n 2, 11, 0, 0), (11, .aload_n 0, 12, 0, 0), (12, .getfield 20, 15, 8, 1), (15, .getfield 262, 18, 0, 16)],
  [(18, .invokestatic 269, 21, 29, 0), (21, .istore_n 3, 22, 0, 0), (22, .iload_n 1, 23, 0, 0), (23, .tableswitch 44 0 2 #[25, 40, 42], 48, 12, 0)],
  [],
  [(48, .iload_n 2, 49, 0, 0), (49, .iconst (-1), 50, 0, 0), (50, .if_icmp .ne 7, 53, 57, 0), (53, .iconst 0, 54, 0, 0), (54, .goto 8, 57, 62, 0), (57, .iload_n 3, 58, 0, 0), (58, .iload_n 2, 59, 0, 0), (59, .isub, 60, 0, 0), (60, .iconst 1, 61, 0, 0), (61, .iadd, 62, 0, 0), (62, .ireturn, 63, 0, 0), (63, .iload_n 2, 64, 0, 0)],
  [(64, .ireturn, 65, 0, 0), (65, .iload_n 3, 66, 0, 0), (66, .ireturn, 67, 0, 0), (67, .bipush (-2), 69, 0, 0), (69, .ireturn, 70, 0, 0)]]
def cd143 : List (List cEn) := [[(0, .aload_n 0, 1, 0, 0), (1, .getfield 20, 4, 8, 1), (4, .getfield 262, 7, 0, 16), (7, .invokestatic 272, 10, 30, 0), (10, .ireturn, 11, 0, 0)]]
def cd144 : List (List cEn) := [[(0, .aload_n 0, 1, 0, 0), (1, .getfield 20, 4, 8, 1), (4, .iload_n 1, 5, 0, 0), (5, .invokevirtual 139, 8, 7, 0), (8, .ifCond .eq 14, 11, 22, 0), (11, .iload_n 2, 12, 0, 0), (12, .iconst 0, 13, 0, 0), (13, .sipush 999, 16, 0, 0)],
  [(16, .invokestatic 74, 19, 162, 0), (19, .ifCond .ne 5, 22, 24, 0), (22, .iconst (-1), 23, 0, 0), (23, .ireturn, 24, 0, 0), (24, .aload_n 0, 25, 0, 0), (25, .getfield 20, 28, 8, 1), (28, .iload_n 1, 29, 0, 0), (29, .iload_n 2, 30, 0, 0), (30, .invokestatic 275, 33, 33, 0)],
  [(33, .istore 4, 35, 0, 0), (35, .iload_n 3, 36, 0, 0), (36, .ifCond .eq 16, 39, 52, 0), (39, .aload_n 0, 40, 0, 0), (40, .getfield 20, 43, 8, 1), (43, .iload_n 1, 44, 0, 0), (44, .iload 4, 46, 0, 0), (46, .invokestatic 279, 49, 34, 0)],
  [(49, .goto 5, 52, 54, 0), (52, .iload 4, 54, 0, 0), (54, .ireturn, 55, 0, 0)]]
def cd145 : List (List cEn) := [[(0, .iload_n 1, 1, 0, 0), (1, .ifCond .le 15, 4, 16, 0), (4, .iload_n 1, 5, 0, 0), (5, .aload_n 0, 6, 0, 0), (6, .getfield 20, 9, 8, 1), (9, .getfield 249, 12, 0, 0), (12, .ishr, 13, 0, 0), (13, .ifCond .eq 5, 16, 18, 0)],
  [(16, .iconst (-1), 17, 0, 0), (17, .ireturn, 18, 0, 0), (18, .aload_n 0, 19, 0, 0), (19, .getfield 20, 22, 8, 1), (22, .iload_n 1, 23, 0, 0), (23, .invokestatic 282, 26, 35, 0), (26, .istore_n 3, 27, 0, 0), (27, .iload_n 2, 28, 0, 0), (28, .ifCond .eq 7, 31, 35, 0), (31, .iload_n 3, 32, 0, 0)],
  [(32, .goto 12, 35, 44, 0), (35, .aload_n 0, 36, 0, 0), (36, .getfield 20, 39, 8, 1), (39, .iload_n 1, 40, 0, 0), (40, .iload_n 3, 41, 0, 0), (41, .invokestatic 285, 44, 36, 0), (44, .ireturn, 45, 0, 0)]]
def cd146 : List (List cEn) := [[(0, .aload_n 0, 1, 0, 0), (1, .getfield 20, 4, 8, 1), (4, .invokestatic 288, 7, 37, 0), (7, .ireturn, 8, 0, 0)]]
def cd147 : List (List cEn) := [[(0, .aload_n 0, 1, 0, 0), (1, .getfield 20, 4, 8, 1), (4, .iload_n 1, 5, 0, 0), (5, .invokevirtual 139, 8, 7, 0), (8, .ifCond .eq 14, 11, 22, 0), (11, .aload_n 0, 12, 0, 0), (12, .getfield 20, 15, 8, 1), (15, .iload_n 1, 16, 0, 0)],
  [(16, .invokestatic 291, 19, 38, 0), (19, .goto 4, 22, 23, 0), (22, .iconst (-1), 23, 0, 0), (23, .ireturn, 24, 0, 0)]]
def cd148 : List (List cEn) := [[(0, .iload_n 1, 1, 0, 0), (1, .iconst 1, 2, 0, 0), (2, .bipush 99, 4, 0, 0), (4, .invokestatic 74, 7, 162, 0), (7, .ifCond .eq 14, 10, 21, 0), (10, .aload_n 0, 11, 0, 0), (11, .getfield 20, 14, 8, 1), (14, .iload_n 1, 15, 0, 0), (15, .invokestatic 294, 18, 32, 0)],
  [(18, .goto 4, 21, 22, 0), (21, .iconst (-1), 22, 0, 0), (22, .ireturn, 23, 0, 0)]]
def cd149 : List (List cEn) := [[(0, .iload_n 1, 1, 0, 0), (1, .iconst (-1), 2, 0, 0), (2, .if_icmp .ne 14, 5, 16, 0), (5, .aload_n 0, 6, 0, 0), (6, .getfield 20, 9, 8, 1), (9, .getfield 297, 12, 0, 17), (12, .invokevirtual 210, 15, 108, 0), (15, .ireturn, 16, 0, 0)],
  [(16, .aload_n 0, 17, 0, 0), (17, .getfield 20, 20, 8, 1), (20, .iload_n 1, 21, 0, 0), (21, .invokevirtual 139, 24, 7, 0), (24, .ifCond .eq 22, 27, 46, 0), (27, .iload_n 2, 28, 0, 0), (28, .iconst 0, 29, 0, 0), (29, .iconst 3, 30, 0, 0), (30, .invokestatic 74, 33, 162, 0)],
  [(33, .ifCond .eq 13, 36, 46, 0), (36, .iload_n 3, 37, 0, 0), (37, .iconst 0, 38, 0, 0), (38, .bipush 99, 40, 0, 0), (40, .invokestatic 74, 43, 162, 0), (43, .ifCond .ne 6, 46, 49, 0), (46, .bipush (-2), 48, 0, 0)],
  [(48, .ireturn, 49, 0, 0), (49, .aload_n 0, 50, 0, 0), (50, .getfield 20, 53, 8, 1), (53, .getfield 297, 56, 0, 17), (56, .iload_n 1, 57, 0, 0), (57, .iload_n 2, 58, 0, 0), (58, .iload_n 3, 59, 0, 0), (59, .invokevirtual 219, 62, 107, 0), (62, .ireturn, 63, 0, 0)]]
def cd150 : List (List cEn) := [[(0, .iconst 0, 1, 0, 0), (1, .istore_n 1, 2, 0, 0), (2, .iconst 0, 3, 0, 0), (3, .istore_n 2, 4, 0, 0), (4, .iload_n 2, 5, 0, 0), (5, .aload_n 0, 6, 0, 0), (6, .getfield 20, 9, 8, 1), (9, .getfield 71, 12, 0, 4), (12, .if_icmp .ge 39, 15, 51, 0), (15, .iload_n 2, 16, 0, 0)],
  [(16, .iconst 4, 17, 0, 0), (17, .if_icmp .ge 34, 20, 51, 0), (20, .aload_n 0, 21, 0, 0), (21, .getfield 10, 24, 8, 0), (24, .aload_n 0, 25, 0, 0), (25, .getfield 10, 28, 8, 0), (28, .getfield 78, 31, 1, 2), (31, .iload_n 2, 32, 0, 0)],
  [(32, .aaload, 33, 0, 0), (33, .invokestatic 300, 36, 3, 0), (36, .ifCond .eq 9, 39, 45, 0), (39, .iload_n 1, 40, 0, 0), (40, .iconst 1, 41, 0, 0), (41, .iload_n 2, 42, 0, 0), (42, .ishl, 43, 0, 0), (43, .ior, 44, 0, 0), (44, .istore_n 1, 45, 0, 0), (45, .iinc 2 1, 48, 0, 0)],
  [(48, .goto (-44), 51, 4, 0), (51, .iload_n 1, 52, 0, 0), (52, .ireturn, 53, 0, 0)]]
def cd151 : List (List cEn) := [[(0, .iload_n 1, 1, 0, 0), (1, .invokestatic 216, 4, 161, 0), (4, .ifCond .eq 13, 7, 17, 0), (7, .iload_n 2, 8, 0, 0), (8, .iconst 1, 9, 0, 0), (9, .bipush 99, 11, 0, 0), (11, .invokestatic 74, 14, 162, 0), (14, .ifCond .ne 5, 17, 19, 0)],
  [(17, .iconst 0, 18, 0, 0), (18, .ireturn, 19, 0, 0), (19, .aload_n 0, 20, 0, 0), (20, .getfield 20, 23, 8, 1), (23, .getfield 304, 26, 0, 12), (26, .iload_n 1, 27, 0, 0), (27, .iload_n 2, 28, 0, 0), (28, .iastore, 29, 0, 0), (29, .iconst 1, 30, 0, 0), (30, .ireturn, 31, 0, 0)]]
def cd152 : List (List cEn) := [[(0, .iload_n 1, 1, 0, 0), (1, .invokestatic 216, 4, 161, 0), (4, .ifCond .eq 18, 7, 22, 0), (7, .aload_n 0, 8, 0, 0), (8, .getfield 20, 11, 8, 1), (11, .getfield 304, 14, 0, 12), (14, .iload_n 1, 15, 0, 0), (15, .iload_n 2, 16, 0, 0)],
  [(16, .invokestatic 307, 19, 26, 0), (19, .goto 4, 22, 23, 0), (22, .iconst (-1), 23, 0, 0), (23, .ireturn, 24, 0, 0)]]
def cd153 : List (List cEn) := [[(0, .iload_n 1, 1, 0, 0), (1, .iconst (-1), 2, 0, 0), (2, .if_icmp .eq 17, 5, 19, 0), (5, .aload_n 0, 6, 0, 0), (6, .getfield 20, 9, 8, 1), (9, .iload_n 1, 10, 0, 0), (10, .invokevirtual 139, 13, 7, 0), (13, .ifCond .ne 6, 16, 19, 0)],
  [(16, .bipush (-2), 18, 0, 0), (18, .ireturn, 19, 0, 0), (19, .iconst 0, 20, 0, 0), (20, .istore_n 2, 21, 0, 0), (21, .iconst 0, 22, 0, 0), (22, .istore_n 3, 23, 0, 0), (23, .iload_n 3, 24, 0, 0), (24, .aload_n 0, 25, 0, 0), (25, .getfield 20, 28, 8, 1), (28, .getfield 179, 31, 0, 6), (31, .if_icmp .ge 37, 34, 68, 0)],
  [(34, .iload_n 1, 35, 0, 0), (35, .iconst (-1), 36, 0, 0), (36, .if_icmp .eq 15, 39, 51, 0), (39, .aload_n 0, 40, 0, 0), (40, .getfield 20, 43, 8, 1), (43, .iload_n 3, 44, 0, 0), (44, .invokevirtual 185, 47, 18, 0), (47, .iload_n 1, 48, 0, 0)],
  [(48, .if_icmp .ne 14, 51, 62, 0), (51, .iload_n 2, 52, 0, 0), (52, .aload_n 0, 53, 0, 0), (53, .getfield 20, 56, 8, 1), (56, .iload_n 3, 57, 0, 0), (57, .invokevirtual 191, 60, 16, 0), (60, .iadd, 61, 0, 0), (61, .istore_n 2, 62, 0, 0), (62, .iinc 3 1, 65, 0, 0)],
  [(65, .goto (-42), 68, 23, 0), (68, .iload_n 2, 69, 0, 0), (69, .ireturn, 70, 0, 0)]]
def cd154 : List (List cEn) := [[(0, .iload_n 1, 1, 0, 0), (1, .invokestatic 216, 4, 161, 0), (4, .ifCond .ne 6, 7, 10, 0), (7, .bipush (-2), 9, 0, 0), (9, .ireturn, 10, 0, 0), (10, .iconst 0, 11, 0, 0), (11, .istore_n 2, 12, 0, 0), (12, .iconst 0, 13, 0, 0), (13, .istore_n 3, 14, 0, 0), (14, .iload_n 3, 15, 0, 0), (15, .aload_n 0, 16, 0, 0)],
  [(16, .getfield 20, 19, 8, 1), (19, .getfield 179, 22, 0, 6), (22, .if_icmp .ge 24, 25, 46, 0), (25, .aload_n 0, 26, 0, 0), (26, .getfield 20, 29, 8, 1), (29, .iload_n 3, 30, 0, 0), (30, .invokevirtual 188, 33, 17, 0)],
  [(33, .iload_n 1, 34, 0, 0), (34, .if_icmp .ne 6, 37, 40, 0), (37, .iinc 2 1, 40, 0, 0), (40, .iinc 3 1, 43, 0, 0), (43, .goto (-29), 46, 14, 0), (46, .iload_n 2, 47, 0, 0), (47, .ireturn, 48, 0, 0)]]
def cd155 : List (List cEn) := [[(0, .iload_n 1, 1, 0, 0), (1, .iconst 0, 2, 0, 0), (2, .iconst 3, 3, 0, 0), (3, .invokestatic 74, 6, 162, 0), (6, .ifCond .ne 5, 9, 11, 0), (9, .iconst (-1), 10, 0, 0), (10, .ireturn, 11, 0, 0), (11, .iconst 0, 12, 0, 0), (12, .istore_n 2, 13, 0, 0), (13, .iconst 0, 14, 0, 0), (14, .istore_n 3, 15, 0, 0), (15, .iload_n 3, 16, 0, 0)],
  [(16, .aload_n 0, 17, 0, 0), (17, .getfield 20, 20, 8, 1), (20, .getfield 249, 23, 0, 0), (23, .if_icmp .ge 27, 26, 50, 0), (26, .aload_n 0, 27, 0, 0), (27, .getfield 20, 30, 8, 1), (30, .iload_n 3, 31, 0, 0), (31, .iload_n 1, 32, 0, 0)],
  [(32, .invokevirtual 158, 35, 10, 0), (35, .ifCond .ne 9, 38, 44, 0), (38, .iload_n 2, 39, 0, 0), (39, .iconst 1, 40, 0, 0), (40, .iload_n 3, 41, 0, 0), (41, .ishl, 42, 0, 0), (42, .ior, 43, 0, 0), (43, .istore_n 2, 44, 0, 0), (44, .iinc 3 1, 47, 0, 0), (47, .goto (-32), 50, 15, 0)],
  [(50, .iload_n 2, 51, 0, 0), (51, .ireturn, 52, 0, 0)]]
def cd156 : List (List cEn) := [[(0, .aload_n 0, 1, 0, 0), (1, .getfield 20, 4, 8, 1), (4, .invokestatic 311, 7, 39, 0), (7, .ireturn, 8, 0, 0)]]
def cd157 : List (List cEn) := [[(0, .aload_n 0, 1, 0, 0), (1, .getfield 24, 4, 8, 2), (4, .aload_n 0, 5, 0, 0), (5, .getfield 20, 8, 8, 1), (8, .invokevirtual 314, 11, 20, 0), (11, .aload_n 0, 12, 0, 0), (12, .getfield 20, 15, 8, 1), (15, .getfield 115, 18, 0, 2)],
  [(18, .ireturn, 19, 0, 0)]]
def cd158 : List (List cEn) := [[(0, .aload_n 0, 1, 0, 0), (1, .getfield 20, 4, 8, 1), (4, .aload_n 0, 5, 0, 0), (5, .getfield 24, 8, 8, 2), (8, .invokevirtual 314, 11, 20, 0), (11, .aload_n 0, 12, 0, 0), (12, .getfield 20, 15, 8, 1), (15, .getfield 115, 18, 0, 2)],
  [(18, .ireturn, 19, 0, 0)]]
def cd159 : List (List cEn) := [[(0, .iload_n 1, 1, 0, 0), (1, .tableswitch 120 0 7 #[47, 55, 63, 71, 82, 93, 104, 115], 48, 13, 0)],
  [],
  [],
  [(48, .aload_n 0, 49, 0, 0), (49, .getfield 20, 52, 8, 1), (52, .getfield 249, 55, 0, 0), (55, .ireturn, 56, 0, 0), (56, .aload_n 0, 57, 0, 0), (57, .getfield 20, 60, 8, 1), (60, .getfield 71, 63, 0, 4), (63, .ireturn, 64, 0, 0)],
  [(64, .aload_n 0, 65, 0, 0), (65, .getfield 20, 68, 8, 1), (68, .getfield 92, 71, 0, 5), (71, .ireturn, 72, 0, 0), (72, .aload_n 0, 73, 0, 0), (73, .getfield 20, 76, 8, 1), (76, .getfield 129, 79, 0, 18), (79, .getfield 318, 82, 5, 2)],
  [(82, .ireturn, 83, 0, 0), (83, .aload_n 0, 84, 0, 0), (84, .getfield 20, 87, 8, 1), (87, .getfield 206, 90, 0, 15), (90, .getfield 321, 93, 7, 3), (93, .ireturn, 94, 0, 0), (94, .aload_n 0, 95, 0, 0), (95, .getfield 20, 98, 8, 1)],
  [(98, .getfield 262, 101, 0, 16), (101, .getfield 321, 104, 7, 3), (104, .ireturn, 105, 0, 0), (105, .aload_n 0, 106, 0, 0), (106, .getfield 20, 109, 8, 1), (109, .getfield 297, 112, 0, 17)],
  [(112, .getfield 321, 115, 7, 3), (115, .ireturn, 116, 0, 0), (116, .aload_n 0, 117, 0, 0), (117, .getfield 45, 120, 8, 6), (120, .ireturn, 121, 0, 0), (121, .bipush (-2), 123, 0, 0), (123, .ireturn, 124, 0, 0)]]
end
section
def cd160 : List (List cEn) := [[(0, .aload_n 0, 1, 0, 0), (1, .getfield 20, 4, 8, 1), (4, .iload_n 1, 5, 0, 0), (5, .invokevirtual 139, 8, 7, 0), (8, .ifCond .eq 14, 11, 22, 0), (11, .iload_n 2, 12, 0, 0), (12, .invokestatic 216, 15, 161, 0), (15, .ifCond .eq 7, 18, 22, 0)],
  [(18, .iconst 1, 19, 0, 0), (19, .goto 4, 22, 23, 0), (22, .iconst 0, 23, 0, 0), (23, .ireturn, 24, 0, 0)]]
def cd161 : List (List cEn) := [[(0, .iload_n 0, 1, 0, 0), (1, .iconst 0, 2, 0, 0), (2, .iconst 2, 3, 0, 0), (3, .invokestatic 74, 6, 162, 0), (6, .ireturn, 7, 0, 0)]]
def cd162 : List (List cEn) := [[(0, .iload_n 0, 1, 0, 0), (1, .iload_n 1, 2, 0, 0), (2, .if_icmp .lt 12, 5, 14, 0), (5, .iload_n 0, 6, 0, 0), (6, .iload_n 2, 7, 0, 0), (7, .if_icmp .gt 7, 10, 14, 0), (10, .iconst 1, 11, 0, 0), (11, .goto 4, 14, 15, 0), (14, .iconst 0, 15, 0, 0), (15, .ireturn, 16, 0, 0)]]
def cd163 : List (List cEn) := [[(0, .iconst 0, 1, 0, 0), (1, .istore_n 2, 2, 0, 0), (2, .iload_n 2, 3, 0, 0), (3, .sipush 3856, 6, 0, 0), (6, .if_icmp .ge 15, 9, 21, 0), (9, .aload_n 1, 10, 0, 0), (10, .iload_n 2, 11, 0, 0), (11, .aload_n 0, 12, 0, 0), (12, .iload_n 2, 13, 0, 0), (13, .iaload, 14, 0, 0), (14, .iastore, 15, 0, 0), (15, .iinc 2 1, 18, 0, 0)],
  [(18, .goto (-16), 21, 2, 0), (21, .return_, 22, 0, 0)]]
def cd164 : List (List cEn) := [[(0, .iload_n 0, 1, 0, 0), (1, .iload_n 1, 2, 0, 0), (2, .if_icmp .lt 12, 5, 14, 0), (5, .iload_n 0, 6, 0, 0), (6, .iload_n 2, 7, 0, 0), (7, .if_icmp .gt 7, 10, 14, 0), (10, .iconst 1, 11, 0, 0), (11, .goto 4, 14, 15, 0), (14, .iconst 0, 15, 0, 0), (15, .ireturn, 16, 0, 0)]]
def cd165 : List (List cEn) := [[(0, .lload_n 0, 1, 0, 0), (1, .iload_n 2, 2, 0, 0), (2, .i2l, 3, 0, 0), (3, .lcmp, 4, 0, 0), (4, .ifCond .ge 7, 7, 11, 0), (7, .iload_n 2, 8, 0, 0), (8, .goto 16, 11, 24, 0), (11, .lload_n 0, 12, 0, 0), (12, .iload_n 3, 13, 0, 0), (13, .i2l, 14, 0, 0), (14, .lcmp, 15, 0, 0), (15, .ifCond .le 7, 18, 22, 0)],
  [(18, .iload_n 3, 19, 0, 0), (19, .goto 5, 22, 24, 0), (22, .lload_n 0, 23, 0, 0), (23, .l2i, 24, 0, 0), (24, .ireturn, 25, 0, 0)]]
def cd166 : List (List cEn) := [[(0, .iload_n 0, 1, 0, 0), (1, .iload_n 1, 2, 0, 0), (2, .ishr, 3, 0, 0), (3, .iconst 1, 4, 0, 0), (4, .iand, 5, 0, 0), (5, .iconst 1, 6, 0, 0), (6, .if_icmp .ne 7, 9, 13, 0), (9, .iconst 1, 10, 0, 0), (10, .goto 4, 13, 14, 0), (13, .iconst 0, 14, 0, 0), (14, .ireturn, 15, 0, 0)]]
def cd167 : List (List cEn) := [[(0, .iconst 0, 1, 0, 0), (1, .istore_n 1, 2, 0, 0), (2, .iload_n 0, 3, 0, 0), (3, .istore_n 2, 4, 0, 0), (4, .iload_n 2, 5, 0, 0), (5, .ifCond .eq 15, 8, 20, 0), (8, .iinc 1 1, 11, 0, 0), (11, .iload_n 2, 12, 0, 0), (12, .iload_n 2, 13, 0, 0), (13, .iconst 1, 14, 0, 0), (14, .isub, 15, 0, 0), (15, .iand, 16, 0, 0)],
  [(16, .istore_n 2, 17, 0, 0), (17, .goto (-13), 20, 4, 0), (20, .iload_n 1, 21, 0, 0), (21, .ireturn, 22, 0, 0)]]
def cd168 : List (List cEn) := [[(0, .iload_n 1, 1, 0, 0), (1, .iconst 0, 2, 0, 0), (2, .aload_n 0, 3, 0, 0), (3, .getfield 7, 6, 9, 0), (6, .iconst 0, 7, 0, 0), (7, .iaload, 8, 0, 0), (8, .iconst 1, 9, 0, 0), (9, .isub, 10, 0, 0), (10, .invokestatic 56, 13, 164, 0), (13, .ireturn, 14, 0, 0)]]
def cd169 : List (List cEn) := [[(0, .iload_n 0, 1, 0, 0), (1, .iconst 0, 2, 0, 0), (2, .iconst 2, 3, 0, 0), (3, .invokestatic 56, 6, 164, 0), (6, .ireturn, 7, 0, 0)]]
def cd170 : List (List cEn) := [[(0, .aload_n 0, 1, 0, 0), (1, .getfield 7, 4, 9, 0), (4, .bipush 12, 6, 0, 0), (6, .bipush 9, 8, 0, 0), (8, .iload_n 1, 9, 0, 0), (9, .imul, 10, 0, 0), (10, .iadd, 11, 0, 0), (11, .iload_n 2, 12, 0, 0), (12, .iadd, 13, 0, 0), (13, .iaload, 14, 0, 0), (14, .ireturn, 15, 0, 0)]]
def cd171 : List (List cEn) := [[(0, .aload_n 0, 1, 0, 0), (1, .getfield 7, 4, 9, 0), (4, .bipush 12, 6, 0, 0), (6, .bipush 9, 8, 0, 0), (8, .iload_n 1, 9, 0, 0), (9, .imul, 10, 0, 0), (10, .iadd, 11, 0, 0), (11, .iload_n 2, 12, 0, 0), (12, .iadd, 13, 0, 0), (13, .iload_n 3, 14, 0, 0), (14, .iastore, 15, 0, 0), (15, .return_, 16, 0, 0)]]
def cd172 : List (List cEn) := [[(0, .iload_n 0, 1, 0, 0), (1, .iload_n 1, 2, 0, 0), (2, .isub, 3, 0, 0), (3, .iconst 1, 4, 0, 0), (4, .if_icmp .ge 7, 7, 11, 0), (7, .iconst 1, 8, 0, 0), (8, .goto 6, 11, 14, 0), (11, .iload_n 0, 12, 0, 0), (12, .iload_n 1, 13, 0, 0), (13, .isub, 14, 0, 0), (14, .ireturn, 15, 0, 0)]]
def cd173 : List (List cEn) := [[(0, .aload_n 0, 1, 0, 0), (1, .getfield 7, 4, 9, 0), (4, .bipush 9, 6, 0, 0), (6, .iaload, 7, 0, 0), (7, .aload_n 0, 8, 0, 0), (8, .iload_n 1, 9, 0, 0), (9, .iconst 0, 10, 0, 0), (10, .invokevirtual 60, 13, 170, 0), (13, .invokestatic 64, 16, 172, 0)],
  [(16, .ireturn, 17, 0, 0)]]
def cd174 : List (List cEn) := [[(0, .aload_n 0, 1, 0, 0), (1, .iload_n 1, 2, 0, 0), (2, .iconst 2, 3, 0, 0), (3, .iload_n 2, 4, 0, 0), (4, .iadd, 5, 0, 0), (5, .invokevirtual 60, 8, 170, 0), (8, .aload_n 0, 9, 0, 0), (9, .getfield 7, 12, 9, 0), (12, .bipush 66, 14, 0, 0), (14, .iload_n 2, 15, 0, 0), (15, .iadd, 16, 0, 0)],
  [(16, .iaload, 17, 0, 0), (17, .iload_n 3, 18, 0, 0), (18, .imul, 19, 0, 0), (19, .isub, 20, 0, 0), (20, .ireturn, 21, 0, 0)]]
def cd175 : List (List cEn) := [[(0, .aload_n 0, 1, 0, 0), (1, .iload_n 1, 2, 0, 0), (2, .iload_n 2, 3, 0, 0), (3, .aload_n 0, 4, 0, 0), (4, .iload_n 1, 5, 0, 0), (5, .invokevirtual 67, 8, 173, 0), (8, .invokevirtual 71, 11, 174, 0), (11, .ifCond .le 7, 14, 18, 0), (14, .iconst 1, 15, 0, 0), (15, .goto 4, 18, 19, 0)],
  [(18, .iconst 0, 19, 0, 0), (19, .ireturn, 20, 0, 0)]]
def cd176 : List (List cEn) := [[(0, .iconst 0, 1, 0, 0), (1, .istore_n 2, 2, 0, 0), (2, .iconst 0, 3, 0, 0), (3, .istore_n 3, 4, 0, 0), (4, .iload_n 3, 5, 0, 0), (5, .iconst 3, 6, 0, 0), (6, .if_icmp .ge 28, 9, 34, 0), (9, .iload_n 2, 10, 0, 0), (10, .aload_n 0, 11, 0, 0), (11, .iload_n 1, 12, 0, 0), (12, .iload_n 3, 13, 0, 0), (13, .invokevirtual 75, 16, 175, 0)],
  [(16, .ifCond .eq 9, 19, 25, 0), (19, .iconst 1, 20, 0, 0), (20, .iload_n 3, 21, 0, 0), (21, .ishl, 22, 0, 0), (22, .goto 4, 25, 26, 0), (25, .iconst 0, 26, 0, 0), (26, .ior, 27, 0, 0), (27, .istore_n 2, 28, 0, 0), (28, .iinc 3 1, 31, 0, 0), (31, .goto (-27), 34, 4, 0)],
  [(34, .iload_n 2, 35, 0, 0), (35, .ireturn, 36, 0, 0)]]
def cd177 : List (List cEn) := [[(0, .iload_n 1, 1, 0, 0), (1, .iconst 0, 2, 0, 0), (2, .iconst 2, 3, 0, 0), (3, .invokestatic 56, 6, 164, 0), (6, .ifCond .eq 35, 9, 41, 0), (9, .iload_n 2, 10, 0, 0), (10, .iconst 0, 11, 0, 0), (11, .bipush 9, 13, 0, 0), (13, .invokestatic 56, 16, 164, 0)],
  [(16, .ifCond .eq 25, 19, 41, 0), (19, .iload_n 3, 20, 0, 0), (20, .iconst 0, 21, 0, 0), (21, .sipush 9999, 24, 0, 0), (24, .invokestatic 56, 27, 164, 0), (27, .ifCond .eq 14, 30, 41, 0), (30, .aload_n 0, 31, 0, 0), (31, .getfield 7, 34, 9, 0)],
  [(34, .iconst 0, 35, 0, 0), (35, .iaload, 36, 0, 0), (36, .bipush 6, 38, 0, 0), (38, .if_icmp .ne 5, 41, 43, 0), (41, .iconst (-1), 42, 0, 0), (42, .ireturn, 43, 0, 0), (43, .aload_n 0, 44, 0, 0), (44, .getfield 7, 47, 9, 0), (47, .iconst 0, 48, 0, 0)],
  [(48, .iaload, 49, 0, 0), (49, .istore 4, 51, 0, 0), (51, .aload_n 0, 52, 0, 0), (52, .iload 4, 54, 0, 0), (54, .bipush 6, 56, 0, 0), (56, .iload_n 1, 57, 0, 0), (57, .invokevirtual 79, 60, 171, 0), (60, .aload_n 0, 61, 0, 0), (61, .iload 4, 63, 0, 0), (63, .bipush 7, 65, 0, 0)],
  [(65, .iload_n 2, 66, 0, 0), (66, .invokevirtual 79, 69, 171, 0), (69, .aload_n 0, 70, 0, 0), (70, .iload 4, 72, 0, 0), (72, .bipush 8, 74, 0, 0), (74, .iload_n 3, 75, 0, 0), (75, .invokevirtual 79, 78, 171, 0), (78, .aload_n 0, 79, 0, 0), (79, .iload 4, 81, 0, 0)],
  [(81, .invokevirtual 83, 84, 178, 0), (84, .aload_n 0, 85, 0, 0), (85, .getfield 7, 88, 9, 0), (88, .iconst 0, 89, 0, 0), (89, .dup2, 90, 0, 0), (90, .iaload, 91, 0, 0), (91, .iconst 1, 92, 0, 0), (92, .iadd, 93, 0, 0), (93, .iastore, 94, 0, 0), (94, .iload 4, 96, 0, 0)],
  [(96, .ireturn, 97, 0, 0)]]
def cd178 : List (List cEn) := [[(0, .aload_n 0, 1, 0, 0), (1, .iload_n 1, 2, 0, 0), (2, .iconst 0, 3, 0, 0), (3, .aload_n 0, 4, 0, 0), (4, .iload_n 1, 5, 0, 0), (5, .bipush 7, 7, 0, 0), (7, .invokevirtual 60, 10, 170, 0), (10, .invokevirtual 79, 13, 171, 0), (13, .aload_n 0, 14, 0, 0), (14, .iload_n 1, 15, 0, 0), (15, .iconst 1, 16, 0, 0)],
  [(16, .aload_n 0, 17, 0, 0), (17, .iload_n 1, 18, 0, 0), (18, .bipush 8, 20, 0, 0), (20, .invokevirtual 60, 23, 170, 0), (23, .invokevirtual 79, 26, 171, 0), (26, .iconst 0, 27, 0, 0), (27, .istore_n 2, 28, 0, 0), (28, .iload_n 2, 29, 0, 0), (29, .iconst 4, 30, 0, 0), (30, .if_icmp .ge 18, 33, 48, 0)],
  [(33, .aload_n 0, 34, 0, 0), (34, .iload_n 1, 35, 0, 0), (35, .iconst 2, 36, 0, 0), (36, .iload_n 2, 37, 0, 0), (37, .iadd, 38, 0, 0), (38, .iconst 0, 39, 0, 0), (39, .invokevirtual 79, 42, 171, 0), (42, .iinc 2 1, 45, 0, 0), (45, .goto (-17), 48, 28, 0)],
  [(48, .return_, 49, 0, 0)]]
def cd179 : List (List cEn) := [[(0, .iload_n 1, 1, 0, 0), (1, .invokestatic 87, 4, 169, 0), (4, .ifCond .eq 13, 7, 17, 0), (7, .iload_n 2, 8, 0, 0), (8, .iconst 0, 9, 0, 0), (9, .bipush 9, 11, 0, 0), (11, .invokestatic 56, 14, 164, 0), (14, .ifCond .ne 5, 17, 19, 0)],
  [(17, .iconst 0, 18, 0, 0), (18, .ireturn, 19, 0, 0), (19, .aload_n 0, 20, 0, 0), (20, .getfield 7, 23, 9, 0), (23, .bipush 66, 25, 0, 0), (25, .iload_n 1, 26, 0, 0), (26, .iadd, 27, 0, 0), (27, .iload_n 2, 28, 0, 0), (28, .iastore, 29, 0, 0), (29, .iconst 1, 30, 0, 0), (30, .ireturn, 31, 0, 0)]]
def cd180 : List (List cEn) := [[(0, .iload_n 1, 1, 0, 0), (1, .iconst 1, 2, 0, 0), (2, .bipush 99, 4, 0, 0), (4, .invokestatic 56, 7, 164, 0), (7, .ifCond .ne 5, 10, 12, 0), (10, .iconst 0, 11, 0, 0), (11, .ireturn, 12, 0, 0), (12, .aload_n 0, 13, 0, 0), (13, .getfield 7, 16, 9, 0)],
  [(16, .bipush 9, 18, 0, 0), (18, .iload_n 1, 19, 0, 0), (19, .iastore, 20, 0, 0), (20, .iconst 0, 21, 0, 0), (21, .istore_n 2, 22, 0, 0), (22, .iload_n 2, 23, 0, 0), (23, .aload_n 0, 24, 0, 0), (24, .getfield 7, 27, 9, 0), (27, .iconst 3, 28, 0, 0), (28, .iaload, 29, 0, 0), (29, .if_icmp .ge 25, 32, 54, 0)],
  [(32, .aload_n 0, 33, 0, 0), (33, .getfield 7, 36, 9, 0), (36, .sipush 166, 39, 0, 0), (39, .bipush 41, 41, 0, 0), (41, .iload_n 2, 42, 0, 0), (42, .imul, 43, 0, 0), (43, .iadd, 44, 0, 0), (44, .iconst 2, 45, 0, 0), (45, .iadd, 46, 0, 0), (46, .iload_n 1, 47, 0, 0), (47, .iastore, 48, 0, 0)],
  [(48, .iinc 2 1, 51, 0, 0), (51, .goto (-29), 54, 22, 0), (54, .iconst 1, 55, 0, 0), (55, .ireturn, 56, 0, 0)]]
def cd181 : List (List cEn) := [[(0, .bipush 24, 2, 0, 0), (2, .istore_n 2, 3, 0, 0), (3, .iload_n 2, 4, 0, 0), (4, .ifCond .lt 35, 7, 39, 0), (7, .aload_n 0, 8, 0, 0), (8, .getfield 19, 11, 9, 3), (11, .aload_n 0, 12, 0, 0), (12, .getfield 91, 15, 9, 4), (15, .iload_n 1, 16, 0, 0)],
  [(16, .iload_n 2, 17, 0, 0), (17, .ishr, 18, 0, 0), (18, .sipush 255, 21, 0, 0), (21, .iand, 22, 0, 0), (22, .iastore, 23, 0, 0), (23, .aload_n 0, 24, 0, 0), (24, .dup, 25, 0, 0), (25, .getfield 91, 28, 9, 4), (28, .iconst 1, 29, 0, 0), (29, .iadd, 30, 0, 0), (30, .putfield 91, 33, 9, 4)],
  [(33, .iinc 2 (-8), 36, 0, 0), (36, .goto (-33), 39, 3, 0), (39, .return_, 40, 0, 0)]]
def cd182 : List (List cEn) := [[(0, .aload_n 0, 1, 0, 0), (1, .getfield 91, 4, 9, 4), (4, .bipush 20, 6, 0, 0), (6, .iadd, 7, 0, 0), (7, .sipush 300, 10, 0, 0), (10, .if_icmp .le 5, 13, 15, 0), (13, .iconst (-1), 14, 0, 0), (14, .ireturn, 15, 0, 0), (15, .aload_n 0, 16, 0, 0)],
  [(16, .iload_n 1, 17, 0, 0), (17, .invokevirtual 94, 20, 181, 0), (20, .aload_n 0, 21, 0, 0), (21, .iload_n 2, 22, 0, 0), (22, .invokevirtual 94, 25, 181, 0), (25, .aload_n 0, 26, 0, 0), (26, .iload_n 3, 27, 0, 0), (27, .invokevirtual 94, 30, 181, 0), (30, .aload_n 0, 31, 0, 0), (31, .iload 4, 33, 0, 0)],
  [(33, .invokevirtual 94, 36, 181, 0), (36, .aload_n 0, 37, 0, 0), (37, .iload 5, 39, 0, 0), (39, .invokevirtual 94, 42, 181, 0), (42, .aload_n 0, 43, 0, 0), (43, .getfield 91, 46, 9, 4), (46, .ireturn, 47, 0, 0)]]
def cd183 : List (List cEn) := [[(0, .iload_n 1, 1, 0, 0), (1, .iconst 0, 2, 0, 0), (2, .aload_n 0, 3, 0, 0), (3, .getfield 91, 6, 9, 4), (6, .invokestatic 56, 9, 164, 0), (9, .ifCond .ne 5, 12, 14, 0), (12, .iconst (-1), 13, 0, 0), (13, .ireturn, 14, 0, 0), (14, .aload_n 0, 15, 0, 0), (15, .iload_n 1, 16, 0, 0)],
  [(16, .putfield 91, 19, 9, 4), (19, .iload_n 1, 20, 0, 0), (20, .ireturn, 21, 0, 0)]]
def cd184 : List (List cEn) := [[(0, .iload_n 1, 1, 0, 0), (1, .aload_n 0, 2, 0, 0), (2, .getfield 91, 5, 9, 4), (5, .if_icmp .ge 12, 8, 17, 0), (8, .aload_n 0, 9, 0, 0), (9, .getfield 19, 12, 9, 3), (12, .iload_n 1, 13, 0, 0), (13, .iaload, 14, 0, 0), (14, .goto 4, 17, 18, 0)],
  [(17, .iconst (-1), 18, 0, 0), (18, .ireturn, 19, 0, 0)]]
def cd185 : List (List cEn) := [[(0, .iload_n 0, 1, 0, 0), (1, .bipush 97, 3, 0, 0), (3, .if_icmp .lt 9, 6, 12, 0), (6, .iload_n 0, 7, 0, 0), (7, .bipush 122, 9, 0, 0), (9, .if_icmp .le 15, 12, 24, 0), (12, .iload_n 0, 13, 0, 0), (13, .bipush 65, 15, 0, 0), (15, .if_icmp .lt 13, 18, 28, 0)],
  [(18, .iload_n 0, 19, 0, 0), (19, .bipush 90, 21, 0, 0), (21, .if_icmp .gt 7, 24, 28, 0), (24, .iconst 1, 25, 0, 0), (25, .goto 4, 28, 29, 0), (28, .iconst 0, 29, 0, 0), (29, .ireturn, 30, 0, 0)]]
def cd186 : List (List cEn) := [[(0, .iload_n 0, 1, 0, 0), (1, .bipush 48, 3, 0, 0), (3, .if_icmp .lt 13, 6, 16, 0), (6, .iload_n 0, 7, 0, 0), (7, .bipush 57, 9, 0, 0), (9, .if_icmp .gt 7, 12, 16, 0), (12, .iconst 1, 13, 0, 0), (13, .goto 4, 16, 17, 0)],
  [(16, .iconst 0, 17, 0, 0), (17, .ireturn, 18, 0, 0)]]
def cd187 : List (List cEn) := [[(0, .iload_n 0, 1, 0, 0), (1, .tableswitch 129 35 62 #[127, 129, 129, 129, 129, 127, 127, 127, 127, 129, 127, 129, 127, 129, 129, 129, 129, 129, 129, 129, 129, 129, 129, 127, 127, 127, 127, 127], 128, 14, 0)],
  [],
  [],
  [],
  [],
  [],
  [],
  [],
  [(128, .iconst 1, 129, 0, 0), (129, .ireturn, 130, 0, 0), (130, .iconst 0, 131, 0, 0), (131, .ireturn, 132, 0, 0)]]
def cd188 : List (List cEn) := [[(0, .aload_n 0, 1, 0, 0), (1, .aload_n 0, 2, 0, 0), (2, .getfield 97, 5, 9, 7), (5, .invokevirtual 100, 8, 184, 0), (8, .bipush 32, 10, 0, 0), (10, .if_icmp .eq 16, 13, 26, 0), (13, .aload_n 0, 14, 0, 0), (14, .aload_n 0, 15, 0, 0), (15, .getfield 97, 18, 9, 7)],
  [(18, .invokevirtual 100, 21, 184, 0), (21, .bipush 10, 23, 0, 0), (23, .if_icmp .ne 16, 26, 39, 0), (26, .aload_n 0, 27, 0, 0), (27, .dup, 28, 0, 0), (28, .getfield 97, 31, 9, 7), (31, .iconst 1, 32, 0, 0)],
  [(32, .iadd, 33, 0, 0), (33, .putfield 97, 36, 9, 7), (36, .goto (-36), 39, 0, 0), (39, .aload_n 0, 40, 0, 0), (40, .aload_n 0, 41, 0, 0), (41, .getfield 97, 44, 9, 7), (44, .putfield 103, 47, 9, 8), (47, .aload_n 0, 48, 0, 0)],
  [(48, .aload_n 0, 49, 0, 0), (49, .getfield 97, 52, 9, 7), (52, .invokevirtual 100, 55, 184, 0), (55, .istore_n 1, 56, 0, 0), (56, .iload_n 1, 57, 0, 0), (57, .ifCond .ge 11, 60, 68, 0), (60, .aload_n 0, 61, 0, 0), (61, .iconst 0, 62, 0, 0), (62, .putfield 106, 65, 9, 9)],
  [(65, .goto 245, 68, 310, 0), (68, .iload_n 1, 69, 0, 0), (69, .invokestatic 109, 72, 186, 0), (72, .ifCond .eq 79, 75, 151, 0), (75, .aload_n 0, 76, 0, 0), (76, .iconst 1, 77, 0, 0), (77, .putfield 106, 80, 9, 9)],
  [(80, .aload_n 0, 81, 0, 0), (81, .iconst 0, 82, 0, 0), (82, .putfield 112, 85, 9, 10), (85, .aload_n 0, 86, 0, 0), (86, .aload_n 0, 87, 0, 0), (87, .getfield 97, 90, 9, 7), (90, .invokevirtual 100, 93, 184, 0), (93, .invokestatic 109, 96, 186, 0)],
  [(96, .ifCond .eq 214, 99, 310, 0), (99, .aload_n 0, 100, 0, 0), (100, .aload_n 0, 101, 0, 0), (101, .getfield 112, 104, 9, 10), (104, .ldc 115, 106, 0, 99999), (106, .if_icmp .le 10, 109, 116, 0), (109, .aload_n 0, 110, 0, 0), (110, .getfield 112, 113, 9, 10)],
  [(113, .goto 22, 116, 135, 0), (116, .bipush 10, 118, 0, 0), (118, .aload_n 0, 119, 0, 0), (119, .getfield 112, 122, 9, 10), (122, .imul, 123, 0, 0), (123, .aload_n 0, 124, 0, 0), (124, .aload_n 0, 125, 0, 0), (125, .getfield 97, 128, 9, 7)],
  [(128, .invokevirtual 100, 131, 184, 0), (131, .iadd, 132, 0, 0), (132, .bipush 48, 134, 0, 0), (134, .isub, 135, 0, 0), (135, .putfield 112, 138, 9, 10), (138, .aload_n 0, 139, 0, 0), (139, .dup, 140, 0, 0), (140, .getfield 97, 143, 9, 7), (143, .iconst 1, 144, 0, 0)],
  [(144, .iadd, 145, 0, 0), (145, .putfield 97, 148, 9, 7), (148, .goto (-63), 151, 85, 0), (151, .iload_n 1, 152, 0, 0), (152, .invokestatic 116, 155, 185, 0), (155, .ifCond .eq 79, 158, 234, 0), (158, .aload_n 0, 159, 0, 0), (159, .iconst 2, 160, 0, 0)],
  [(160, .putfield 106, 163, 9, 9), (163, .aload_n 0, 164, 0, 0), (164, .lconst 0, 165, 0, 0), (165, .putfield 119, 168, 9, 11), (168, .aload_n 0, 169, 0, 0), (169, .aload_n 0, 170, 0, 0), (170, .getfield 97, 173, 9, 7), (173, .invokevirtual 100, 176, 184, 0)],
  [(176, .invokestatic 116, 179, 185, 0), (179, .ifCond .eq 131, 182, 310, 0), (182, .aload_n 0, 183, 0, 0), (183, .aload_n 0, 184, 0, 0), (184, .getfield 119, 187, 9, 11), (187, .bipush 48, 189, 0, 0), (189, .lshr, 190, 0, 0), (190, .lconst 0, 191, 0, 0), (191, .lcmp, 192, 0, 0)],
  [(192, .ifCond .eq 9, 195, 201, 0), (195, .ldc2_w 123, 198, 0, 1152921504606846976), (198, .goto 20, 201, 218, 0), (201, .aload_n 0, 202, 0, 0), (202, .getfield 119, 205, 9, 11), (205, .bipush 8, 207, 0, 0), (207, .lshl, 208, 0, 0)],
  [(208, .aload_n 0, 209, 0, 0), (209, .aload_n 0, 210, 0, 0), (210, .getfield 97, 213, 9, 7), (213, .invokevirtual 100, 216, 184, 0), (216, .i2l, 217, 0, 0), (217, .lor, 218, 0, 0), (218, .putfield 119, 221, 9, 11), (221, .aload_n 0, 222, 0, 0), (222, .dup, 223, 0, 0), (223, .getfield 97, 226, 9, 7)],
  [(226, .iconst 1, 227, 0, 0), (227, .iadd, 228, 0, 0), (228, .putfield 97, 231, 9, 7), (231, .goto (-63), 234, 168, 0), (234, .aload_n 0, 235, 0, 0), (235, .iload_n 1, 236, 0, 0), (236, .invokestatic 125, 239, 187, 0), (239, .ifCond .eq 7, 242, 246, 0)],
  [(242, .iload_n 1, 243, 0, 0), (243, .goto 4, 246, 247, 0), (246, .iconst 3, 247, 0, 0), (247, .putfield 106, 250, 9, 9), (250, .aload_n 0, 251, 0, 0), (251, .dup, 252, 0, 0), (252, .getfield 97, 255, 9, 7), (255, .iconst 1, 256, 0, 0)],
  [(256, .iadd, 257, 0, 0), (257, .putfield 97, 260, 9, 7), (260, .iload_n 1, 261, 0, 0), (261, .bipush 60, 263, 0, 0), (263, .if_icmp .eq 9, 266, 272, 0), (266, .iload_n 1, 267, 0, 0), (267, .bipush 62, 269, 0, 0), (269, .if_icmp .ne 41, 272, 310, 0)],
  [(272, .aload_n 0, 273, 0, 0), (273, .aload_n 0, 274, 0, 0), (274, .getfield 97, 277, 9, 7), (277, .invokevirtual 100, 280, 184, 0), (280, .bipush 61, 282, 0, 0), (282, .if_icmp .ne 28, 285, 310, 0), (285, .aload_n 0, 286, 0, 0), (286, .iload_n 1, 287, 0, 0), (287, .bipush 60, 289, 0, 0)],
  [(289, .if_icmp .ne 7, 292, 296, 0), (292, .iconst 4, 293, 0, 0), (293, .goto 4, 296, 297, 0), (296, .iconst 5, 297, 0, 0), (297, .putfield 106, 300, 9, 9), (300, .aload_n 0, 301, 0, 0), (301, .dup, 302, 0, 0), (302, .getfield 97, 305, 9, 7)],
  [(305, .iconst 1, 306, 0, 0), (306, .iadd, 307, 0, 0), (307, .putfield 97, 310, 9, 7), (310, .return_, 311, 0, 0)]]
def cd189 : List (List cEn) := [[(0, .iload_n 0, 1, 0, 0), (1, .i2l, 2, 0, 0), (2, .bipush 8, 4, 0, 0), (4, .lshl, 5, 0, 0), (5, .iload_n 1, 6, 0, 0), (6, .i2l, 7, 0, 0), (7, .lor, 8, 0, 0), (8, .lreturn, 9, 0, 0)]]
def cd190 : List (List cEn) := [[(0, .iload_n 0, 1, 0, 0), (1, .iload_n 1, 2, 0, 0), (2, .invokestatic 128, 5, 189, 0), (5, .bipush 8, 7, 0, 0), (7, .lshl, 8, 0, 0), (8, .iload_n 2, 9, 0, 0), (9, .i2l, 10, 0, 0), (10, .lor, 11, 0, 0), (11, .lreturn, 12, 0, 0)]]
def cd191 : List (List cEn) := [[(0, .iload_n 0, 1, 0, 0), (1, .iload_n 1, 2, 0, 0), (2, .iload_n 2, 3, 0, 0), (3, .invokestatic 132, 6, 190, 0), (6, .bipush 8, 8, 0, 0), (8, .lshl, 9, 0, 0), (9, .iload_n 3, 10, 0, 0), (10, .i2l, 11, 0, 0), (11, .lor, 12, 0, 0), (12, .lreturn, 13, 0, 0)]]
def cd192 : List (List cEn) := [[(0, .iload_n 0, 1, 0, 0), (1, .iload_n 1, 2, 0, 0), (2, .iload_n 2, 3, 0, 0), (3, .iload_n 3, 4, 0, 0), (4, .invokestatic 136, 7, 191, 0), (7, .bipush 8, 9, 0, 0), (9, .lshl, 10, 0, 0), (10, .iload 4, 12, 0, 0), (12, .i2l, 13, 0, 0), (13, .lor, 14, 0, 0), (14, .lreturn, 15, 0, 0)]]
def cd193 : List (List cEn) := [[(0, .iload_n 0, 1, 0, 0), (1, .iload_n 1, 2, 0, 0), (2, .iload_n 2, 3, 0, 0), (3, .iload_n 3, 4, 0, 0), (4, .iload 4, 6, 0, 0), (6, .invokestatic 140, 9, 192, 0), (9, .bipush 8, 11, 0, 0), (11, .lshl, 12, 0, 0), (12, .iload 5, 14, 0, 0), (14, .i2l, 15, 0, 0), (15, .lor, 16, 0, 0)],
  [(16, .lreturn, 17, 0, 0)]]
def cd194 : List (List cEn) := [[(0, .aload_n 0, 1, 0, 0), (1, .getfield 106, 4, 9, 9), (4, .iconst 2, 5, 0, 0), (5, .if_icmp .ne 16, 8, 21, 0), (8, .aload_n 0, 9, 0, 0), (9, .getfield 119, 12, 9, 11), (12, .lload_n 1, 13, 0, 0), (13, .lcmp, 14, 0, 0), (14, .ifCond .ne 7, 17, 21, 0)],
  [(17, .iconst 1, 18, 0, 0), (18, .goto 4, 21, 22, 0), (21, .iconst 0, 22, 0, 0), (22, .ireturn, 23, 0, 0)]]
def cd195 : List (List cEn) := [[(0, .aload_n 0, 1, 0, 0), (1, .getfield 16, 4, 9, 2), (4, .aload_n 0, 5, 0, 0), (5, .getfield 144, 8, 9, 12), (8, .bipush 97, 10, 0, 0), (10, .iadd, 11, 0, 0), (11, .iconst 2, 12, 0, 0), (12, .aload_n 0, 13, 0, 0), (13, .getfield 147, 16, 9, 13)],
  [(16, .imul, 17, 0, 0), (17, .iadd, 18, 0, 0), (18, .iload_n 1, 19, 0, 0), (19, .iastore, 20, 0, 0), (20, .aload_n 0, 21, 0, 0), (21, .getfield 16, 24, 9, 2), (24, .aload_n 0, 25, 0, 0), (25, .getfield 144, 28, 9, 12), (28, .bipush 97, 30, 0, 0), (30, .iadd, 31, 0, 0), (31, .iconst 2, 32, 0, 0)],
  [(32, .aload_n 0, 33, 0, 0), (33, .getfield 147, 36, 9, 13), (36, .imul, 37, 0, 0), (37, .iadd, 38, 0, 0), (38, .iconst 1, 39, 0, 0), (39, .iadd, 40, 0, 0), (40, .iload_n 2, 41, 0, 0), (41, .iastore, 42, 0, 0), (42, .aload_n 0, 43, 0, 0), (43, .dup, 44, 0, 0), (44, .getfield 147, 47, 9, 13), (47, .iconst 1, 48, 0, 0)],
  [(48, .iadd, 49, 0, 0), (49, .putfield 147, 52, 9, 13), (52, .return_, 53, 0, 0)]]
def cd196 : List (List cEn) := [[(0, .aload_n 0, 1, 0, 0), (1, .getfield 106, 4, 9, 9), (4, .iconst 2, 5, 0, 0), (5, .if_icmp .eq 5, 8, 10, 0), (8, .iconst (-1), 9, 0, 0), (9, .ireturn, 10, 0, 0), (10, .aload_n 0, 11, 0, 0), (11, .getfield 119, 14, 9, 11), (14, .bipush 100, 16, 0, 0)],
  [(16, .bipush 97, 18, 0, 0), (18, .bipush 121, 20, 0, 0), (20, .invokestatic 132, 23, 190, 0), (23, .lcmp, 24, 0, 0), (24, .ifCond .ne 5, 27, 29, 0), (27, .iconst 0, 28, 0, 0), (28, .ireturn, 29, 0, 0), (29, .aload_n 0, 30, 0, 0), (30, .getfield 119, 33, 9, 11)],
  [(33, .bipush 119, 35, 0, 0), (35, .bipush 104, 37, 0, 0), (37, .bipush 111, 39, 0, 0), (39, .invokestatic 132, 42, 190, 0), (42, .lcmp, 43, 0, 0), (43, .ifCond .ne 5, 46, 48, 0), (46, .iconst 1, 47, 0, 0), (47, .ireturn, 48, 0, 0)],
  [(48, .aload_n 0, 49, 0, 0), (49, .getfield 119, 52, 9, 11), (52, .bipush 115, 54, 0, 0), (54, .bipush 116, 56, 0, 0), (56, .bipush 117, 58, 0, 0), (58, .bipush 102, 60, 0, 0), (60, .bipush 102, 62, 0, 0), (62, .invokestatic 140, 65, 192, 0)],
  [(65, .lcmp, 66, 0, 0), (66, .ifCond .ne 5, 69, 71, 0), (69, .iconst 2, 70, 0, 0), (70, .ireturn, 71, 0, 0), (71, .aload_n 0, 72, 0, 0), (72, .getfield 119, 75, 9, 11), (75, .bipush 100, 77, 0, 0), (77, .bipush 101, 79, 0, 0), (79, .bipush 110, 81, 0, 0)],
  [(81, .bipush 116, 83, 0, 0), (83, .invokestatic 136, 86, 191, 0), (86, .lcmp, 87, 0, 0), (87, .ifCond .ne 5, 90, 92, 0), (90, .iconst 3, 91, 0, 0), (91, .ireturn, 92, 0, 0), (92, .aload_n 0, 93, 0, 0), (93, .getfield 119, 96, 9, 11)],
  [(96, .bipush 114, 98, 0, 0), (98, .bipush 111, 100, 0, 0), (100, .bipush 111, 102, 0, 0), (102, .bipush 109, 104, 0, 0), (104, .invokestatic 136, 107, 191, 0), (107, .lcmp, 108, 0, 0), (108, .ifCond .ne 5, 111, 113, 0), (111, .iconst 4, 112, 0, 0)],
  [(112, .ireturn, 113, 0, 0), (113, .aload_n 0, 114, 0, 0), (114, .getfield 119, 117, 9, 11), (117, .bipush 107, 119, 0, 0), (119, .bipush 105, 121, 0, 0), (121, .bipush 110, 123, 0, 0), (123, .bipush 100, 125, 0, 0), (125, .invokestatic 136, 128, 191, 0)],
  [(128, .lcmp, 129, 0, 0), (129, .ifCond .ne 5, 132, 134, 0), (132, .iconst 5, 133, 0, 0), (133, .ireturn, 134, 0, 0), (134, .aload_n 0, 135, 0, 0), (135, .getfield 119, 138, 9, 11), (138, .bipush 100, 140, 0, 0), (140, .bipush 114, 142, 0, 0), (142, .bipush 111, 144, 0, 0)],
  [(144, .bipush 112, 146, 0, 0), (146, .bipush 115, 148, 0, 0), (148, .invokestatic 140, 151, 192, 0), (151, .lcmp, 152, 0, 0), (152, .ifCond .ne 6, 155, 158, 0), (155, .bipush 6, 157, 0, 0), (157, .ireturn, 158, 0, 0), (158, .aload_n 0, 159, 0, 0), (159, .getfield 119, 162, 9, 11)],
  [(162, .bipush 99, 164, 0, 0), (164, .bipush 111, 166, 0, 0), (166, .bipush 105, 168, 0, 0), (168, .bipush 110, 170, 0, 0), (170, .bipush 115, 172, 0, 0), (172, .invokestatic 140, 175, 192, 0), (175, .lcmp, 176, 0, 0)],
  [(176, .ifCond .ne 8, 179, 184, 0), (179, .bipush 7, 181, 0, 0), (181, .goto 30, 184, 211, 0), (184, .aload_n 0, 185, 0, 0), (185, .getfield 119, 188, 9, 11), (188, .bipush 116, 190, 0, 0), (190, .bipush 101, 192, 0, 0)],
  [(192, .bipush 97, 194, 0, 0), (194, .bipush 114, 196, 0, 0), (196, .bipush 115, 198, 0, 0), (198, .invokestatic 140, 201, 192, 0), (201, .lcmp, 202, 0, 0), (202, .ifCond .ne 8, 205, 210, 0), (205, .bipush 8, 207, 0, 0), (207, .goto 4, 210, 211, 0)],
  [(210, .iconst (-1), 211, 0, 0), (211, .ireturn, 212, 0, 0)]]
def cd197 : List (List cEn) := [[(0, .iload_n 0, 1, 0, 0), (1, .bipush 40, 3, 0, 0), (3, .if_icmp .lt 7, 6, 10, 0), (6, .iconst 0, 7, 0, 0), (7, .goto 75, 10, 82, 0), (10, .iload_n 0, 11, 0, 0), (11, .bipush 22, 13, 0, 0), (13, .if_icmp .ne 7, 16, 20, 0)],
  [(16, .iconst 1, 17, 0, 0), (17, .goto 65, 20, 82, 0), (20, .iload_n 0, 21, 0, 0), (21, .bipush 21, 23, 0, 0), (23, .if_icmp .ne 7, 26, 30, 0), (26, .iconst 2, 27, 0, 0), (27, .goto 55, 30, 82, 0), (30, .iload_n 0, 31, 0, 0), (31, .bipush 20, 33, 0, 0)],
  [(33, .if_icmp .ne 7, 36, 40, 0), (36, .iconst 3, 37, 0, 0), (37, .goto 45, 40, 82, 0), (40, .iload_n 0, 41, 0, 0), (41, .bipush 10, 43, 0, 0), (43, .if_icmp .lt 7, 46, 50, 0), (46, .iconst 4, 47, 0, 0), (47, .goto 35, 50, 82, 0)],
  [(50, .iload_n 0, 51, 0, 0), (51, .iconst 5, 52, 0, 0), (52, .if_icmp .eq 13, 55, 65, 0), (55, .iload_n 0, 56, 0, 0), (56, .iconst 2, 57, 0, 0), (57, .if_icmp .eq 8, 60, 65, 0), (60, .iload_n 0, 61, 0, 0), (61, .iconst 4, 62, 0, 0), (62, .if_icmp .ne 8, 65, 70, 0)],
  [(65, .bipush 7, 67, 0, 0), (67, .goto 15, 70, 82, 0), (70, .iload_n 0, 71, 0, 0), (71, .bipush 8, 73, 0, 0), (73, .if_icmp .lt 8, 76, 81, 0), (76, .bipush 6, 78, 0, 0), (78, .goto 4, 81, 82, 0)],
  [(81, .iconst 5, 82, 0, 0), (82, .ireturn, 83, 0, 0)]]
def cd198 : List (List cEn) := [[(0, .aload_n 0, 1, 0, 0), (1, .getfield 150, 4, 9, 16), (4, .ifCond .le 89, 7, 93, 0), (7, .aload_n 0, 8, 0, 0), (8, .getfield 29, 11, 9, 15), (11, .aload_n 0, 12, 0, 0), (12, .getfield 150, 15, 9, 16), (15, .iconst 1, 16, 0, 0)],
  [(16, .isub, 17, 0, 0), (17, .iaload, 18, 0, 0), (18, .invokestatic 153, 21, 197, 0), (21, .iload_n 1, 22, 0, 0), (22, .if_icmp .lt 71, 25, 93, 0), (25, .aload_n 0, 26, 0, 0), (26, .dup, 27, 0, 0), (27, .getfield 150, 30, 9, 16), (30, .iconst 1, 31, 0, 0), (31, .isub, 32, 0, 0)],
  [(32, .putfield 150, 35, 9, 16), (35, .aload_n 0, 36, 0, 0), (36, .aload_n 0, 37, 0, 0), (37, .getfield 29, 40, 9, 15), (40, .aload_n 0, 41, 0, 0), (41, .getfield 150, 44, 9, 16), (44, .iaload, 45, 0, 0), (45, .iconst 0, 46, 0, 0), (46, .invokevirtual 156, 49, 195, 0)],
  [(49, .aload_n 0, 50, 0, 0), (50, .getfield 29, 53, 9, 15), (53, .aload_n 0, 54, 0, 0), (54, .getfield 150, 57, 9, 16), (57, .iaload, 58, 0, 0), (58, .invokestatic 153, 61, 197, 0), (61, .bipush 7, 63, 0, 0), (63, .if_icmp .eq 17, 66, 80, 0)],
  [(66, .aload_n 0, 67, 0, 0), (67, .getfield 29, 70, 9, 15), (70, .aload_n 0, 71, 0, 0), (71, .getfield 150, 74, 9, 16), (74, .iaload, 75, 0, 0), (75, .bipush 20, 77, 0, 0), (77, .if_icmp .ne (-77), 80, 0, 0)],
  [(80, .aload_n 0, 81, 0, 0), (81, .dup, 82, 0, 0), (82, .getfield 160, 85, 9, 17), (85, .iconst 1, 86, 0, 0), (86, .isub, 87, 0, 0), (87, .putfield 160, 90, 9, 17), (90, .goto (-90), 93, 0, 0), (93, .return_, 94, 0, 0)]]
def cd199 : List (List cEn) := [[(0, .aload_n 0, 1, 0, 0), (1, .getfield 150, 4, 9, 16), (4, .iconst 1, 5, 0, 0), (5, .isub, 6, 0, 0), (6, .istore_n 1, 7, 0, 0), (7, .iload_n 1, 8, 0, 0), (8, .ifCond .lt 20, 11, 28, 0), (11, .aload_n 0, 12, 0, 0), (12, .getfield 29, 15, 9, 15), (15, .iload_n 1, 16, 0, 0)],
  [(16, .iaload, 17, 0, 0), (17, .bipush 40, 19, 0, 0), (19, .if_icmp .ge 9, 22, 28, 0), (22, .iinc 1 (-1), 25, 0, 0), (25, .goto (-18), 28, 7, 0), (28, .iload_n 1, 29, 0, 0), (29, .ireturn, 30, 0, 0)]]
def cd200 : List (List cEn) := [[(0, .aload_n 0, 1, 0, 0), (1, .invokevirtual 163, 4, 199, 0), (4, .ifCond .ge 7, 7, 11, 0), (7, .iconst (-1), 8, 0, 0), (8, .goto 12, 11, 20, 0), (11, .aload_n 0, 12, 0, 0), (12, .getfield 29, 15, 9, 15), (15, .aload_n 0, 16, 0, 0)],
  [(16, .invokevirtual 163, 19, 199, 0), (19, .iaload, 20, 0, 0), (20, .ireturn, 21, 0, 0)]]
def cd201 : List (List cEn) := [[(0, .aload_n 0, 1, 0, 0), (1, .getfield 150, 4, 9, 16), (4, .iconst 1, 5, 0, 0), (5, .isub, 6, 0, 0), (6, .istore_n 1, 7, 0, 0), (7, .iload_n 1, 8, 0, 0), (8, .ifCond .lt 22, 11, 30, 0), (11, .aload_n 0, 12, 0, 0), (12, .getfield 29, 15, 9, 15), (15, .iload_n 1, 16, 0, 0)],
  [(16, .iaload, 17, 0, 0), (17, .invokestatic 153, 20, 197, 0), (20, .iconst 4, 21, 0, 0), (21, .if_icmp .le 9, 24, 30, 0), (24, .iinc 1 (-1), 27, 0, 0), (27, .goto (-20), 30, 7, 0), (30, .iload_n 1, 31, 0, 0), (31, .ifCond .lt 20, 34, 51, 0)],
  [(34, .aload_n 0, 35, 0, 0), (35, .getfield 29, 38, 9, 15), (38, .iload_n 1, 39, 0, 0), (39, .iaload, 40, 0, 0), (40, .invokestatic 153, 43, 197, 0), (43, .iconst 4, 44, 0, 0), (44, .if_icmp .ne 7, 47, 51, 0), (47, .iconst 1, 48, 0, 0)],
  [(48, .goto 4, 51, 52, 0), (51, .iconst 0, 52, 0, 0), (52, .ireturn, 53, 0, 0)]]
def cd202 : List (List cEn) := [[(0, .aload_n 0, 1, 0, 0), (1, .invokevirtual 167, 4, 200, 0), (4, .bipush 42, 6, 0, 0), (6, .if_icmp .ne 45, 9, 51, 0), (9, .aload_n 0, 10, 0, 0), (10, .getfield 29, 13, 9, 15), (13, .aload_n 0, 14, 0, 0), (14, .getfield 150, 17, 9, 16)],
  [(17, .iconst 1, 18, 0, 0), (18, .isub, 19, 0, 0), (19, .iaload, 20, 0, 0), (20, .bipush 40, 22, 0, 0), (22, .if_icmp .ge 25, 25, 47, 0), (25, .aload_n 0, 26, 0, 0), (26, .getfield 29, 29, 9, 15), (29, .aload_n 0, 30, 0, 0), (30, .getfield 150, 33, 9, 16)],
  [(33, .iconst 1, 34, 0, 0), (34, .isub, 35, 0, 0), (35, .iaload, 36, 0, 0), (36, .invokestatic 153, 39, 197, 0), (39, .iconst 1, 40, 0, 0), (40, .iconst 3, 41, 0, 0), (41, .invokestatic 56, 44, 164, 0), (44, .ifCond .eq 7, 47, 51, 0), (47, .iconst 1, 48, 0, 0)],
  [(48, .goto 4, 51, 52, 0), (51, .iconst 0, 52, 0, 0), (52, .ireturn, 53, 0, 0)]]
def cd203 : List (List cEn) := [[(0, .aload_n 0, 1, 0, 0), (1, .getfield 160, 4, 9, 17), (4, .bipush 8, 6, 0, 0), (6, .if_icmp .ne 5, 9, 11, 0), (9, .iconst 3, 10, 0, 0), (10, .ireturn, 11, 0, 0), (11, .aload_n 0, 12, 0, 0), (12, .dup, 13, 0, 0), (13, .getfield 160, 16, 9, 17)],
  [(16, .iconst 1, 17, 0, 0), (17, .iadd, 18, 0, 0), (18, .putfield 160, 21, 9, 17), (21, .aload_n 0, 22, 0, 0), (22, .getfield 29, 25, 9, 15), (25, .aload_n 0, 26, 0, 0), (26, .getfield 150, 29, 9, 16), (29, .iload_n 1, 30, 0, 0), (30, .iastore, 31, 0, 0), (31, .aload_n 0, 32, 0, 0)],
  [(32, .dup, 33, 0, 0), (33, .getfield 150, 36, 9, 16), (36, .iconst 1, 37, 0, 0), (37, .iadd, 38, 0, 0), (38, .putfield 150, 41, 9, 16), (41, .aload_n 0, 42, 0, 0), (42, .invokevirtual 170, 45, 188, 0), (45, .iconst 0, 46, 0, 0), (46, .ireturn, 47, 0, 0)]]
def cd204 : List (List cEn) := [[(0, .aload_n 0, 1, 0, 0), (1, .getfield 106, 4, 9, 9), (4, .iconst 1, 5, 0, 0), (5, .if_icmp .ne 15, 8, 20, 0), (8, .aload_n 0, 9, 0, 0), (9, .getfield 112, 12, 9, 10), (12, .sipush 9999, 15, 0, 0), (15, .if_icmp .le 5, 18, 20, 0)],
  [(18, .iconst 2, 19, 0, 0), (19, .ireturn, 20, 0, 0), (20, .aload_n 0, 21, 0, 0), (21, .invokevirtual 173, 24, 196, 0), (24, .istore_n 1, 25, 0, 0), (25, .iload_n 1, 26, 0, 0), (26, .bipush 6, 28, 0, 0), (28, .if_icmp .le 12, 31, 40, 0), (31, .aload_n 0, 32, 0, 0)],
  [(32, .getfield 176, 35, 9, 14), (35, .ifCond .ne 5, 38, 40, 0), (38, .iconst 5, 39, 0, 0), (39, .ireturn, 40, 0, 0), (40, .aload_n 0, 41, 0, 0), (41, .getfield 106, 44, 9, 9), (44, .iconst 1, 45, 0, 0), (45, .if_icmp .eq 7, 48, 52, 0)],
  [(48, .iload_n 1, 49, 0, 0), (49, .ifCond .lt 45, 52, 94, 0), (52, .aload_n 0, 53, 0, 0), (53, .aload_n 0, 54, 0, 0), (54, .getfield 106, 57, 9, 9), (57, .iconst 1, 58, 0, 0), (58, .if_icmp .ne 7, 61, 65, 0), (61, .iconst 0, 62, 0, 0), (62, .goto 4, 65, 66, 0)],
  [(65, .iconst 1, 66, 0, 0), (66, .aload_n 0, 67, 0, 0), (67, .getfield 106, 70, 9, 9), (70, .iconst 1, 71, 0, 0), (71, .if_icmp .ne 10, 74, 81, 0), (74, .aload_n 0, 75, 0, 0), (75, .getfield 112, 78, 9, 10), (78, .goto 4, 81, 82, 0)],
  [(81, .iload_n 1, 82, 0, 0), (82, .invokevirtual 156, 85, 195, 0), (85, .aload_n 0, 86, 0, 0), (86, .invokevirtual 170, 89, 188, 0), (89, .aload_n 0, 90, 0, 0), (90, .invokevirtual 179, 93, 205, 0), (93, .ireturn, 94, 0, 0), (94, .aload_n 0, 95, 0, 0), (95, .getfield 106, 98, 9, 9)],
  [(98, .bipush 40, 100, 0, 0), (100, .if_icmp .ne 10, 103, 110, 0), (103, .aload_n 0, 104, 0, 0), (104, .bipush 40, 106, 0, 0), (106, .invokevirtual 182, 109, 203, 0), (109, .ireturn, 110, 0, 0), (110, .aload_n 0, 111, 0, 0), (111, .getfield 106, 114, 9, 9)],
  [(114, .bipush 45, 116, 0, 0), (116, .if_icmp .ne 9, 119, 125, 0), (119, .aload_n 0, 120, 0, 0), (120, .iconst 5, 121, 0, 0), (121, .invokevirtual 182, 124, 203, 0), (124, .ireturn, 125, 0, 0), (125, .aload_n 0, 126, 0, 0), (126, .bipush 97, 128, 0, 0)],
  [(128, .bipush 98, 130, 0, 0), (130, .bipush 111, 132, 0, 0), (132, .bipush 118, 134, 0, 0), (134, .bipush 101, 136, 0, 0), (136, .invokestatic 140, 139, 192, 0), (139, .invokevirtual 185, 142, 194, 0), (142, .ifCond .eq 10, 145, 152, 0)],
  [(145, .aload_n 0, 146, 0, 0), (146, .bipush 41, 148, 0, 0), (148, .invokevirtual 182, 151, 203, 0), (151, .ireturn, 152, 0, 0), (152, .aload_n 0, 153, 0, 0), (153, .bipush 98, 155, 0, 0), (155, .bipush 114, 157, 0, 0), (157, .bipush 105, 159, 0, 0), (159, .bipush 109, 161, 0, 0)],
  [(161, .bipush 115, 163, 0, 0), (163, .invokestatic 140, 166, 192, 0), (166, .invokevirtual 185, 169, 194, 0), (169, .ifCond .eq 9, 172, 178, 0), (172, .aload_n 0, 173, 0, 0), (173, .iconst 2, 174, 0, 0), (174, .invokevirtual 182, 177, 203, 0)],
  [(177, .ireturn, 178, 0, 0), (178, .aload_n 0, 179, 0, 0), (179, .bipush 105, 181, 0, 0), (181, .bipush 102, 183, 0, 0), (183, .invokestatic 128, 186, 189, 0), (186, .invokevirtual 185, 189, 194, 0), (189, .ifCond .eq 10, 192, 199, 0)],
  [(192, .aload_n 0, 193, 0, 0), (193, .bipush 42, 195, 0, 0), (195, .invokevirtual 182, 198, 203, 0), (198, .ireturn, 199, 0, 0), (199, .aload_n 0, 200, 0, 0), (200, .bipush 110, 202, 0, 0), (202, .bipush 111, 204, 0, 0), (204, .bipush 116, 206, 0, 0), (206, .invokestatic 132, 209, 190, 0)],
  [(209, .invokevirtual 185, 212, 194, 0), (212, .ifCond .eq 19, 215, 231, 0), (215, .aload_n 0, 216, 0, 0), (216, .invokevirtual 189, 219, 202, 0), (219, .ifCond .eq 12, 222, 231, 0), (222, .aload_n 0, 223, 0, 0), (223, .bipush 20, 225, 0, 0)],
  [(225, .invokevirtual 182, 228, 203, 0), (228, .goto 4, 231, 232, 0), (231, .iconst 1, 232, 0, 0), (232, .ireturn, 233, 0, 0)]]
def cd205 : List (List cEn) := [[(0, .aload_n 0, 1, 0, 0), (1, .bipush 7, 3, 0, 0), (3, .invokevirtual 193, 6, 198, 0), (6, .aload_n 0, 7, 0, 0), (7, .iconst 1, 8, 0, 0), (8, .putfield 196, 11, 9, 18), (11, .aload_n 0, 12, 0, 0), (12, .getfield 150, 15, 9, 16), (15, .ifCond .eq 19, 18, 34, 0)],
  [(18, .aload_n 0, 19, 0, 0), (19, .getfield 29, 22, 9, 15), (22, .aload_n 0, 23, 0, 0), (23, .getfield 150, 26, 9, 16), (26, .iconst 1, 27, 0, 0), (27, .isub, 28, 0, 0), (28, .iaload, 29, 0, 0), (29, .bipush 41, 31, 0, 0), (31, .if_icmp .eq 5, 34, 36, 0)],
  [(34, .iconst 0, 35, 0, 0), (35, .ireturn, 36, 0, 0), (36, .aload_n 0, 37, 0, 0), (37, .bipush 98, 39, 0, 0), (39, .bipush 121, 41, 0, 0), (41, .invokestatic 128, 44, 189, 0), (44, .invokevirtual 185, 47, 194, 0), (47, .ifCond .ne 5, 50, 52, 0)],
  [(50, .iconst 1, 51, 0, 0), (51, .ireturn, 52, 0, 0), (52, .aload_n 0, 53, 0, 0), (53, .invokevirtual 170, 56, 188, 0), (56, .aload_n 0, 57, 0, 0), (57, .getfield 29, 60, 9, 15), (60, .aload_n 0, 61, 0, 0), (61, .getfield 150, 64, 9, 16)],
  [(64, .iconst 1, 65, 0, 0), (65, .isub, 66, 0, 0), (66, .iconst 4, 67, 0, 0), (67, .iastore, 68, 0, 0), (68, .aload_n 0, 69, 0, 0), (69, .iconst 0, 70, 0, 0), (70, .putfield 196, 73, 9, 18), (73, .iconst 0, 74, 0, 0), (74, .ireturn, 75, 0, 0)]]
def cd206 : List (List cEn) := [[(0, .aload_n 0, 1, 0, 0), (1, .getfield 106, 4, 9, 9), (4, .bipush 60, 6, 0, 0), (6, .if_icmp .ne 8, 9, 14, 0), (9, .bipush 10, 11, 0, 0), (11, .goto 72, 14, 83, 0), (14, .aload_n 0, 15, 0, 0), (15, .getfield 106, 18, 9, 9)],
  [(18, .iconst 4, 19, 0, 0), (19, .if_icmp .ne 8, 22, 27, 0), (22, .bipush 11, 24, 0, 0), (24, .goto 59, 27, 83, 0), (27, .aload_n 0, 28, 0, 0), (28, .getfield 106, 31, 9, 9), (31, .bipush 62, 33, 0, 0)],
  [(33, .if_icmp .ne 8, 36, 41, 0), (36, .bipush 12, 38, 0, 0), (38, .goto 45, 41, 83, 0), (41, .aload_n 0, 42, 0, 0), (42, .getfield 106, 45, 9, 9), (45, .iconst 5, 46, 0, 0), (46, .if_icmp .ne 8, 49, 54, 0)],
  [(49, .bipush 13, 51, 0, 0), (51, .goto 32, 54, 83, 0), (54, .aload_n 0, 55, 0, 0), (55, .getfield 106, 58, 9, 9), (58, .bipush 61, 60, 0, 0), (60, .if_icmp .ne 8, 63, 68, 0), (63, .bipush 14, 65, 0, 0)],
  [(65, .goto 18, 68, 83, 0), (68, .aload_n 0, 69, 0, 0), (69, .getfield 106, 72, 9, 9), (72, .bipush 35, 74, 0, 0), (74, .if_icmp .ne 8, 77, 82, 0), (77, .bipush 15, 79, 0, 0), (79, .goto 4, 82, 83, 0)],
  [(82, .iconst (-1), 83, 0, 0), (83, .ireturn, 84, 0, 0)]]
def cd207 : List (List cEn) := [[(0, .aload_n 0, 1, 0, 0), (1, .getfield 106, 4, 9, 9), (4, .bipush 43, 6, 0, 0), (6, .if_icmp .ne 6, 9, 12, 0), (9, .bipush 6, 11, 0, 0), (11, .ireturn, 12, 0, 0), (12, .aload_n 0, 13, 0, 0), (13, .getfield 106, 16, 9, 9)],
  [(16, .bipush 45, 18, 0, 0), (18, .if_icmp .ne 6, 21, 24, 0), (21, .bipush 7, 23, 0, 0), (23, .ireturn, 24, 0, 0), (24, .aload_n 0, 25, 0, 0), (25, .getfield 106, 28, 9, 9), (28, .bipush 42, 30, 0, 0), (30, .if_icmp .ne 6, 33, 36, 0)],
  [(33, .bipush 8, 35, 0, 0), (35, .ireturn, 36, 0, 0), (36, .aload_n 0, 37, 0, 0), (37, .getfield 106, 40, 9, 9), (40, .bipush 47, 42, 0, 0), (42, .if_icmp .ne 6, 45, 48, 0), (45, .bipush 9, 47, 0, 0), (47, .ireturn, 48, 0, 0)],
  [(48, .aload_n 0, 49, 0, 0), (49, .invokevirtual 167, 52, 200, 0), (52, .bipush 42, 54, 0, 0), (54, .if_icmp .eq 5, 57, 59, 0), (57, .iconst (-1), 58, 0, 0), (58, .ireturn, 59, 0, 0), (59, .aload_n 0, 60, 0, 0), (60, .invokevirtual 200, 63, 201, 0), (63, .ifCond .ne 8, 66, 71, 0)],
  [(66, .aload_n 0, 67, 0, 0), (67, .invokevirtual 203, 70, 206, 0), (70, .ireturn, 71, 0, 0), (71, .aload_n 0, 72, 0, 0), (72, .bipush 97, 74, 0, 0), (74, .bipush 110, 76, 0, 0), (76, .bipush 100, 78, 0, 0), (78, .invokestatic 132, 81, 190, 0)],
  [(81, .invokevirtual 185, 84, 194, 0), (84, .ifCond .eq 8, 87, 92, 0), (87, .bipush 21, 89, 0, 0), (89, .goto 23, 92, 112, 0), (92, .aload_n 0, 93, 0, 0), (93, .bipush 111, 95, 0, 0), (95, .bipush 114, 97, 0, 0)],
  [(97, .invokestatic 128, 100, 189, 0), (100, .invokevirtual 185, 103, 194, 0), (103, .ifCond .eq 8, 106, 111, 0), (106, .bipush 22, 108, 0, 0), (108, .goto 4, 111, 112, 0), (111, .iconst (-1), 112, 0, 0)],
  [(112, .ireturn, 113, 0, 0)]]
def cd208 : List (List cEn) := [[(0, .iload_n 1, 1, 0, 0), (1, .tableswitch 129 40 44 #[35, 129, 50, 82, 107], 36, 15, 0)],
  [],
  [(36, .aload_n 0, 37, 0, 0), (37, .getfield 106, 40, 9, 9), (40, .bipush 41, 42, 0, 0), (42, .if_icmp .ne 7, 45, 49, 0), (45, .iconst 0, 46, 0, 0), (46, .goto 4, 49, 50, 0)],
  [(49, .iconst (-1), 50, 0, 0), (50, .ireturn, 51, 0, 0), (51, .aload_n 0, 52, 0, 0), (52, .bipush 116, 54, 0, 0), (54, .bipush 104, 56, 0, 0), (56, .bipush 101, 58, 0, 0), (58, .bipush 110, 60, 0, 0), (60, .invokestatic 136, 63, 191, 0), (63, .invokevirtual 185, 66, 194, 0)],
  [(66, .ifCond .eq 15, 69, 81, 0), (69, .aload_n 0, 70, 0, 0), (70, .invokevirtual 200, 73, 201, 0), (73, .ifCond .eq 8, 76, 81, 0), (76, .bipush 43, 78, 0, 0), (78, .goto 4, 81, 82, 0)],
  [(81, .iconst (-1), 82, 0, 0), (82, .ireturn, 83, 0, 0), (83, .aload_n 0, 84, 0, 0), (84, .bipush 101, 86, 0, 0), (86, .bipush 108, 88, 0, 0), (88, .bipush 115, 90, 0, 0), (90, .bipush 101, 92, 0, 0), (92, .invokestatic 136, 95, 191, 0), (95, .invokevirtual 185, 98, 194, 0)],
  [(98, .ifCond .eq 8, 101, 106, 0), (101, .bipush 44, 103, 0, 0), (103, .goto 4, 106, 107, 0), (106, .iconst (-1), 107, 0, 0), (107, .ireturn, 108, 0, 0), (108, .aload_n 0, 109, 0, 0), (109, .bipush 101, 111, 0, 0), (111, .bipush 110, 113, 0, 0)],
  [(113, .bipush 100, 115, 0, 0), (115, .invokestatic 132, 118, 190, 0), (118, .invokevirtual 185, 121, 194, 0), (121, .ifCond .eq 7, 124, 128, 0), (124, .iconst 0, 125, 0, 0), (125, .goto 4, 128, 129, 0)],
  [(128, .iconst (-1), 129, 0, 0), (129, .ireturn, 130, 0, 0), (130, .iconst (-1), 131, 0, 0), (131, .ireturn, 132, 0, 0)]]
def cd209 : List (List cEn) := [[(0, .aload_n 0, 1, 0, 0), (1, .invokevirtual 206, 4, 207, 0), (4, .istore_n 1, 5, 0, 0), (5, .iload_n 1, 6, 0, 0), (6, .ifCond .lt 54, 9, 60, 0), (9, .aload_n 0, 10, 0, 0), (10, .iload_n 1, 11, 0, 0), (11, .invokestatic 153, 14, 197, 0), (14, .iconst 4, 15, 0, 0), (15, .if_icmp .ne 7, 18, 22, 0)],
  [(18, .iconst 5, 19, 0, 0), (19, .goto 7, 22, 26, 0), (22, .iload_n 1, 23, 0, 0), (23, .invokestatic 153, 26, 197, 0), (26, .invokevirtual 193, 29, 198, 0), (29, .aload_n 0, 30, 0, 0), (30, .getfield 29, 33, 9, 15)],
  [(33, .aload_n 0, 34, 0, 0), (34, .getfield 150, 37, 9, 16), (37, .iload_n 1, 38, 0, 0), (38, .iastore, 39, 0, 0), (39, .aload_n 0, 40, 0, 0), (40, .dup, 41, 0, 0), (41, .getfield 150, 44, 9, 16), (44, .iconst 1, 45, 0, 0), (45, .iadd, 46, 0, 0), (46, .putfield 150, 49, 9, 16)],
  [(49, .aload_n 0, 50, 0, 0), (50, .iconst 0, 51, 0, 0), (51, .putfield 196, 54, 9, 18), (54, .aload_n 0, 55, 0, 0), (55, .invokevirtual 170, 58, 188, 0), (58, .iconst 0, 59, 0, 0), (59, .ireturn, 60, 0, 0), (60, .aload_n 0, 61, 0, 0), (61, .invokevirtual 167, 64, 200, 0)],
  [(64, .istore_n 2, 65, 0, 0), (65, .aload_n 0, 66, 0, 0), (66, .iload_n 2, 67, 0, 0), (67, .invokevirtual 209, 70, 208, 0), (70, .istore_n 3, 71, 0, 0), (71, .iload_n 3, 72, 0, 0), (72, .ifCond .ge 5, 75, 77, 0), (75, .iconst (-1), 76, 0, 0), (76, .ireturn, 77, 0, 0), (77, .aload_n 0, 78, 0, 0), (78, .iconst 1, 79, 0, 0), (79, .invokevirtual 193, 82, 198, 0)],
  [(82, .aload_n 0, 83, 0, 0), (83, .invokevirtual 170, 86, 188, 0), (86, .iload_n 3, 87, 0, 0), (87, .ifCond .ne 40, 90, 127, 0), (90, .aload_n 0, 91, 0, 0), (91, .dup, 92, 0, 0), (92, .getfield 160, 95, 9, 17), (95, .iconst 1, 96, 0, 0)],
  [(96, .isub, 97, 0, 0), (97, .putfield 160, 100, 9, 17), (100, .aload_n 0, 101, 0, 0), (101, .dup, 102, 0, 0), (102, .getfield 150, 105, 9, 16), (105, .iconst 1, 106, 0, 0), (106, .isub, 107, 0, 0), (107, .putfield 150, 110, 9, 16), (110, .iload_n 2, 111, 0, 0), (111, .bipush 44, 113, 0, 0)],
  [(113, .if_icmp .ne 9, 116, 122, 0), (116, .aload_n 0, 117, 0, 0), (117, .iconst 3, 118, 0, 0), (118, .iconst 0, 119, 0, 0), (119, .invokevirtual 156, 122, 195, 0), (122, .aload_n 0, 123, 0, 0), (123, .invokevirtual 179, 126, 205, 0), (126, .ireturn, 127, 0, 0), (127, .aload_n 0, 128, 0, 0)],
  [(128, .getfield 29, 131, 9, 15), (131, .aload_n 0, 132, 0, 0), (132, .invokevirtual 163, 135, 199, 0), (135, .iload_n 3, 136, 0, 0), (136, .iastore, 137, 0, 0), (137, .aload_n 0, 138, 0, 0), (138, .iconst 0, 139, 0, 0), (139, .putfield 196, 142, 9, 18), (142, .iconst 0, 143, 0, 0), (143, .ireturn, 144, 0, 0)]]
def cd210 : List (List cEn) := [[(0, .aload_n 0, 1, 0, 0), (1, .iconst 0, 2, 0, 0), (2, .putfield 150, 5, 9, 16), (5, .aload_n 0, 6, 0, 0), (6, .iconst 0, 7, 0, 0), (7, .putfield 160, 10, 9, 17), (10, .aload_n 0, 11, 0, 0), (11, .iconst 0, 12, 0, 0), (12, .putfield 196, 15, 9, 18), (15, .aload_n 0, 16, 0, 0)],
  [(16, .getfield 196, 19, 9, 18), (19, .ifCond .eq 10, 22, 29, 0), (22, .aload_n 0, 23, 0, 0), (23, .invokevirtual 212, 26, 209, 0), (26, .goto 7, 29, 33, 0), (29, .aload_n 0, 30, 0, 0), (30, .invokevirtual 215, 33, 204, 0)],
  [(33, .istore_n 1, 34, 0, 0), (34, .iload_n 1, 35, 0, 0), (35, .ifCond .le 5, 38, 40, 0), (38, .iload_n 1, 39, 0, 0), (39, .ireturn, 40, 0, 0), (40, .iload_n 1, 41, 0, 0), (41, .ifCond .ne 6, 44, 47, 0), (44, .goto (-29), 47, 15, 0), (47, .aload_n 0, 48, 0, 0)],
  [(48, .invokevirtual 167, 51, 200, 0), (51, .ifCond .lt 5, 54, 56, 0), (54, .iconst 1, 55, 0, 0), (55, .ireturn, 56, 0, 0), (56, .aload_n 0, 57, 0, 0), (57, .iconst 1, 58, 0, 0), (58, .invokevirtual 193, 61, 198, 0), (61, .iconst 0, 62, 0, 0), (62, .ireturn, 63, 0, 0)]]
def cd211 : List (List cEn) := [[(0, .aload_n 0, 1, 0, 0), (1, .getfield 106, 4, 9, 9), (4, .iconst 1, 5, 0, 0), (5, .if_icmp .eq 5, 8, 10, 0), (8, .iconst 1, 9, 0, 0), (9, .ireturn, 10, 0, 0), (10, .aload_n 0, 11, 0, 0), (11, .getfield 112, 14, 9, 10), (14, .iload_n 2, 15, 0, 0), (15, .iload_n 3, 16, 0, 0)],
  [(16, .invokestatic 56, 19, 164, 0), (19, .ifCond .ne 5, 22, 24, 0), (22, .iconst 2, 23, 0, 0), (23, .ireturn, 24, 0, 0), (24, .aload_n 0, 25, 0, 0), (25, .getfield 16, 28, 9, 2), (28, .iload_n 1, 29, 0, 0), (29, .aload_n 0, 30, 0, 0), (30, .getfield 112, 33, 9, 10)],
  [(33, .iastore, 34, 0, 0), (34, .aload_n 0, 35, 0, 0), (35, .invokevirtual 170, 38, 188, 0), (38, .iconst 0, 39, 0, 0), (39, .ireturn, 40, 0, 0)]]
def cd212 : List (List cEn) := [[(0, .aload_n 0, 1, 0, 0), (1, .lload_n 1, 2, 0, 0), (2, .invokevirtual 185, 5, 194, 0), (5, .ifCond .ne 5, 8, 10, 0), (8, .iconst 1, 9, 0, 0), (9, .ireturn, 10, 0, 0), (10, .aload_n 0, 11, 0, 0), (11, .invokevirtual 170, 14, 188, 0), (14, .aload_n 0, 15, 0, 0), (15, .iload_n 3, 16, 0, 0)],
  [(16, .iload 4, 18, 0, 0), (18, .iload 5, 20, 0, 0), (20, .invokevirtual 218, 23, 211, 0), (23, .ireturn, 24, 0, 0)]]
def cd213 : List (List cEn) := [[(0, .aload_n 0, 1, 0, 0), (1, .getfield 16, 4, 9, 2), (4, .iload_n 1, 5, 0, 0), (5, .iconst 1, 6, 0, 0), (6, .iadd, 7, 0, 0), (7, .aload_n 0, 8, 0, 0), (8, .getfield 147, 11, 9, 13), (11, .iastore, 12, 0, 0), (12, .aload_n 0, 13, 0, 0), (13, .invokevirtual 221, 16, 210, 0)],
  [(16, .istore_n 2, 17, 0, 0), (17, .aload_n 0, 18, 0, 0), (18, .getfield 16, 21, 9, 2), (21, .iload_n 1, 22, 0, 0), (22, .iconst 2, 23, 0, 0), (23, .iadd, 24, 0, 0), (24, .aload_n 0, 25, 0, 0), (25, .getfield 147, 28, 9, 13), (28, .iastore, 29, 0, 0), (29, .iload_n 2, 30, 0, 0), (30, .ireturn, 31, 0, 0)]]
def cd214 : List (List cEn) := [[(0, .aload_n 0, 1, 0, 0), (1, .iload_n 1, 2, 0, 0), (2, .iconst 1, 3, 0, 0), (3, .iadd, 4, 0, 0), (4, .iload_n 2, 5, 0, 0), (5, .iload_n 3, 6, 0, 0), (6, .invokevirtual 218, 9, 211, 0), (9, .istore 10, 11, 0, 0), (11, .iload 10, 13, 0, 0), (13, .ifCond .ne 17, 16, 30, 0)],
  [(16, .aload_n 0, 17, 0, 0), (17, .lload 4, 19, 0, 0), (19, .iload_n 1, 20, 0, 0), (20, .iconst 2, 21, 0, 0), (21, .iadd, 22, 0, 0), (22, .iconst 0, 23, 0, 0), (23, .iload 6, 25, 0, 0), (25, .invokevirtual 224, 28, 212, 0), (28, .istore 10, 30, 0, 0), (30, .iload 10, 32, 0, 0)],
  [(32, .ifCond .eq 8, 35, 40, 0), (35, .iload 10, 37, 0, 0), (37, .goto 15, 40, 52, 0), (40, .aload_n 0, 41, 0, 0), (41, .lload 7, 43, 0, 0), (43, .iload_n 1, 44, 0, 0), (44, .iconst 3, 45, 0, 0), (45, .iadd, 46, 0, 0), (46, .iconst 0, 47, 0, 0), (47, .iload 9, 49, 0, 0)],
  [(49, .invokevirtual 224, 52, 212, 0), (52, .ireturn, 53, 0, 0)]]
def cd215 : List (List cEn) := [[(0, .aload_n 0, 1, 0, 0), (1, .iload_n 1, 2, 0, 0), (2, .iconst 1, 3, 0, 0), (3, .iadd, 4, 0, 0), (4, .iload_n 2, 5, 0, 0), (5, .iload_n 3, 6, 0, 0), (6, .invokevirtual 218, 9, 211, 0), (9, .istore 7, 11, 0, 0), (11, .iload 7, 13, 0, 0), (13, .ifCond .eq 8, 16, 21, 0)],
  [(16, .iload 7, 18, 0, 0), (18, .goto 15, 21, 33, 0), (21, .aload_n 0, 22, 0, 0), (22, .lload 4, 24, 0, 0), (24, .iload_n 1, 25, 0, 0), (25, .iconst 2, 26, 0, 0), (26, .iadd, 27, 0, 0), (27, .iconst 0, 28, 0, 0), (28, .iload 6, 30, 0, 0), (30, .invokevirtual 224, 33, 212, 0)],
  [(33, .ireturn, 34, 0, 0)]]
def cd216 : List (List cEn) := [[(0, .iload_n 1, 1, 0, 0), (1, .tableswitch 235 3 12 #[55, 92, 109, 120, 145, 162, 187, 203, 213, 224], 56, 16, 0)],
  [],
  [],
  [(56, .aload_n 0, 57, 0, 0), (57, .iload_n 2, 58, 0, 0), (58, .iconst 0, 59, 0, 0), (59, .iconst 2, 60, 0, 0), (60, .bipush 100, 62, 0, 0), (62, .bipush 101, 64, 0, 0)],
  [(64, .bipush 110, 66, 0, 0), (66, .bipush 116, 68, 0, 0), (68, .invokestatic 136, 71, 191, 0), (71, .bipush 9, 73, 0, 0), (73, .bipush 99, 75, 0, 0), (75, .bipush 111, 77, 0, 0), (77, .bipush 105, 79, 0, 0), (79, .bipush 110, 81, 0, 0)],
  [(81, .bipush 115, 83, 0, 0), (83, .invokestatic 140, 86, 192, 0), (86, .sipush 9999, 89, 0, 0), (89, .invokevirtual 228, 92, 214, 0), (92, .ireturn, 93, 0, 0), (93, .aload_n 0, 94, 0, 0), (94, .iload_n 2, 95, 0, 0), (95, .iconst 0, 96, 0, 0)],
  [(96, .bipush 9, 98, 0, 0), (98, .bipush 111, 100, 0, 0), (100, .bipush 102, 102, 0, 0), (102, .invokestatic 128, 105, 189, 0), (105, .iconst 2, 106, 0, 0), (106, .invokevirtual 232, 109, 215, 0), (109, .ireturn, 110, 0, 0), (110, .aload_n 0, 111, 0, 0), (111, .iload_n 2, 112, 0, 0)],
  [(112, .iconst 1, 113, 0, 0), (113, .iadd, 114, 0, 0), (114, .iconst 1, 115, 0, 0), (115, .bipush 99, 117, 0, 0), (117, .invokevirtual 218, 120, 211, 0), (120, .ireturn, 121, 0, 0), (121, .aload_n 0, 122, 0, 0), (122, .iload_n 2, 123, 0, 0), (123, .iconst 1, 124, 0, 0), (124, .bipush 99, 126, 0, 0), (126, .bipush 111, 128, 0, 0)],
  [(128, .bipush 102, 130, 0, 0), (130, .invokestatic 128, 133, 189, 0), (133, .iconst 2, 134, 0, 0), (134, .bipush 98, 136, 0, 0), (136, .bipush 121, 138, 0, 0), (138, .invokestatic 128, 141, 189, 0), (141, .iconst 5, 142, 0, 0), (142, .invokevirtual 228, 145, 214, 0)],
  [(145, .ireturn, 146, 0, 0), (146, .aload_n 0, 147, 0, 0), (147, .iload_n 2, 148, 0, 0), (148, .iconst 1, 149, 0, 0), (149, .bipush 99, 151, 0, 0), (151, .bipush 98, 153, 0, 0), (153, .bipush 121, 155, 0, 0), (155, .invokestatic 128, 158, 189, 0), (158, .iconst 5, 159, 0, 0), (159, .invokevirtual 232, 162, 215, 0)],
  [(162, .ireturn, 163, 0, 0), (163, .aload_n 0, 164, 0, 0), (164, .iload_n 2, 165, 0, 0), (165, .iconst 1, 166, 0, 0), (166, .bipush 99, 168, 0, 0), (168, .bipush 111, 170, 0, 0), (170, .bipush 102, 172, 0, 0), (172, .invokestatic 128, 175, 189, 0), (175, .iconst 2, 176, 0, 0)],
  [(176, .bipush 98, 178, 0, 0), (178, .bipush 121, 180, 0, 0), (180, .invokestatic 128, 183, 189, 0), (183, .iconst 5, 184, 0, 0), (184, .invokevirtual 228, 187, 214, 0), (187, .ireturn, 188, 0, 0), (188, .aload_n 0, 189, 0, 0), (189, .iload_n 2, 190, 0, 0), (190, .iconst 0, 191, 0, 0), (191, .iconst 5, 192, 0, 0)],
  [(192, .bipush 111, 194, 0, 0), (194, .bipush 102, 196, 0, 0), (196, .invokestatic 128, 199, 189, 0), (199, .iconst 2, 200, 0, 0), (200, .invokevirtual 232, 203, 215, 0), (203, .ireturn, 204, 0, 0), (204, .aload_n 0, 205, 0, 0), (205, .iload_n 2, 206, 0, 0), (206, .iconst 1, 207, 0, 0), (207, .iadd, 208, 0, 0)],
  [(208, .iconst 0, 209, 0, 0), (209, .iconst 5, 210, 0, 0), (210, .invokevirtual 218, 213, 211, 0), (213, .ireturn, 214, 0, 0), (214, .aload_n 0, 215, 0, 0), (215, .iload_n 2, 216, 0, 0), (216, .iconst 1, 217, 0, 0), (217, .iadd, 218, 0, 0), (218, .iconst 1, 219, 0, 0), (219, .bipush 99, 221, 0, 0), (221, .invokevirtual 218, 224, 211, 0)],
  [(224, .ireturn, 225, 0, 0), (225, .aload_n 0, 226, 0, 0), (226, .iload_n 2, 227, 0, 0), (227, .iconst 1, 228, 0, 0), (228, .iadd, 229, 0, 0), (229, .iconst 1, 230, 0, 0), (230, .bipush 60, 232, 0, 0), (232, .invokevirtual 218, 235, 211, 0), (235, .ireturn, 236, 0, 0), (236, .aload_n 0, 237, 0, 0), (237, .iload_n 2, 238, 0, 0), (238, .invokevirtual 236, 241, 213, 0)],
  [(241, .ireturn, 242, 0, 0)]]
def cd217 : List (List cEn) := [[(0, .aload_n 0, 1, 0, 0), (1, .getfield 106, 4, 9, 9), (4, .iconst 2, 5, 0, 0), (5, .if_icmp .ne 137, 8, 142, 0), (8, .aload_n 0, 9, 0, 0), (9, .getfield 97, 12, 9, 7), (12, .aload_n 0, 13, 0, 0), (13, .getfield 103, 16, 9, 8)],
  [(16, .isub, 17, 0, 0), (17, .bipush 8, 19, 0, 0), (19, .if_icmp .ne 123, 22, 142, 0), (22, .aload_n 0, 23, 0, 0), (23, .aload_n 0, 24, 0, 0), (24, .getfield 103, 27, 9, 8), (27, .invokevirtual 100, 30, 184, 0), (30, .aload_n 0, 31, 0, 0), (31, .aload_n 0, 32, 0, 0)],
  [(32, .getfield 103, 35, 9, 8), (35, .iconst 1, 36, 0, 0), (36, .iadd, 37, 0, 0), (37, .invokevirtual 100, 40, 184, 0), (40, .aload_n 0, 41, 0, 0), (41, .aload_n 0, 42, 0, 0), (42, .getfield 103, 45, 9, 8), (45, .iconst 2, 46, 0, 0), (46, .iadd, 47, 0, 0), (47, .invokevirtual 100, 50, 184, 0)],
  [(50, .aload_n 0, 51, 0, 0), (51, .aload_n 0, 52, 0, 0), (52, .getfield 103, 55, 9, 8), (55, .iconst 3, 56, 0, 0), (56, .iadd, 57, 0, 0), (57, .invokevirtual 100, 60, 184, 0), (60, .invokestatic 136, 63, 191, 0), (63, .bipush 115, 65, 0, 0)],
  [(65, .bipush 116, 67, 0, 0), (67, .bipush 97, 69, 0, 0), (69, .bipush 110, 71, 0, 0), (71, .invokestatic 136, 74, 191, 0), (74, .lcmp, 75, 0, 0), (75, .ifCond .ne 67, 78, 142, 0), (78, .aload_n 0, 79, 0, 0), (79, .aload_n 0, 80, 0, 0)],
  [(80, .getfield 103, 83, 9, 8), (83, .iconst 4, 84, 0, 0), (84, .iadd, 85, 0, 0), (85, .invokevirtual 100, 88, 184, 0), (88, .aload_n 0, 89, 0, 0), (89, .aload_n 0, 90, 0, 0), (90, .getfield 103, 93, 9, 8), (93, .iconst 5, 94, 0, 0), (94, .iadd, 95, 0, 0), (95, .invokevirtual 100, 98, 184, 0)],
  [(98, .aload_n 0, 99, 0, 0), (99, .aload_n 0, 100, 0, 0), (100, .getfield 103, 103, 9, 8), (103, .bipush 6, 105, 0, 0), (105, .iadd, 106, 0, 0), (106, .invokevirtual 100, 109, 184, 0), (109, .aload_n 0, 110, 0, 0), (110, .aload_n 0, 111, 0, 0), (111, .getfield 103, 114, 9, 8)],
  [(114, .bipush 7, 116, 0, 0), (116, .iadd, 117, 0, 0), (117, .invokevirtual 100, 120, 184, 0), (120, .invokestatic 136, 123, 191, 0), (123, .bipush 100, 125, 0, 0), (125, .bipush 97, 127, 0, 0), (127, .bipush 114, 129, 0, 0)],
  [(129, .bipush 100, 131, 0, 0), (131, .invokestatic 136, 134, 191, 0), (134, .lcmp, 135, 0, 0), (135, .ifCond .ne 7, 138, 142, 0), (138, .iconst 1, 139, 0, 0), (139, .goto 4, 142, 143, 0), (142, .iconst 0, 143, 0, 0), (143, .ireturn, 144, 0, 0)]]
def cd218 : List (List cEn) := [[(0, .aload_n 0, 1, 0, 0), (1, .bipush 100, 3, 0, 0), (3, .bipush 114, 5, 0, 0), (5, .bipush 105, 7, 0, 0), (7, .bipush 101, 9, 0, 0), (9, .bipush 115, 11, 0, 0), (11, .invokestatic 140, 14, 192, 0), (14, .invokevirtual 185, 17, 194, 0)],
  [(17, .ifCond .eq 5, 20, 22, 0), (20, .iconst 0, 21, 0, 0), (21, .ireturn, 22, 0, 0), (22, .aload_n 0, 23, 0, 0), (23, .bipush 101, 25, 0, 0), (25, .bipush 114, 27, 0, 0), (27, .bipush 114, 29, 0, 0), (29, .bipush 115, 31, 0, 0), (31, .invokestatic 136, 34, 191, 0)],
  [(34, .invokevirtual 185, 37, 194, 0), (37, .ifCond .eq 5, 40, 42, 0), (40, .iconst 1, 41, 0, 0), (41, .ireturn, 42, 0, 0), (42, .aload_n 0, 43, 0, 0), (43, .bipush 102, 45, 0, 0), (45, .bipush 105, 47, 0, 0), (47, .bipush 110, 49, 0, 0)],
  [(49, .bipush 101, 51, 0, 0), (51, .invokestatic 136, 54, 191, 0), (54, .invokevirtual 185, 57, 194, 0), (57, .ifCond .eq 5, 60, 62, 0), (60, .iconst 2, 61, 0, 0), (61, .ireturn, 62, 0, 0), (62, .aload_n 0, 63, 0, 0), (63, .bipush 111, 65, 0, 0)],
  [(65, .bipush 110, 67, 0, 0), (67, .bipush 101, 69, 0, 0), (69, .invokestatic 132, 72, 190, 0), (72, .invokevirtual 185, 75, 194, 0), (75, .ifCond .eq 5, 78, 80, 0), (78, .iconst 3, 79, 0, 0), (79, .ireturn, 80, 0, 0)],
  [(80, .aload_n 0, 81, 0, 0), (81, .bipush 98, 83, 0, 0), (83, .bipush 114, 85, 0, 0), (85, .bipush 105, 87, 0, 0), (87, .bipush 109, 89, 0, 0), (89, .invokestatic 136, 92, 191, 0), (92, .invokevirtual 185, 95, 194, 0), (95, .ifCond .eq 5, 98, 100, 0)],
  [(98, .iconst 4, 99, 0, 0), (99, .ireturn, 100, 0, 0), (100, .aload_n 0, 101, 0, 0), (101, .invokevirtual 239, 104, 217, 0), (104, .ifCond .eq 5, 107, 109, 0), (107, .iconst 5, 108, 0, 0), (108, .ireturn, 109, 0, 0), (109, .aload_n 0, 110, 0, 0), (110, .bipush 100, 112, 0, 0)],
  [(112, .bipush 111, 114, 0, 0), (114, .invokestatic 128, 117, 189, 0), (117, .invokevirtual 185, 120, 194, 0), (120, .ifCond .eq 6, 123, 126, 0), (123, .bipush 6, 125, 0, 0), (125, .ireturn, 126, 0, 0), (126, .aload_n 0, 127, 0, 0), (127, .bipush 119, 129, 0, 0)],
  [(129, .bipush 101, 131, 0, 0), (131, .bipush 101, 133, 0, 0), (133, .bipush 112, 135, 0, 0), (135, .invokestatic 136, 138, 191, 0), (138, .invokevirtual 185, 141, 194, 0), (141, .ifCond .eq 6, 144, 147, 0)],
  [(144, .bipush 7, 146, 0, 0), (146, .ireturn, 147, 0, 0), (147, .aload_n 0, 148, 0, 0), (148, .bipush 119, 150, 0, 0), (150, .bipush 97, 152, 0, 0), (152, .bipush 115, 154, 0, 0), (154, .bipush 104, 156, 0, 0), (156, .invokestatic 136, 159, 191, 0), (159, .invokevirtual 185, 162, 194, 0)],
  [(162, .ifCond .eq 6, 165, 168, 0), (165, .bipush 8, 167, 0, 0), (167, .ireturn, 168, 0, 0), (168, .aload_n 0, 169, 0, 0), (169, .bipush 112, 171, 0, 0), (171, .bipush 111, 173, 0, 0), (173, .bipush 117, 175, 0, 0), (175, .bipush 114, 177, 0, 0)],
  [(177, .invokestatic 136, 180, 191, 0), (180, .invokevirtual 185, 183, 194, 0), (183, .ifCond .eq 6, 186, 189, 0), (186, .bipush 9, 188, 0, 0), (188, .ireturn, 189, 0, 0), (189, .aload_n 0, 190, 0, 0), (190, .bipush 98, 192, 0, 0)],
  [(192, .bipush 101, 194, 0, 0), (194, .bipush 110, 196, 0, 0), (196, .bipush 100, 198, 0, 0), (198, .invokestatic 136, 201, 191, 0), (201, .invokevirtual 185, 204, 194, 0), (204, .ifCond .eq 6, 207, 210, 0), (207, .bipush 10, 209, 0, 0)],
  [(209, .ireturn, 210, 0, 0), (210, .aload_n 0, 211, 0, 0), (211, .bipush 115, 213, 0, 0), (213, .bipush 104, 215, 0, 0), (215, .bipush 114, 217, 0, 0), (217, .bipush 105, 219, 0, 0), (219, .bipush 110, 221, 0, 0), (221, .bipush 107, 223, 0, 0), (223, .invokestatic 242, 226, 193, 0)],
  [(226, .invokevirtual 185, 229, 194, 0), (229, .ifCond .eq 8, 232, 237, 0), (232, .bipush 11, 234, 0, 0), (234, .goto 25, 237, 259, 0), (237, .aload_n 0, 238, 0, 0), (238, .bipush 100, 240, 0, 0)],
  [(240, .bipush 97, 242, 0, 0), (242, .bipush 121, 244, 0, 0), (244, .invokestatic 132, 247, 190, 0), (247, .invokevirtual 185, 250, 194, 0), (250, .ifCond .eq 8, 253, 258, 0), (253, .bipush 12, 255, 0, 0), (255, .goto 4, 258, 259, 0)],
  [(258, .iconst (-1), 259, 0, 0), (259, .ireturn, 260, 0, 0)]]
def cd219 : List (List cEn) := [[(0, .aload_n 0, 1, 0, 0), (1, .invokevirtual 246, 4, 218, 0), (4, .istore_n 1, 5, 0, 0), (5, .iload_n 1, 6, 0, 0), (6, .ifCond .ge 5, 9, 11, 0), (9, .iconst 1, 10, 0, 0), (10, .ireturn, 11, 0, 0), (11, .iload_n 1, 12, 0, 0), (12, .iconst 2, 13, 0, 0), (13, .if_icmp .gt 16, 16, 29, 0)],
  [(16, .aload_n 0, 17, 0, 0), (17, .getfield 249, 20, 9, 19), (20, .iload_n 1, 21, 0, 0), (21, .invokestatic 252, 24, 166, 0), (24, .ifCond .eq 5, 27, 29, 0), (27, .iconst 4, 28, 0, 0), (28, .ireturn, 29, 0, 0), (29, .aload_n 0, 30, 0, 0), (30, .getfield 16, 33, 9, 2)],
  [(33, .aload_n 0, 34, 0, 0), (34, .getfield 144, 37, 9, 12), (37, .iaload, 38, 0, 0), (38, .istore_n 2, 39, 0, 0), (39, .iload_n 2, 40, 0, 0), (40, .bipush 24, 42, 0, 0), (42, .if_icmp .ne 6, 45, 48, 0), (45, .bipush 6, 47, 0, 0), (47, .ireturn, 48, 0, 0)],
  [(48, .iload_n 1, 49, 0, 0), (49, .iconst 2, 50, 0, 0), (50, .if_icmp .gt 15, 53, 65, 0), (53, .aload_n 0, 54, 0, 0), (54, .dup, 55, 0, 0), (55, .getfield 249, 58, 9, 19), (58, .iconst 1, 59, 0, 0), (59, .iload_n 1, 60, 0, 0), (60, .ishl, 61, 0, 0), (61, .ior, 62, 0, 0), (62, .putfield 249, 65, 9, 19)],
  [(65, .aload_n 0, 66, 0, 0), (66, .iload_n 1, 67, 0, 0), (67, .putfield 176, 70, 9, 14), (70, .aload_n 0, 71, 0, 0), (71, .invokevirtual 170, 74, 188, 0), (74, .aload_n 0, 75, 0, 0), (75, .getfield 144, 78, 9, 12), (78, .iconst 1, 79, 0, 0), (79, .iadd, 80, 0, 0)],
  [(80, .iconst 4, 81, 0, 0), (81, .iload_n 2, 82, 0, 0), (82, .imul, 83, 0, 0), (83, .iadd, 84, 0, 0), (84, .istore_n 3, 85, 0, 0), (85, .aload_n 0, 86, 0, 0), (86, .getfield 16, 89, 9, 2), (89, .iload_n 3, 90, 0, 0), (90, .iload_n 1, 91, 0, 0), (91, .iastore, 92, 0, 0), (92, .aload_n 0, 93, 0, 0), (93, .iload_n 1, 94, 0, 0), (94, .iload_n 3, 95, 0, 0), (95, .invokevirtual 255, 98, 216, 0)],
  [(98, .istore 4, 100, 0, 0), (100, .iload 4, 102, 0, 0), (102, .ifCond .eq 6, 105, 108, 0), (105, .iload 4, 107, 0, 0), (107, .ireturn, 108, 0, 0), (108, .aload_n 0, 109, 0, 0), (109, .getfield 16, 112, 9, 2)],
  [(112, .aload_n 0, 113, 0, 0), (113, .getfield 144, 116, 9, 12), (116, .dup2, 117, 0, 0), (117, .iaload, 118, 0, 0), (118, .iconst 1, 119, 0, 0), (119, .iadd, 120, 0, 0), (120, .iastore, 121, 0, 0), (121, .aload_n 0, 122, 0, 0), (122, .getfield 106, 125, 9, 9), (125, .bipush 59, 127, 0, 0), (127, .if_icmp .eq 5, 130, 132, 0)],
  [(130, .iconst 1, 131, 0, 0), (131, .ireturn, 132, 0, 0), (132, .aload_n 0, 133, 0, 0), (133, .invokevirtual 170, 136, 188, 0), (136, .iconst 0, 137, 0, 0), (137, .ireturn, 138, 0, 0)]]
def cd220 : List (List cEn) := [[(0, .aload_n 0, 1, 0, 0), (1, .sipush 705, 4, 0, 0), (4, .aload_n 0, 5, 0, 0), (5, .getfield 7, 8, 9, 0), (8, .iconst 1, 9, 0, 0), (9, .iaload, 10, 0, 0), (10, .imul, 11, 0, 0), (11, .putfield 144, 14, 9, 12), (14, .aload_n 0, 15, 0, 0), (15, .getfield 16, 18, 9, 2)],
  [(18, .aload_n 0, 19, 0, 0), (19, .getfield 144, 22, 9, 12), (22, .iconst 0, 23, 0, 0), (23, .iastore, 24, 0, 0), (24, .aload_n 0, 25, 0, 0), (25, .iconst 0, 26, 0, 0), (26, .putfield 147, 29, 9, 13), (29, .aload_n 0, 30, 0, 0), (30, .iconst 0, 31, 0, 0), (31, .putfield 249, 34, 9, 19)],
  [(34, .aload_n 0, 35, 0, 0), (35, .iconst 0, 36, 0, 0), (36, .putfield 97, 39, 9, 7), (39, .aload_n 0, 40, 0, 0), (40, .invokevirtual 170, 43, 188, 0), (43, .aload_n 0, 44, 0, 0), (44, .getfield 106, 47, 9, 9), (47, .ifCond .eq 17, 50, 64, 0)],
  [(50, .aload_n 0, 51, 0, 0), (51, .invokevirtual 258, 54, 219, 0), (54, .istore_n 1, 55, 0, 0), (55, .iload_n 1, 56, 0, 0), (56, .ifCond .eq 5, 59, 61, 0), (59, .iload_n 1, 60, 0, 0), (60, .ireturn, 61, 0, 0), (61, .goto (-18), 64, 43, 0)],
  [(64, .iconst 0, 65, 0, 0), (65, .ireturn, 66, 0, 0)]]
def cd221 : List (List cEn) := [[(0, .aload_n 0, 1, 0, 0), (1, .getfield 7, 4, 9, 0), (4, .iconst 1, 5, 0, 0), (5, .iaload, 6, 0, 0), (6, .iconst 4, 7, 0, 0), (7, .if_icmp .ne 5, 10, 12, 0), (10, .iconst (-1), 11, 0, 0), (11, .ireturn, 12, 0, 0), (12, .aload_n 0, 13, 0, 0), (13, .aload_n 0, 14, 0, 0), (14, .invokevirtual 261, 17, 220, 0)],
  [(17, .putfield 22, 20, 9, 5), (20, .aload_n 0, 21, 0, 0), (21, .aload_n 0, 22, 0, 0), (22, .getfield 22, 25, 9, 5), (25, .ifCond .ne 7, 28, 32, 0), (28, .iconst (-1), 29, 0, 0), (29, .goto 7, 32, 36, 0)],
  [(32, .aload_n 0, 33, 0, 0), (33, .getfield 103, 36, 9, 8), (36, .putfield 26, 39, 9, 6), (39, .aload_n 0, 40, 0, 0), (40, .iconst 0, 41, 0, 0), (41, .putfield 91, 44, 9, 4), (44, .aload_n 0, 45, 0, 0), (45, .getfield 22, 48, 9, 5)],
  [(48, .ifCond .eq 5, 51, 53, 0), (51, .iconst (-1), 52, 0, 0), (52, .ireturn, 53, 0, 0), (53, .aload_n 0, 54, 0, 0), (54, .getfield 7, 57, 9, 0), (57, .iconst 1, 58, 0, 0), (58, .dup2, 59, 0, 0), (59, .iaload, 60, 0, 0), (60, .iconst 1, 61, 0, 0), (61, .iadd, 62, 0, 0), (62, .iastore, 63, 0, 0), (63, .aload_n 0, 64, 0, 0)],
  [(64, .getfield 7, 67, 9, 0), (67, .iconst 1, 68, 0, 0), (68, .iaload, 69, 0, 0), (69, .iconst 1, 70, 0, 0), (70, .isub, 71, 0, 0), (71, .ireturn, 72, 0, 0)]]
def cd222 : List (List cEn) := [[(0, .iload_n 1, 1, 0, 0), (1, .ifCond .ne 10, 4, 11, 0), (4, .aload_n 0, 5, 0, 0), (5, .getfield 22, 8, 9, 5), (8, .goto 16, 11, 24, 0), (11, .iload_n 1, 12, 0, 0), (12, .iconst 1, 13, 0, 0), (13, .if_icmp .ne 10, 16, 23, 0)],
  [(16, .aload_n 0, 17, 0, 0), (17, .getfield 26, 20, 9, 6), (20, .goto 4, 23, 24, 0), (23, .iconst (-1), 24, 0, 0), (24, .ireturn, 25, 0, 0)]]
def cd223 : List (List cEn) := [[(0, .iload_n 1, 1, 0, 0), (1, .iconst (-1), 2, 0, 0), (2, .aload_n 0, 3, 0, 0), (3, .getfield 7, 6, 9, 0), (6, .iconst 1, 7, 0, 0), (7, .iaload, 8, 0, 0), (8, .iconst 1, 9, 0, 0), (9, .isub, 10, 0, 0), (10, .invokestatic 56, 13, 164, 0), (13, .ifCond .ne 5, 16, 18, 0)],
  [(16, .iconst 0, 17, 0, 0), (17, .ireturn, 18, 0, 0), (18, .aload_n 0, 19, 0, 0), (19, .getfield 7, 22, 9, 0), (22, .iconst 2, 23, 0, 0), (23, .iload_n 1, 24, 0, 0), (24, .iastore, 25, 0, 0), (25, .iconst 1, 26, 0, 0), (26, .ireturn, 27, 0, 0)]]
def cd224 : List (List cEn) := [[(0, .lload_n 0, 1, 0, 0), (1, .ldc2_w 264, 4, 0, 1000000), (4, .lcmp, 5, 0, 0), (5, .ifCond .le 9, 8, 14, 0), (8, .ldc2_w 264, 11, 0, 1000000), (11, .goto 18, 14, 29, 0), (14, .lload_n 0, 15, 0, 0), (15, .ldc2_w 266, 18, 0, (-1000000))],
  [(18, .lcmp, 19, 0, 0), (19, .ifCond .ge 9, 22, 28, 0), (22, .ldc2_w 266, 25, 0, (-1000000)), (25, .goto 4, 28, 29, 0), (28, .lload_n 0, 29, 0, 0), (29, .lreturn, 30, 0, 0)]]
def cd225 : List (List cEn) := [[(0, .iload_n 0, 1, 0, 0), (1, .tableswitch 48 6 8 #[27, 34, 41], 28, 17, 0)],
  [(28, .lload_n 1, 29, 0, 0), (29, .lload_n 3, 30, 0, 0), (30, .ladd, 31, 0, 0), (31, .invokestatic 268, 34, 224, 0)],
  [(34, .lreturn, 35, 0, 0), (35, .lload_n 1, 36, 0, 0), (36, .lload_n 3, 37, 0, 0), (37, .lsub, 38, 0, 0), (38, .invokestatic 268, 41, 224, 0), (41, .lreturn, 42, 0, 0), (42, .lload_n 1, 43, 0, 0), (43, .lload_n 3, 44, 0, 0), (44, .lmul, 45, 0, 0), (45, .invokestatic 268, 48, 224, 0)],
  [(48, .lreturn, 49, 0, 0), (49, .lload_n 3, 50, 0, 0), (50, .lconst 0, 51, 0, 0), (51, .lcmp, 52, 0, 0), (52, .ifCond .ne 7, 55, 59, 0), (55, .lconst 0, 56, 0, 0), (56, .goto 9, 59, 65, 0), (59, .lload_n 1, 60, 0, 0), (60, .lload_n 3, 61, 0, 0), (61, .ldiv, 62, 0, 0), (62, .invokestatic 268, 65, 224, 0)],
  [(65, .lreturn, 66, 0, 0)]]
def cd226 : List (List cEn) := [[(0, .iload_n 0, 1, 0, 0), (1, .bipush 10, 3, 0, 0), (3, .if_icmp .ne 17, 6, 20, 0), (6, .lload_n 1, 7, 0, 0), (7, .lload_n 3, 8, 0, 0), (8, .lcmp, 9, 0, 0), (9, .ifCond .ge 7, 12, 16, 0), (12, .iconst 1, 13, 0, 0), (13, .goto 98, 16, 111, 0)],
  [(16, .iconst 0, 17, 0, 0), (17, .goto 94, 20, 111, 0), (20, .iload_n 0, 21, 0, 0), (21, .bipush 11, 23, 0, 0), (23, .if_icmp .ne 17, 26, 40, 0), (26, .lload_n 1, 27, 0, 0), (27, .lload_n 3, 28, 0, 0), (28, .lcmp, 29, 0, 0), (29, .ifCond .gt 7, 32, 36, 0)],
  [(32, .iconst 1, 33, 0, 0), (33, .goto 78, 36, 111, 0), (36, .iconst 0, 37, 0, 0), (37, .goto 74, 40, 111, 0), (40, .iload_n 0, 41, 0, 0), (41, .bipush 12, 43, 0, 0), (43, .if_icmp .ne 17, 46, 60, 0), (46, .lload_n 1, 47, 0, 0), (47, .lload_n 3, 48, 0, 0)],
  [(48, .lcmp, 49, 0, 0), (49, .ifCond .le 7, 52, 56, 0), (52, .iconst 1, 53, 0, 0), (53, .goto 58, 56, 111, 0), (56, .iconst 0, 57, 0, 0), (57, .goto 54, 60, 111, 0), (60, .iload_n 0, 61, 0, 0), (61, .bipush 13, 63, 0, 0), (63, .if_icmp .ne 17, 66, 80, 0)],
  [(66, .lload_n 1, 67, 0, 0), (67, .lload_n 3, 68, 0, 0), (68, .lcmp, 69, 0, 0), (69, .ifCond .lt 7, 72, 76, 0), (72, .iconst 1, 73, 0, 0), (73, .goto 38, 76, 111, 0), (76, .iconst 0, 77, 0, 0), (77, .goto 34, 80, 111, 0)],
  [(80, .iload_n 0, 81, 0, 0), (81, .bipush 14, 83, 0, 0), (83, .if_icmp .ne 17, 86, 100, 0), (86, .lload_n 1, 87, 0, 0), (87, .lload_n 3, 88, 0, 0), (88, .lcmp, 89, 0, 0), (89, .ifCond .ne 7, 92, 96, 0), (92, .iconst 1, 93, 0, 0), (93, .goto 18, 96, 111, 0)],
  [(96, .iconst 0, 97, 0, 0), (97, .goto 14, 100, 111, 0), (100, .lload_n 1, 101, 0, 0), (101, .lload_n 3, 102, 0, 0), (102, .lcmp, 103, 0, 0), (103, .ifCond .eq 7, 106, 110, 0), (106, .iconst 1, 107, 0, 0), (107, .goto 4, 110, 111, 0), (110, .iconst 0, 111, 0, 0), (111, .ireturn, 112, 0, 0)]]
def cd227 : List (List cEn) := [[(0, .lload_n 1, 1, 0, 0), (1, .lconst 0, 2, 0, 0), (2, .lcmp, 3, 0, 0), (3, .ifCond .lt 25, 6, 28, 0), (6, .lload_n 1, 7, 0, 0), (7, .ldc2_w 272, 10, 0, 3), (10, .lcmp, 11, 0, 0), (11, .ifCond .ge 17, 14, 28, 0), (14, .aload_n 0, 15, 0, 0), (15, .getfield 7, 18, 9, 0)],
  [(18, .bipush 66, 20, 0, 0), (20, .lload_n 1, 21, 0, 0), (21, .l2i, 22, 0, 0), (22, .iadd, 23, 0, 0), (23, .iaload, 24, 0, 0), (24, .i2l, 25, 0, 0), (25, .goto 4, 28, 29, 0), (28, .lconst 0, 29, 0, 0), (29, .lreturn, 30, 0, 0)]]
def cd228 : List (List cEn) := [[(0, .iload_n 0, 1, 0, 0), (1, .bipush 21, 3, 0, 0), (3, .if_icmp .ne 19, 6, 22, 0), (6, .iload_n 1, 7, 0, 0), (7, .ifCond .eq 11, 10, 18, 0), (10, .iload_n 2, 11, 0, 0), (11, .ifCond .eq 7, 14, 18, 0), (14, .iconst 1, 15, 0, 0), (15, .goto 20, 18, 35, 0)],
  [(18, .iconst 0, 19, 0, 0), (19, .goto 16, 22, 35, 0), (22, .iload_n 1, 23, 0, 0), (23, .ifCond .ne 7, 26, 30, 0), (26, .iload_n 2, 27, 0, 0), (27, .ifCond .eq 7, 30, 34, 0), (30, .iconst 1, 31, 0, 0), (31, .goto 4, 34, 35, 0)],
  [(34, .iconst 0, 35, 0, 0), (35, .ireturn, 36, 0, 0)]]
def cd229 : List (List cEn) := [[(0, .lload_n 0, 1, 0, 0), (1, .lload_n 2, 2, 0, 0), (2, .lsub, 3, 0, 0), (3, .lconst 0, 4, 0, 0), (4, .lcmp, 5, 0, 0), (5, .ifCond .ge 7, 8, 12, 0), (8, .lconst 0, 9, 0, 0), (9, .goto 22, 12, 31, 0), (12, .lload_n 0, 13, 0, 0), (13, .lload_n 2, 14, 0, 0), (14, .lsub, 15, 0, 0), (15, .ldc2_w 264, 18, 0, 1000000)],
  [(18, .lcmp, 19, 0, 0), (19, .ifCond .le 9, 22, 28, 0), (22, .ldc2_w 264, 25, 0, 1000000), (25, .goto 6, 28, 31, 0), (28, .lload_n 0, 29, 0, 0), (29, .lload_n 2, 30, 0, 0), (30, .lsub, 31, 0, 0), (31, .lreturn, 32, 0, 0)]]
def cd230 : List (List cEn) := [[(0, .sipush 705, 3, 0, 0), (3, .iload_n 1, 4, 0, 0), (4, .imul, 5, 0, 0), (5, .iconst 1, 6, 0, 0), (6, .iadd, 7, 0, 0), (7, .iconst 4, 8, 0, 0), (8, .iload_n 2, 9, 0, 0), (9, .imul, 10, 0, 0), (10, .iadd, 11, 0, 0), (11, .istore_n 3, 12, 0, 0), (12, .sipush 705, 15, 0, 0), (15, .iload_n 1, 16, 0, 0)],
  [(16, .imul, 17, 0, 0), (17, .bipush 97, 19, 0, 0), (19, .iadd, 20, 0, 0), (20, .istore 4, 22, 0, 0), (22, .iconst 0, 23, 0, 0), (23, .istore 5, 25, 0, 0), (25, .iconst 0, 26, 0, 0), (26, .istore 6, 28, 0, 0), (28, .aload_n 0, 29, 0, 0), (29, .getfield 16, 32, 9, 2)],
  [(32, .iload_n 3, 33, 0, 0), (33, .iconst 1, 34, 0, 0), (34, .iadd, 35, 0, 0), (35, .iaload, 36, 0, 0), (36, .istore 7, 38, 0, 0), (38, .iload 7, 40, 0, 0), (40, .aload_n 0, 41, 0, 0), (41, .getfield 16, 44, 9, 2), (44, .iload_n 3, 45, 0, 0), (45, .iconst 2, 46, 0, 0), (46, .iadd, 47, 0, 0), (47, .iaload, 48, 0, 0)],
  [(48, .if_icmp .ge 358, 51, 406, 0), (51, .aload_n 0, 52, 0, 0), (52, .getfield 16, 55, 9, 2), (55, .iload 4, 57, 0, 0), (57, .iconst 2, 58, 0, 0), (58, .iload 7, 60, 0, 0), (60, .imul, 61, 0, 0), (61, .iadd, 62, 0, 0), (62, .iaload, 63, 0, 0), (63, .istore 8, 65, 0, 0)],
  [(65, .aload_n 0, 66, 0, 0), (66, .getfield 16, 69, 9, 2), (69, .iload 4, 71, 0, 0), (71, .iconst 2, 72, 0, 0), (72, .iload 7, 74, 0, 0), (74, .imul, 75, 0, 0), (75, .iadd, 76, 0, 0), (76, .iconst 1, 77, 0, 0), (77, .iadd, 78, 0, 0), (78, .iaload, 79, 0, 0), (79, .istore 9, 81, 0, 0)],
  [(81, .iload 8, 83, 0, 0), (83, .iconst 1, 84, 0, 0), (84, .if_icmp .gt 35, 87, 119, 0), (87, .aload_n 0, 88, 0, 0), (88, .getfield 35, 91, 9, 21), (91, .iload 5, 93, 0, 0), (93, .iload 8, 95, 0, 0), (95, .ifCond .ne 9, 98, 104, 0)],
  [(98, .iload 9, 100, 0, 0), (100, .i2l, 101, 0, 0), (101, .goto 11, 104, 112, 0), (104, .aload_n 0, 105, 0, 0), (105, .getfield 32, 108, 9, 20), (108, .iload 9, 110, 0, 0), (110, .iaload, 111, 0, 0), (111, .i2l, 112, 0, 0)],
  [(112, .lastore, 113, 0, 0), (113, .iinc 5 1, 116, 0, 0), (116, .goto 284, 119, 400, 0), (119, .iload 8, 121, 0, 0), (121, .iconst 3, 122, 0, 0), (122, .if_icmp .ne 38, 125, 160, 0), (125, .iinc 5 (-1), 128, 0, 0)],
  [(128, .iinc 6 (-1), 131, 0, 0), (131, .aload_n 0, 132, 0, 0), (132, .getfield 39, 135, 9, 22), (135, .iload 6, 137, 0, 0), (137, .baload, 138, 0, 0), (138, .ifCond .ne 262, 141, 400, 0), (141, .aload_n 0, 142, 0, 0), (142, .getfield 35, 145, 9, 21)],
  [(145, .iload 5, 147, 0, 0), (147, .iconst 1, 148, 0, 0), (148, .isub, 149, 0, 0), (149, .aload_n 0, 150, 0, 0), (150, .getfield 35, 153, 9, 21), (153, .iload 5, 155, 0, 0), (155, .laload, 156, 0, 0), (156, .lastore, 157, 0, 0), (157, .goto 243, 160, 400, 0)],
  [(160, .iload 8, 162, 0, 0), (162, .iconst 5, 163, 0, 0), (163, .if_icmp .eq 9, 166, 172, 0), (166, .iload 8, 168, 0, 0), (168, .iconst 2, 169, 0, 0), (169, .if_icmp .ne 47, 172, 216, 0), (172, .aload_n 0, 173, 0, 0), (173, .getfield 35, 176, 9, 21)],
  [(176, .iload 5, 178, 0, 0), (178, .iconst 1, 179, 0, 0), (179, .isub, 180, 0, 0), (180, .iload 8, 182, 0, 0), (182, .iconst 5, 183, 0, 0), (183, .if_icmp .ne 16, 186, 199, 0), (186, .aload_n 0, 187, 0, 0), (187, .getfield 35, 190, 9, 21), (190, .iload 5, 192, 0, 0)],
  [(192, .iconst 1, 193, 0, 0), (193, .isub, 194, 0, 0), (194, .laload, 195, 0, 0), (195, .lneg, 196, 0, 0), (196, .goto 16, 199, 212, 0), (199, .aload_n 0, 200, 0, 0), (200, .aload_n 0, 201, 0, 0), (201, .getfield 35, 204, 9, 21), (204, .iload 5, 206, 0, 0), (206, .iconst 1, 207, 0, 0), (207, .isub, 208, 0, 0)],
  [(208, .laload, 209, 0, 0), (209, .invokevirtual 274, 212, 227, 0), (212, .lastore, 213, 0, 0), (213, .goto 187, 216, 400, 0), (216, .iload 8, 218, 0, 0), (218, .bipush 10, 220, 0, 0), (220, .if_icmp .ge 67, 223, 287, 0), (223, .iinc 5 (-1), 226, 0, 0)],
  [(226, .aload_n 0, 227, 0, 0), (227, .getfield 35, 230, 9, 21), (230, .iload 5, 232, 0, 0), (232, .iconst 1, 233, 0, 0), (233, .isub, 234, 0, 0), (234, .iload 8, 236, 0, 0), (236, .iconst 4, 237, 0, 0), (237, .if_icmp .ne 25, 240, 262, 0)],
  [(240, .aload_n 0, 241, 0, 0), (241, .getfield 35, 244, 9, 21), (244, .iload 5, 246, 0, 0), (246, .iconst 1, 247, 0, 0), (247, .isub, 248, 0, 0), (248, .laload, 249, 0, 0), (249, .aload_n 0, 250, 0, 0), (250, .getfield 35, 253, 9, 21), (253, .iload 5, 255, 0, 0), (255, .laload, 256, 0, 0)],
  [(256, .invokestatic 277, 259, 229, 0), (259, .goto 24, 262, 283, 0), (262, .iload 8, 264, 0, 0), (264, .aload_n 0, 265, 0, 0), (265, .getfield 35, 268, 9, 21), (268, .iload 5, 270, 0, 0), (270, .iconst 1, 271, 0, 0), (271, .isub, 272, 0, 0)],
  [(272, .laload, 273, 0, 0), (273, .aload_n 0, 274, 0, 0), (274, .getfield 35, 277, 9, 21), (277, .iload 5, 279, 0, 0), (279, .laload, 280, 0, 0), (280, .invokestatic 281, 283, 225, 0), (283, .lastore, 284, 0, 0), (284, .goto 116, 287, 400, 0), (287, .iload 8, 289, 0, 0)],
  [(289, .bipush 20, 291, 0, 0), (291, .if_icmp .ge 40, 294, 331, 0), (294, .iinc 5 (-2), 297, 0, 0), (297, .aload_n 0, 298, 0, 0), (298, .getfield 39, 301, 9, 22), (301, .iload 6, 303, 0, 0), (303, .iload 8, 305, 0, 0)],
  [(305, .aload_n 0, 306, 0, 0), (306, .getfield 35, 309, 9, 21), (309, .iload 5, 311, 0, 0), (311, .laload, 312, 0, 0), (312, .aload_n 0, 313, 0, 0), (313, .getfield 35, 316, 9, 21), (316, .iload 5, 318, 0, 0), (318, .iconst 1, 319, 0, 0), (319, .iadd, 320, 0, 0)],
  [(320, .laload, 321, 0, 0), (321, .invokestatic 285, 324, 226, 0), (324, .bastore, 325, 0, 0), (325, .iinc 6 1, 328, 0, 0), (328, .goto 72, 331, 400, 0), (331, .iload 8, 333, 0, 0), (333, .bipush 20, 335, 0, 0), (335, .if_icmp .ne 32, 338, 367, 0)],
  [(338, .aload_n 0, 339, 0, 0), (339, .getfield 39, 342, 9, 22), (342, .iload 6, 344, 0, 0), (344, .iconst 1, 345, 0, 0), (345, .isub, 346, 0, 0), (346, .aload_n 0, 347, 0, 0), (347, .getfield 39, 350, 9, 22), (350, .iload 6, 352, 0, 0)],
  [(352, .iconst 1, 353, 0, 0), (353, .isub, 354, 0, 0), (354, .baload, 355, 0, 0), (355, .ifCond .ne 7, 358, 362, 0), (358, .iconst 1, 359, 0, 0), (359, .goto 4, 362, 363, 0), (362, .iconst 0, 363, 0, 0), (363, .bastore, 364, 0, 0), (364, .goto 36, 367, 400, 0), (367, .iinc 6 (-1), 370, 0, 0)],
  [(370, .aload_n 0, 371, 0, 0), (371, .getfield 39, 374, 9, 22), (374, .iload 6, 376, 0, 0), (376, .iconst 1, 377, 0, 0), (377, .isub, 378, 0, 0), (378, .iload 8, 380, 0, 0), (380, .aload_n 0, 381, 0, 0), (381, .getfield 39, 384, 9, 22)],
  [(384, .iload 6, 386, 0, 0), (386, .iconst 1, 387, 0, 0), (387, .isub, 388, 0, 0), (388, .baload, 389, 0, 0), (389, .aload_n 0, 390, 0, 0), (390, .getfield 39, 393, 9, 22), (393, .iload 6, 395, 0, 0), (395, .baload, 396, 0, 0), (396, .invokestatic 289, 399, 228, 0), (399, .bastore, 400, 0, 0)],
  [(400, .iinc 7 1, 403, 0, 0), (403, .goto (-365), 406, 38, 0), (406, .aload_n 0, 407, 0, 0), (407, .getfield 35, 410, 9, 21), (410, .iconst 0, 411, 0, 0), (411, .laload, 412, 0, 0), (412, .lreturn, 413, 0, 0)]]
def cd231 : List (List cEn) := [[(0, .iconst 0, 1, 0, 0), (1, .istore 5, 3, 0, 0), (3, .iload_n 1, 4, 0, 0), (4, .ifCond .lt 59, 7, 63, 0), (7, .iload 5, 9, 0, 0), (9, .aload_n 0, 10, 0, 0), (10, .getfield 16, 13, 9, 2), (13, .sipush 705, 16, 0, 0)],
  [(16, .iload_n 1, 17, 0, 0), (17, .imul, 18, 0, 0), (18, .iaload, 19, 0, 0), (19, .if_icmp .ge 44, 22, 63, 0), (22, .aload_n 0, 23, 0, 0), (23, .getfield 16, 26, 9, 2), (26, .sipush 705, 29, 0, 0), (29, .iload_n 1, 30, 0, 0), (30, .imul, 31, 0, 0), (31, .iconst 1, 32, 0, 0)],
  [(32, .iadd, 33, 0, 0), (33, .iconst 4, 34, 0, 0), (34, .iload 5, 36, 0, 0), (36, .imul, 37, 0, 0), (37, .iadd, 38, 0, 0), (38, .iaload, 39, 0, 0), (39, .iload_n 2, 40, 0, 0), (40, .if_icmp .ne 17, 43, 57, 0), (43, .aload_n 0, 44, 0, 0), (44, .iload_n 1, 45, 0, 0), (45, .iload 5, 47, 0, 0), (47, .invokevirtual 293, 50, 230, 0)],
  [(50, .iconst 0, 51, 0, 0), (51, .iload 4, 53, 0, 0), (53, .invokestatic 296, 56, 165, 0), (56, .ireturn, 57, 0, 0), (57, .iinc 5 1, 60, 0, 0), (60, .goto (-57), 63, 3, 0), (63, .iload_n 3, 64, 0, 0)],
  [(64, .i2l, 65, 0, 0), (65, .iconst 0, 66, 0, 0), (66, .iload 4, 68, 0, 0), (68, .invokestatic 296, 71, 165, 0), (71, .ireturn, 72, 0, 0)]]
def cd232 : List (List cEn) := [[(0, .aload_n 0, 1, 0, 0), (1, .getfield 32, 4, 9, 20), (4, .iconst 0, 5, 0, 0), (5, .aload_n 0, 6, 0, 0), (6, .getfield 7, 9, 9, 0), (9, .bipush 8, 11, 0, 0), (11, .iaload, 12, 0, 0), (12, .iastore, 13, 0, 0), (13, .aload_n 0, 14, 0, 0), (14, .getfield 32, 17, 9, 20)],
  [(17, .iconst 1, 18, 0, 0), (18, .iload_n 1, 19, 0, 0), (19, .iastore, 20, 0, 0), (20, .aload_n 0, 21, 0, 0), (21, .getfield 32, 24, 9, 20), (24, .iconst 2, 25, 0, 0), (25, .aload_n 0, 26, 0, 0), (26, .iload_n 1, 27, 0, 0), (27, .bipush 6, 29, 0, 0), (29, .invokevirtual 60, 32, 170, 0)],
  [(32, .iastore, 33, 0, 0), (33, .aload_n 0, 34, 0, 0), (34, .getfield 32, 37, 9, 20), (37, .iconst 3, 38, 0, 0), (38, .aload_n 0, 39, 0, 0), (39, .iload_n 1, 40, 0, 0), (40, .iconst 0, 41, 0, 0), (41, .invokevirtual 60, 44, 170, 0), (44, .iastore, 45, 0, 0), (45, .aload_n 0, 46, 0, 0), (46, .getfield 32, 49, 9, 20)],
  [(49, .iconst 4, 50, 0, 0), (50, .aload_n 0, 51, 0, 0), (51, .iload_n 1, 52, 0, 0), (52, .invokevirtual 67, 55, 173, 0), (55, .iastore, 56, 0, 0), (56, .aload_n 0, 57, 0, 0), (57, .getfield 32, 60, 9, 20), (60, .iconst 5, 61, 0, 0), (61, .iload_n 2, 62, 0, 0), (62, .iastore, 63, 0, 0), (63, .aload_n 0, 64, 0, 0)],
  [(64, .getfield 32, 67, 9, 20), (67, .bipush 6, 69, 0, 0), (69, .aload_n 0, 70, 0, 0), (70, .iload_n 1, 71, 0, 0), (71, .iconst 2, 72, 0, 0), (72, .iload_n 2, 73, 0, 0), (73, .iadd, 74, 0, 0), (74, .invokevirtual 60, 77, 170, 0), (77, .iastore, 78, 0, 0), (78, .aload_n 0, 79, 0, 0), (79, .getfield 32, 82, 9, 20)],
  [(82, .bipush 7, 84, 0, 0), (84, .aload_n 0, 85, 0, 0), (85, .iload_n 1, 86, 0, 0), (86, .iconst 1, 87, 0, 0), (87, .invokevirtual 60, 90, 170, 0), (90, .iastore, 91, 0, 0), (91, .aload_n 0, 92, 0, 0), (92, .getfield 32, 95, 9, 20), (95, .bipush 8, 97, 0, 0)],
  [(97, .aload_n 0, 98, 0, 0), (98, .iload_n 1, 99, 0, 0), (99, .iconst 5, 100, 0, 0), (100, .invokevirtual 60, 103, 170, 0), (103, .iastore, 104, 0, 0), (104, .return_, 105, 0, 0)]]
def cd233 : List (List cEn) := [[(0, .aload_n 0, 1, 0, 0), (1, .iload_n 2, 2, 0, 0), (2, .iload_n 3, 3, 0, 0), (3, .invokevirtual 300, 6, 232, 0), (6, .aload_n 0, 7, 0, 0), (7, .iload_n 1, 8, 0, 0), (8, .iconst 0, 9, 0, 0), (9, .aload_n 0, 10, 0, 0), (10, .getfield 32, 13, 9, 20), (13, .iconst 2, 14, 0, 0), (14, .iaload, 15, 0, 0), (15, .iconst 1, 16, 0, 0)],
  [(16, .if_icmp .ne 7, 19, 23, 0), (19, .iconst 3, 20, 0, 0), (20, .goto 4, 23, 24, 0), (23, .iconst 1, 24, 0, 0), (24, .bipush 99, 26, 0, 0), (26, .invokevirtual 303, 29, 231, 0), (29, .ireturn, 30, 0, 0)]]
def cd234 : List (List cEn) := [[(0, .aload_n 0, 1, 0, 0), (1, .iload_n 1, 2, 0, 0), (2, .iload_n 2, 3, 0, 0), (3, .invokevirtual 300, 6, 232, 0), (6, .aload_n 0, 7, 0, 0), (7, .aload_n 0, 8, 0, 0), (8, .getfield 7, 11, 9, 0), (11, .iconst 2, 12, 0, 0), (12, .iaload, 13, 0, 0), (13, .iconst 1, 14, 0, 0), (14, .iconst 1, 15, 0, 0), (15, .bipush 10, 17, 0, 0)],
  [(17, .invokevirtual 303, 20, 231, 0), (20, .ireturn, 21, 0, 0)]]
def cd235 : List (List cEn) := [[(0, .aload_n 0, 1, 0, 0), (1, .iload_n 1, 2, 0, 0), (2, .iload_n 2, 3, 0, 0), (3, .invokevirtual 300, 6, 232, 0), (6, .aload_n 0, 7, 0, 0), (7, .aload_n 0, 8, 0, 0), (8, .getfield 7, 11, 9, 0), (11, .iconst 2, 12, 0, 0), (12, .iaload, 13, 0, 0), (13, .iconst 2, 14, 0, 0), (14, .aload_n 0, 15, 0, 0), (15, .iload_n 1, 16, 0, 0)],
  [(16, .iload_n 2, 17, 0, 0), (17, .aload_n 0, 18, 0, 0), (18, .iload_n 1, 19, 0, 0), (19, .invokevirtual 67, 22, 173, 0), (22, .invokevirtual 71, 25, 174, 0), (25, .sipush 9999, 28, 0, 0), (28, .invokevirtual 303, 31, 231, 0), (31, .ireturn, 32, 0, 0)]]
def cd236 : List (List cEn) := [[(0, .aload_n 0, 1, 0, 0), (1, .getfield 7, 4, 9, 0), (4, .bipush 10, 6, 0, 0), (6, .aload_n 0, 7, 0, 0), (7, .getfield 7, 10, 9, 0), (10, .bipush 10, 12, 0, 0), (12, .iaload, 13, 0, 0), (13, .i2l, 14, 0, 0), (14, .ldc2_w 307, 17, 0, 389)],
  [(17, .lmul, 18, 0, 0), (18, .ldc2_w 309, 21, 0, 269), (21, .ladd, 22, 0, 0), (22, .ldc2_w 311, 25, 0, 30493), (25, .lrem, 26, 0, 0), (26, .l2i, 27, 0, 0), (27, .iastore, 28, 0, 0), (28, .return_, 29, 0, 0)]]
def cd237 : List (List cEn) := [[(0, .iconst 0, 1, 0, 0), (1, .istore_n 1, 2, 0, 0), (2, .iload_n 1, 3, 0, 0), (3, .aload_n 0, 4, 0, 0), (4, .getfield 7, 7, 9, 0), (7, .iconst 0, 8, 0, 0), (8, .iaload, 9, 0, 0), (9, .if_icmp .ge 59, 12, 68, 0), (12, .iconst 0, 13, 0, 0), (13, .istore_n 2, 14, 0, 0), (14, .iload_n 2, 15, 0, 0), (15, .iconst 4, 16, 0, 0)],
  [(16, .if_icmp .ge 46, 19, 62, 0), (19, .aload_n 0, 20, 0, 0), (20, .iload_n 1, 21, 0, 0), (21, .iconst 2, 22, 0, 0), (22, .iload_n 2, 23, 0, 0), (23, .iadd, 24, 0, 0), (24, .aload_n 0, 25, 0, 0), (25, .iload_n 1, 26, 0, 0), (26, .iconst 2, 27, 0, 0), (27, .iload_n 2, 28, 0, 0), (28, .iadd, 29, 0, 0), (29, .invokevirtual 60, 32, 170, 0)],
  [(32, .aload_n 0, 33, 0, 0), (33, .aload_n 0, 34, 0, 0), (34, .getfield 7, 37, 9, 0), (37, .iconst 2, 38, 0, 0), (38, .iaload, 39, 0, 0), (39, .iload_n 1, 40, 0, 0), (40, .iload_n 2, 41, 0, 0), (41, .invokevirtual 313, 44, 233, 0), (44, .isub, 45, 0, 0), (45, .i2l, 46, 0, 0), (46, .iconst 0, 47, 0, 0), (47, .sipush 999, 50, 0, 0)],
  [(50, .invokestatic 296, 53, 165, 0), (53, .invokevirtual 79, 56, 171, 0), (56, .iinc 2 1, 59, 0, 0), (59, .goto (-45), 62, 14, 0), (62, .iinc 1 1, 65, 0, 0)],
  [(65, .goto (-63), 68, 2, 0), (68, .aload_n 0, 69, 0, 0), (69, .getfield 7, 72, 9, 0), (72, .bipush 8, 74, 0, 0), (74, .dup2, 75, 0, 0), (75, .iaload, 76, 0, 0), (76, .iconst 1, 77, 0, 0), (77, .iadd, 78, 0, 0), (78, .iastore, 79, 0, 0), (79, .return_, 80, 0, 0)]]
def cd238 : List (List cEn) := [[(0, .aload_n 0, 1, 0, 0), (1, .getfield 7, 4, 9, 0), (4, .iconst 3, 5, 0, 0), (5, .iaload, 6, 0, 0), (6, .bipush 30, 8, 0, 0), (8, .if_icmp .ne 48, 11, 56, 0), (11, .iconst 0, 12, 0, 0), (12, .istore_n 1, 13, 0, 0), (13, .iload_n 1, 14, 0, 0), (14, .sipush 1189, 17, 0, 0)],
  [(17, .if_icmp .ge 29, 20, 46, 0), (20, .aload_n 0, 21, 0, 0), (21, .getfield 7, 24, 9, 0), (24, .sipush 166, 27, 0, 0), (27, .iload_n 1, 28, 0, 0), (28, .iadd, 29, 0, 0), (29, .aload_n 0, 30, 0, 0), (30, .getfield 7, 33, 9, 0)],
  [(33, .sipush 207, 36, 0, 0), (36, .iload_n 1, 37, 0, 0), (37, .iadd, 38, 0, 0), (38, .iaload, 39, 0, 0), (39, .iastore, 40, 0, 0), (40, .iinc 1 1, 43, 0, 0), (43, .goto (-30), 46, 13, 0), (46, .aload_n 0, 47, 0, 0), (47, .getfield 7, 50, 9, 0)],
  [(50, .iconst 3, 51, 0, 0), (51, .dup2, 52, 0, 0), (52, .iaload, 53, 0, 0), (53, .iconst 1, 54, 0, 0), (54, .isub, 55, 0, 0), (55, .iastore, 56, 0, 0), (56, .sipush 166, 59, 0, 0), (59, .bipush 41, 61, 0, 0), (61, .aload_n 0, 62, 0, 0), (62, .getfield 7, 65, 9, 0)],
  [(65, .iconst 3, 66, 0, 0), (66, .iaload, 67, 0, 0), (67, .imul, 68, 0, 0), (68, .iadd, 69, 0, 0), (69, .istore_n 1, 70, 0, 0), (70, .aload_n 0, 71, 0, 0), (71, .getfield 7, 74, 9, 0), (74, .iload_n 1, 75, 0, 0), (75, .aload_n 0, 76, 0, 0), (76, .getfield 7, 79, 9, 0), (79, .iconst 0, 80, 0, 0)],
  [(80, .iaload, 81, 0, 0), (81, .iastore, 82, 0, 0), (82, .iconst 0, 83, 0, 0), (83, .istore_n 2, 84, 0, 0), (84, .iload_n 2, 85, 0, 0), (85, .iconst 4, 86, 0, 0), (86, .if_icmp .ge 28, 89, 114, 0), (89, .aload_n 0, 90, 0, 0), (90, .getfield 7, 93, 9, 0), (93, .iload_n 1, 94, 0, 0), (94, .iconst 1, 95, 0, 0), (95, .iadd, 96, 0, 0)],
  [(96, .iload_n 2, 97, 0, 0), (97, .iadd, 98, 0, 0), (98, .aload_n 0, 99, 0, 0), (99, .getfield 7, 102, 9, 0), (102, .bipush 8, 104, 0, 0), (104, .iload_n 2, 105, 0, 0), (105, .iadd, 106, 0, 0), (106, .iaload, 107, 0, 0), (107, .iastore, 108, 0, 0), (108, .iinc 2 1, 111, 0, 0), (111, .goto (-27), 114, 84, 0)],
  [(114, .iconst 0, 115, 0, 0), (115, .istore_n 2, 116, 0, 0), (116, .iload_n 2, 117, 0, 0), (117, .bipush 6, 119, 0, 0), (119, .if_icmp .ge 44, 122, 163, 0), (122, .iconst 0, 123, 0, 0), (123, .istore_n 3, 124, 0, 0), (124, .iload_n 3, 125, 0, 0), (125, .bipush 6, 127, 0, 0), (127, .if_icmp .ge 30, 130, 157, 0)],
  [(130, .aload_n 0, 131, 0, 0), (131, .getfield 7, 134, 9, 0), (134, .iload_n 1, 135, 0, 0), (135, .iconst 5, 136, 0, 0), (136, .iadd, 137, 0, 0), (137, .bipush 6, 139, 0, 0), (139, .iload_n 2, 140, 0, 0), (140, .imul, 141, 0, 0), (141, .iadd, 142, 0, 0), (142, .iload_n 3, 143, 0, 0), (143, .iadd, 144, 0, 0)],
  [(144, .aload_n 0, 145, 0, 0), (145, .iload_n 2, 146, 0, 0), (146, .iload_n 3, 147, 0, 0), (147, .invokevirtual 60, 150, 170, 0), (150, .iastore, 151, 0, 0), (151, .iinc 3 1, 154, 0, 0), (154, .goto (-30), 157, 124, 0), (157, .iinc 2 1, 160, 0, 0)],
  [(160, .goto (-44), 163, 116, 0), (163, .aload_n 0, 164, 0, 0), (164, .getfield 7, 167, 9, 0), (167, .iconst 3, 168, 0, 0), (168, .dup2, 169, 0, 0), (169, .iaload, 170, 0, 0), (170, .iconst 1, 171, 0, 0), (171, .iadd, 172, 0, 0), (172, .iastore, 173, 0, 0), (173, .return_, 174, 0, 0)]]
def cd239 : List (List cEn) := [[(0, .aload_n 0, 1, 0, 0), (1, .getfield 7, 4, 9, 0), (4, .iconst 3, 5, 0, 0), (5, .iaload, 6, 0, 0), (6, .ifCond .ne 5, 9, 11, 0), (9, .iconst (-1), 10, 0, 0), (10, .ireturn, 11, 0, 0), (11, .aload_n 0, 12, 0, 0), (12, .getfield 7, 15, 9, 0), (15, .iconst 3, 16, 0, 0)],
  [(16, .dup2, 17, 0, 0), (17, .iaload, 18, 0, 0), (18, .iconst 1, 19, 0, 0), (19, .isub, 20, 0, 0), (20, .iastore, 21, 0, 0), (21, .sipush 166, 24, 0, 0), (24, .bipush 41, 26, 0, 0), (26, .aload_n 0, 27, 0, 0), (27, .getfield 7, 30, 9, 0), (30, .iconst 3, 31, 0, 0), (31, .iaload, 32, 0, 0)],
  [(32, .imul, 33, 0, 0), (33, .iadd, 34, 0, 0), (34, .istore_n 1, 35, 0, 0), (35, .iconst 0, 36, 0, 0), (36, .istore_n 2, 37, 0, 0), (37, .iload_n 2, 38, 0, 0), (38, .iconst 4, 39, 0, 0), (39, .if_icmp .ge 28, 42, 67, 0), (42, .aload_n 0, 43, 0, 0), (43, .getfield 7, 46, 9, 0), (46, .bipush 8, 48, 0, 0)],
  [(48, .iload_n 2, 49, 0, 0), (49, .iadd, 50, 0, 0), (50, .aload_n 0, 51, 0, 0), (51, .getfield 7, 54, 9, 0), (54, .iload_n 1, 55, 0, 0), (55, .iconst 1, 56, 0, 0), (56, .iadd, 57, 0, 0), (57, .iload_n 2, 58, 0, 0), (58, .iadd, 59, 0, 0), (59, .iaload, 60, 0, 0), (60, .iastore, 61, 0, 0), (61, .iinc 2 1, 64, 0, 0)],
  [(64, .goto (-27), 67, 37, 0), (67, .iconst 0, 68, 0, 0), (68, .istore_n 2, 69, 0, 0), (69, .iload_n 2, 70, 0, 0), (70, .aload_n 0, 71, 0, 0), (71, .getfield 7, 74, 9, 0), (74, .iconst 0, 75, 0, 0), (75, .iaload, 76, 0, 0), (76, .if_icmp .ge 69, 79, 145, 0), (79, .iload_n 2, 80, 0, 0)],
  [(80, .aload_n 0, 81, 0, 0), (81, .getfield 7, 84, 9, 0), (84, .iload_n 1, 85, 0, 0), (85, .iaload, 86, 0, 0), (86, .if_icmp .lt 8, 89, 94, 0), (89, .aload_n 0, 90, 0, 0), (90, .iload_n 2, 91, 0, 0), (91, .invokevirtual 83, 94, 178, 0), (94, .iconst 0, 95, 0, 0), (95, .istore_n 3, 96, 0, 0)],
  [(96, .iload_n 3, 97, 0, 0), (97, .bipush 6, 99, 0, 0), (99, .if_icmp .ge 40, 102, 139, 0), (102, .iload_n 2, 103, 0, 0), (103, .aload_n 0, 104, 0, 0), (104, .getfield 7, 107, 9, 0), (107, .iload_n 1, 108, 0, 0), (108, .iaload, 109, 0, 0), (109, .if_icmp .ge 30, 112, 139, 0)],
  [(112, .aload_n 0, 113, 0, 0), (113, .iload_n 2, 114, 0, 0), (114, .iload_n 3, 115, 0, 0), (115, .aload_n 0, 116, 0, 0), (116, .getfield 7, 119, 9, 0), (119, .iload_n 1, 120, 0, 0), (120, .iconst 5, 121, 0, 0), (121, .iadd, 122, 0, 0), (122, .bipush 6, 124, 0, 0), (124, .iload_n 2, 125, 0, 0), (125, .imul, 126, 0, 0), (126, .iadd, 127, 0, 0), (127, .iload_n 3, 128, 0, 0)],
  [(128, .iadd, 129, 0, 0), (129, .iaload, 130, 0, 0), (130, .invokevirtual 79, 133, 171, 0), (133, .iinc 3 1, 136, 0, 0), (136, .goto (-40), 139, 96, 0), (139, .iinc 2 1, 142, 0, 0), (142, .goto (-73), 145, 69, 0)],
  [(145, .aload_n 0, 146, 0, 0), (146, .getfield 7, 149, 9, 0), (149, .iconst 3, 150, 0, 0), (150, .iaload, 151, 0, 0), (151, .ireturn, 152, 0, 0)]]
end
section
def cd240 : List (List cEn) := [[(0, .aload_n 0, 1, 0, 0), (1, .iload_n 1, 2, 0, 0), (2, .iconst 2, 3, 0, 0), (3, .iload_n 2, 4, 0, 0), (4, .iadd, 5, 0, 0), (5, .aload_n 0, 6, 0, 0), (6, .iload_n 1, 7, 0, 0), (7, .iconst 2, 8, 0, 0), (8, .iload_n 2, 9, 0, 0), (9, .iadd, 10, 0, 0), (10, .invokevirtual 60, 13, 170, 0), (13, .iload_n 3, 14, 0, 0), (14, .iadd, 15, 0, 0), (15, .i2l, 16, 0, 0)],
  [(16, .iconst 0, 17, 0, 0), (17, .sipush 999, 20, 0, 0), (20, .invokestatic 296, 23, 165, 0), (23, .invokevirtual 79, 26, 171, 0), (26, .return_, 27, 0, 0)]]
def cd241 : List (List cEn) := [[(0, .aload_n 0, 1, 0, 0), (1, .iload_n 1, 2, 0, 0), (2, .invokevirtual 316, 5, 168, 0), (5, .ifCond .eq 20, 8, 25, 0), (8, .iload_n 2, 9, 0, 0), (9, .invokestatic 87, 12, 169, 0), (12, .ifCond .eq 13, 15, 25, 0), (15, .iload_n 3, 16, 0, 0)],
  [(16, .iconst 1, 17, 0, 0), (17, .bipush 99, 19, 0, 0), (19, .invokestatic 56, 22, 164, 0), (22, .ifCond .ne 5, 25, 27, 0), (25, .iconst (-1), 26, 0, 0), (26, .ireturn, 27, 0, 0), (27, .aload_n 0, 28, 0, 0), (28, .invokevirtual 319, 31, 238, 0), (31, .aload_n 0, 32, 0, 0)],
  [(32, .iload_n 1, 33, 0, 0), (33, .iload_n 2, 34, 0, 0), (34, .iload_n 3, 35, 0, 0), (35, .invokevirtual 322, 38, 240, 0), (38, .aload_n 0, 39, 0, 0), (39, .iload_n 1, 40, 0, 0), (40, .iconst 2, 41, 0, 0), (41, .iload_n 2, 42, 0, 0), (42, .iadd, 43, 0, 0), (43, .invokevirtual 60, 46, 170, 0), (46, .ireturn, 47, 0, 0)]]
def cd242 : List (List cEn) := [[(0, .aload_n 0, 1, 0, 0), (1, .iload_n 1, 2, 0, 0), (2, .invokevirtual 316, 5, 168, 0), (5, .ifCond .eq 13, 8, 18, 0), (8, .iload_n 2, 9, 0, 0), (9, .iconst 1, 10, 0, 0), (10, .bipush 99, 12, 0, 0), (12, .invokestatic 56, 15, 164, 0), (15, .ifCond .ne 5, 18, 20, 0)],
  [(18, .iconst (-1), 19, 0, 0), (19, .ireturn, 20, 0, 0), (20, .aload_n 0, 21, 0, 0), (21, .invokevirtual 319, 24, 238, 0), (24, .aload_n 0, 25, 0, 0), (25, .iload_n 1, 26, 0, 0), (26, .iconst 3, 27, 0, 0), (27, .iload_n 2, 28, 0, 0), (28, .invokevirtual 322, 31, 240, 0), (31, .aload_n 0, 32, 0, 0)],
  [(32, .iload_n 1, 33, 0, 0), (33, .iconst 5, 34, 0, 0), (34, .invokevirtual 60, 37, 170, 0), (37, .ireturn, 38, 0, 0)]]
def cd243 : List (List cEn) := [[(0, .aload_n 0, 1, 0, 0), (1, .iload_n 1, 2, 0, 0), (2, .invokevirtual 316, 5, 168, 0), (5, .ifCond .eq 40, 8, 45, 0), (8, .iload_n 2, 9, 0, 0), (9, .invokestatic 87, 12, 169, 0), (12, .ifCond .eq 33, 15, 45, 0), (15, .iload_n 3, 16, 0, 0)],
  [(16, .ifCond .le 29, 19, 45, 0), (19, .iload_n 3, 20, 0, 0), (20, .aload_n 0, 21, 0, 0), (21, .iload_n 1, 22, 0, 0), (22, .iconst 5, 23, 0, 0), (23, .invokevirtual 60, 26, 170, 0), (26, .if_icmp .gt 19, 29, 45, 0), (29, .iload_n 3, 30, 0, 0), (30, .aload_n 0, 31, 0, 0), (31, .iload_n 1, 32, 0, 0)],
  [(32, .iconst 2, 33, 0, 0), (33, .iload_n 2, 34, 0, 0), (34, .iadd, 35, 0, 0), (35, .invokevirtual 60, 38, 170, 0), (38, .if_icmp .gt 7, 41, 45, 0), (41, .iconst 1, 42, 0, 0), (42, .goto 4, 45, 46, 0), (45, .iconst 0, 46, 0, 0), (46, .ireturn, 47, 0, 0)]]
def cd244 : List (List cEn) := [[(0, .aload_n 0, 1, 0, 0), (1, .iload_n 1, 2, 0, 0), (2, .iconst 3, 3, 0, 0), (3, .iload_n 3, 4, 0, 0), (4, .ineg, 5, 0, 0), (5, .invokevirtual 322, 8, 240, 0), (8, .aload_n 0, 9, 0, 0), (9, .iload_n 1, 10, 0, 0), (10, .iload_n 2, 11, 0, 0), (11, .iload_n 3, 12, 0, 0), (12, .ineg, 13, 0, 0), (13, .invokevirtual 322, 16, 240, 0)],
  [(16, .return_, 17, 0, 0)]]
def cd245 : List (List cEn) := [[(0, .aload_n 0, 1, 0, 0), (1, .iload_n 1, 2, 0, 0), (2, .iload_n 2, 3, 0, 0), (3, .iload_n 3, 4, 0, 0), (4, .invokevirtual 325, 7, 243, 0), (7, .ifCond .ne 5, 10, 12, 0), (10, .iconst (-1), 11, 0, 0), (11, .ireturn, 12, 0, 0), (12, .aload_n 0, 13, 0, 0), (13, .invokevirtual 319, 16, 238, 0)],
  [(16, .aload_n 0, 17, 0, 0), (17, .iload_n 1, 18, 0, 0), (18, .iload_n 2, 19, 0, 0), (19, .iload_n 3, 20, 0, 0), (20, .invokevirtual 328, 23, 244, 0), (23, .aload_n 0, 24, 0, 0), (24, .iload_n 1, 25, 0, 0), (25, .iconst 2, 26, 0, 0), (26, .iload_n 2, 27, 0, 0), (27, .iadd, 28, 0, 0), (28, .invokevirtual 60, 31, 170, 0), (31, .ireturn, 32, 0, 0)]]
def cd246 : List (List cEn) := [[(0, .aload_n 0, 1, 0, 0), (1, .iload_n 1, 2, 0, 0), (2, .iload_n 2, 3, 0, 0), (3, .invokevirtual 331, 6, 234, 0), (6, .istore_n 3, 7, 0, 0), (7, .aload_n 0, 8, 0, 0), (8, .getfield 7, 11, 9, 0), (11, .bipush 10, 13, 0, 0), (13, .iaload, 14, 0, 0), (14, .bipush 10, 16, 0, 0)],
  [(16, .irem, 17, 0, 0), (17, .iload_n 3, 18, 0, 0), (18, .if_icmp .ge 7, 21, 25, 0), (21, .iconst 1, 22, 0, 0), (22, .goto 4, 25, 26, 0), (25, .iconst 0, 26, 0, 0), (26, .istore 4, 28, 0, 0), (28, .aload_n 0, 29, 0, 0), (29, .invokevirtual 334, 32, 236, 0)],
  [(32, .aload_n 0, 33, 0, 0), (33, .iload_n 1, 34, 0, 0), (34, .iload_n 2, 35, 0, 0), (35, .invokevirtual 75, 38, 175, 0), (38, .iload 4, 40, 0, 0), (40, .if_icmp .ne 5, 43, 45, 0), (43, .iconst (-1), 44, 0, 0), (44, .ireturn, 45, 0, 0), (45, .aload_n 0, 46, 0, 0), (46, .iload_n 1, 47, 0, 0), (47, .iload_n 2, 48, 0, 0)],
  [(48, .invokevirtual 337, 51, 235, 0), (51, .i2l, 52, 0, 0), (52, .iconst 0, 53, 0, 0), (53, .aload_n 0, 54, 0, 0), (54, .iload_n 1, 55, 0, 0), (55, .iconst 1, 56, 0, 0), (56, .invokevirtual 60, 59, 170, 0), (59, .invokestatic 296, 62, 165, 0), (62, .istore 5, 64, 0, 0)],
  [(64, .aload_n 0, 65, 0, 0), (65, .iload_n 1, 66, 0, 0), (66, .iconst 1, 67, 0, 0), (67, .aload_n 0, 68, 0, 0), (68, .iload_n 1, 69, 0, 0), (69, .iconst 1, 70, 0, 0), (70, .invokevirtual 60, 73, 170, 0), (73, .iload 5, 75, 0, 0), (75, .isub, 76, 0, 0), (76, .invokevirtual 79, 79, 171, 0), (79, .aload_n 0, 80, 0, 0)],
  [(80, .iload_n 1, 81, 0, 0), (81, .iconst 2, 82, 0, 0), (82, .iload_n 2, 83, 0, 0), (83, .iadd, 84, 0, 0), (84, .iconst 0, 85, 0, 0), (85, .invokevirtual 79, 88, 171, 0), (88, .sipush 1396, 91, 0, 0), (91, .iconst 2, 92, 0, 0), (92, .aload_n 0, 93, 0, 0), (93, .getfield 7, 96, 9, 0)],
  [(96, .bipush 11, 98, 0, 0), (98, .iaload, 99, 0, 0), (99, .sipush 1230, 102, 0, 0), (102, .irem, 103, 0, 0), (103, .imul, 104, 0, 0), (104, .iadd, 105, 0, 0), (105, .istore 6, 107, 0, 0), (107, .aload_n 0, 108, 0, 0), (108, .getfield 7, 111, 9, 0), (111, .iload 6, 113, 0, 0)],
  [(113, .aload_n 0, 114, 0, 0), (114, .getfield 7, 117, 9, 0), (117, .bipush 8, 119, 0, 0), (119, .iaload, 120, 0, 0), (120, .bipush 32, 122, 0, 0), (122, .imul, 123, 0, 0), (123, .iload_n 1, 124, 0, 0), (124, .iconst 4, 125, 0, 0), (125, .imul, 126, 0, 0), (126, .iadd, 127, 0, 0), (127, .iload_n 2, 128, 0, 0)],
  [(128, .iadd, 129, 0, 0), (129, .iastore, 130, 0, 0), (130, .aload_n 0, 131, 0, 0), (131, .getfield 7, 134, 9, 0), (134, .iload 6, 136, 0, 0), (136, .iconst 1, 137, 0, 0), (137, .iadd, 138, 0, 0), (138, .iload 5, 140, 0, 0), (140, .iastore, 141, 0, 0), (141, .aload_n 0, 142, 0, 0), (142, .getfield 7, 145, 9, 0)],
  [(145, .bipush 11, 147, 0, 0), (147, .dup2, 148, 0, 0), (148, .iaload, 149, 0, 0), (149, .iconst 1, 150, 0, 0), (150, .iadd, 151, 0, 0), (151, .iastore, 152, 0, 0), (152, .iload 5, 154, 0, 0), (154, .ireturn, 155, 0, 0)]]
def cd247 : List (List cEn) := [[(0, .aload_n 0, 1, 0, 0), (1, .iload_n 1, 2, 0, 0), (2, .invokevirtual 316, 5, 168, 0), (5, .ifCond .eq 10, 8, 15, 0), (8, .iload_n 2, 9, 0, 0), (9, .invokestatic 87, 12, 169, 0), (12, .ifCond .ne 6, 15, 18, 0), (15, .bipush (-2), 17, 0, 0)],
  [(17, .ireturn, 18, 0, 0), (18, .aload_n 0, 19, 0, 0), (19, .invokevirtual 319, 22, 238, 0), (22, .aload_n 0, 23, 0, 0), (23, .iload_n 1, 24, 0, 0), (24, .iload_n 2, 25, 0, 0), (25, .invokevirtual 340, 28, 246, 0), (28, .ireturn, 29, 0, 0)]]
def cd248 : List (List cEn) := [[(0, .aload_n 0, 1, 0, 0), (1, .iload_n 1, 2, 0, 0), (2, .invokevirtual 316, 5, 168, 0), (5, .ifCond .eq 18, 8, 23, 0), (8, .aload_n 0, 9, 0, 0), (9, .iload_n 1, 10, 0, 0), (10, .iconst 0, 11, 0, 0), (11, .invokevirtual 60, 14, 170, 0), (14, .bipush 9, 16, 0, 0)],
  [(16, .if_icmp .ge 7, 19, 23, 0), (19, .iconst 1, 20, 0, 0), (20, .goto 4, 23, 24, 0), (23, .iconst 0, 24, 0, 0), (24, .ireturn, 25, 0, 0)]]
def cd249 : List (List cEn) := [[(0, .aload_n 0, 1, 0, 0), (1, .iload_n 1, 2, 0, 0), (2, .invokevirtual 343, 5, 248, 0), (5, .ifCond .ne 5, 8, 10, 0), (8, .iconst (-1), 9, 0, 0), (9, .ireturn, 10, 0, 0), (10, .aload_n 0, 11, 0, 0), (11, .invokevirtual 319, 14, 238, 0), (14, .aload_n 0, 15, 0, 0), (15, .iload_n 1, 16, 0, 0)],
  [(16, .iconst 0, 17, 0, 0), (17, .aload_n 0, 18, 0, 0), (18, .iload_n 1, 19, 0, 0), (19, .iconst 0, 20, 0, 0), (20, .invokevirtual 60, 23, 170, 0), (23, .iconst 1, 24, 0, 0), (24, .iadd, 25, 0, 0), (25, .invokevirtual 79, 28, 171, 0), (28, .aload_n 0, 29, 0, 0), (29, .iload_n 1, 30, 0, 0), (30, .invokevirtual 67, 33, 173, 0)],
  [(33, .ireturn, 34, 0, 0)]]
def cd250 : List (List cEn) := [[(0, .iload_n 1, 1, 0, 0), (1, .iconst 1, 2, 0, 0), (2, .if_icmp .lt 16, 5, 18, 0), (5, .aload_n 0, 6, 0, 0), (6, .getfield 7, 9, 9, 0), (9, .bipush 9, 11, 0, 0), (11, .iaload, 12, 0, 0), (12, .iload_n 1, 13, 0, 0), (13, .isub, 14, 0, 0), (14, .iconst 1, 15, 0, 0), (15, .if_icmp .ge 5, 18, 20, 0)],
  [(18, .iconst (-1), 19, 0, 0), (19, .ireturn, 20, 0, 0), (20, .aload_n 0, 21, 0, 0), (21, .invokevirtual 319, 24, 238, 0), (24, .aload_n 0, 25, 0, 0), (25, .getfield 7, 28, 9, 0), (28, .bipush 9, 30, 0, 0), (30, .dup2, 31, 0, 0), (31, .iaload, 32, 0, 0)],
  [(32, .iload_n 1, 33, 0, 0), (33, .isub, 34, 0, 0), (34, .iastore, 35, 0, 0), (35, .aload_n 0, 36, 0, 0), (36, .getfield 7, 39, 9, 0), (39, .bipush 9, 41, 0, 0), (41, .iaload, 42, 0, 0), (42, .ireturn, 43, 0, 0)]]
def cd251 : List (List cEn) := [[(0, .iconst 0, 1, 0, 0), (1, .istore_n 2, 2, 0, 0), (2, .iload_n 2, 3, 0, 0), (3, .iload_n 1, 4, 0, 0), (4, .if_icmp .ge 32, 7, 36, 0), (7, .aload_n 0, 8, 0, 0), (8, .getfield 7, 11, 9, 0), (11, .bipush 8, 13, 0, 0), (13, .iaload, 14, 0, 0), (14, .sipush 9999, 17, 0, 0)],
  [(17, .if_icmp .ne 5, 20, 22, 0), (20, .iconst 0, 21, 0, 0), (21, .ireturn, 22, 0, 0), (22, .aload_n 0, 23, 0, 0), (23, .invokevirtual 319, 26, 238, 0), (26, .aload_n 0, 27, 0, 0), (27, .invokevirtual 346, 30, 237, 0), (30, .iinc 2 1, 33, 0, 0)],
  [(33, .goto (-31), 36, 2, 0), (36, .iconst 1, 37, 0, 0), (37, .ireturn, 38, 0, 0)]]
def cd252 : List (List cEn) := [[(0, .iload_n 1, 1, 0, 0), (1, .iconst 1, 2, 0, 0), (2, .bipush 60, 4, 0, 0), (4, .invokestatic 56, 7, 164, 0), (7, .ifCond .eq 36, 10, 43, 0), (10, .aload_n 0, 11, 0, 0), (11, .getfield 7, 14, 9, 0), (14, .bipush 8, 16, 0, 0)],
  [(16, .iaload, 17, 0, 0), (17, .iload_n 1, 18, 0, 0), (18, .iadd, 19, 0, 0), (19, .sipush 9999, 22, 0, 0), (22, .if_icmp .gt 21, 25, 43, 0), (25, .aload_n 0, 26, 0, 0), (26, .iload_n 1, 27, 0, 0), (27, .invokevirtual 349, 30, 251, 0), (30, .ifCond .eq 13, 33, 43, 0)],
  [(33, .aload_n 0, 34, 0, 0), (34, .getfield 7, 37, 9, 0), (37, .bipush 8, 39, 0, 0), (39, .iaload, 40, 0, 0), (40, .goto 4, 43, 44, 0), (43, .iconst (-1), 44, 0, 0), (44, .ireturn, 45, 0, 0)]]
def cd253 : List (List cEn) := [[(0, .aload_n 0, 1, 0, 0), (1, .getfield 16, 4, 9, 2), (4, .iload_n 1, 5, 0, 0), (5, .iconst 1, 6, 0, 0), (6, .iadd, 7, 0, 0), (7, .iaload, 8, 0, 0), (8, .istore_n 2, 9, 0, 0), (9, .aload_n 0, 10, 0, 0), (10, .getfield 16, 13, 9, 2), (13, .iload_n 1, 14, 0, 0), (14, .iconst 2, 15, 0, 0), (15, .iadd, 16, 0, 0)],
  [(16, .iaload, 17, 0, 0), (17, .istore_n 3, 18, 0, 0), (18, .aload_n 0, 19, 0, 0), (19, .getfield 16, 22, 9, 2), (22, .iload_n 1, 23, 0, 0), (23, .iconst 3, 24, 0, 0), (24, .iadd, 25, 0, 0), (25, .iaload, 26, 0, 0), (26, .istore 4, 28, 0, 0), (28, .aload_n 0, 29, 0, 0), (29, .getfield 16, 32, 9, 2)],
  [(32, .iload_n 1, 33, 0, 0), (33, .iaload, 34, 0, 0), (34, .tableswitch 184 3 12 #[54, 71, 78, 84, 101, 116, 133, 150, 164, 178], 88, 18, 0)],
  [],
  [],
  [(88, .aload_n 0, 89, 0, 0), (89, .iload_n 2, 90, 0, 0), (90, .iload_n 3, 91, 0, 0), (91, .iload 4, 93, 0, 0), (93, .invokevirtual 352, 96, 177, 0)],
  [(96, .ifCond .lt 7, 99, 103, 0), (99, .iconst 1, 100, 0, 0), (100, .goto 4, 103, 104, 0), (103, .iconst 0, 104, 0, 0), (104, .ireturn, 105, 0, 0), (105, .aload_n 0, 106, 0, 0), (106, .iload_n 3, 107, 0, 0), (107, .iload_n 2, 108, 0, 0), (108, .invokevirtual 355, 111, 179, 0), (111, .ireturn, 112, 0, 0)],
  [(112, .aload_n 0, 113, 0, 0), (113, .iload_n 2, 114, 0, 0), (114, .invokevirtual 358, 117, 180, 0), (117, .ireturn, 118, 0, 0), (118, .aload_n 0, 119, 0, 0), (119, .iload 4, 121, 0, 0), (121, .iload_n 3, 122, 0, 0), (122, .iload_n 2, 123, 0, 0), (123, .invokevirtual 361, 126, 241, 0), (126, .ifCond .lt 7, 129, 133, 0)],
  [(129, .iconst 1, 130, 0, 0), (130, .goto 4, 133, 134, 0), (133, .iconst 0, 134, 0, 0), (134, .ireturn, 135, 0, 0), (135, .aload_n 0, 136, 0, 0), (136, .iload_n 3, 137, 0, 0), (137, .iload_n 2, 138, 0, 0), (138, .invokevirtual 364, 141, 242, 0), (141, .ifCond .lt 7, 144, 148, 0)],
  [(144, .iconst 1, 145, 0, 0), (145, .goto 4, 148, 149, 0), (148, .iconst 0, 149, 0, 0), (149, .ireturn, 150, 0, 0), (150, .aload_n 0, 151, 0, 0), (151, .iload 4, 153, 0, 0), (153, .iload_n 3, 154, 0, 0), (154, .iload_n 2, 155, 0, 0), (155, .invokevirtual 367, 158, 245, 0), (158, .ifCond .lt 7, 161, 165, 0)],
  [(161, .iconst 1, 162, 0, 0), (162, .goto 4, 165, 166, 0), (165, .iconst 0, 166, 0, 0), (166, .ireturn, 167, 0, 0), (167, .aload_n 0, 168, 0, 0), (168, .iload_n 2, 169, 0, 0), (169, .iload_n 3, 170, 0, 0), (170, .invokevirtual 370, 173, 247, 0), (173, .bipush (-2), 175, 0, 0), (175, .if_icmp .eq 7, 178, 182, 0)],
  [(178, .iconst 1, 179, 0, 0), (179, .goto 4, 182, 183, 0), (182, .iconst 0, 183, 0, 0), (183, .ireturn, 184, 0, 0), (184, .aload_n 0, 185, 0, 0), (185, .iload_n 2, 186, 0, 0), (186, .invokevirtual 373, 189, 249, 0), (189, .ifCond .lt 7, 192, 196, 0)],
  [(192, .iconst 1, 193, 0, 0), (193, .goto 4, 196, 197, 0), (196, .iconst 0, 197, 0, 0), (197, .ireturn, 198, 0, 0), (198, .aload_n 0, 199, 0, 0), (199, .iload_n 2, 200, 0, 0), (200, .invokevirtual 376, 203, 250, 0), (203, .ifCond .lt 7, 206, 210, 0), (206, .iconst 1, 207, 0, 0), (207, .goto 4, 210, 211, 0)],
  [(210, .iconst 0, 211, 0, 0), (211, .ireturn, 212, 0, 0), (212, .aload_n 0, 213, 0, 0), (213, .iload_n 2, 214, 0, 0), (214, .invokevirtual 349, 217, 251, 0), (217, .ireturn, 218, 0, 0), (218, .iconst 1, 219, 0, 0), (219, .ireturn, 220, 0, 0)]]
def cd254 : List (List cEn) := [[(0, .iload_n 1, 1, 0, 0), (1, .iconst 0, 2, 0, 0), (2, .aload_n 0, 3, 0, 0), (3, .getfield 7, 6, 9, 0), (6, .iconst 1, 7, 0, 0), (7, .iaload, 8, 0, 0), (8, .iconst 1, 9, 0, 0), (9, .isub, 10, 0, 0), (10, .invokestatic 56, 13, 164, 0), (13, .ifCond .ne 6, 16, 19, 0)],
  [(16, .bipush (-2), 18, 0, 0), (18, .ireturn, 19, 0, 0), (19, .iconst 0, 20, 0, 0), (20, .istore_n 2, 21, 0, 0), (21, .iload_n 2, 22, 0, 0), (22, .aload_n 0, 23, 0, 0), (23, .getfield 16, 26, 9, 2), (26, .sipush 705, 29, 0, 0), (29, .iload_n 1, 30, 0, 0), (30, .imul, 31, 0, 0), (31, .iaload, 32, 0, 0)],
  [(32, .if_icmp .ge 29, 35, 61, 0), (35, .aload_n 0, 36, 0, 0), (36, .sipush 705, 39, 0, 0), (39, .iload_n 1, 40, 0, 0), (40, .imul, 41, 0, 0), (41, .iconst 1, 42, 0, 0), (42, .iadd, 43, 0, 0), (43, .iconst 4, 44, 0, 0), (44, .iload_n 2, 45, 0, 0), (45, .imul, 46, 0, 0), (46, .iadd, 47, 0, 0), (47, .invokevirtual 379, 50, 253, 0)],
  [(50, .ifCond .ne 5, 53, 55, 0), (53, .iload_n 2, 54, 0, 0), (54, .ireturn, 55, 0, 0), (55, .iinc 2 1, 58, 0, 0), (58, .goto (-37), 61, 21, 0), (61, .iconst (-1), 62, 0, 0), (62, .ireturn, 63, 0, 0)]]
def cd255 : List (List cEn) := [[(0, .iload_n 1, 1, 0, 0), (1, .bipush 7, 3, 0, 0), (3, .irem, 4, 0, 0), (4, .bipush 6, 6, 0, 0), (6, .if_icmp .ne 21, 9, 27, 0), (9, .aload_n 0, 10, 0, 0), (10, .getfield 7, 13, 9, 0), (13, .bipush 8, 15, 0, 0), (15, .iaload, 16, 0, 0)],
  [(16, .sipush 9999, 19, 0, 0), (19, .if_icmp .ge 7, 22, 26, 0), (22, .aload_n 0, 23, 0, 0), (23, .invokevirtual 346, 26, 237, 0), (26, .return_, 27, 0, 0), (27, .aload_n 0, 28, 0, 0), (28, .getfield 7, 31, 9, 0), (31, .iconst 0, 32, 0, 0)],
  [(32, .iaload, 33, 0, 0), (33, .ifCond .ne 4, 36, 37, 0), (36, .return_, 37, 0, 0), (37, .iload_n 1, 38, 0, 0), (38, .aload_n 0, 39, 0, 0), (39, .getfield 7, 42, 9, 0), (42, .iconst 0, 43, 0, 0), (43, .iaload, 44, 0, 0), (44, .irem, 45, 0, 0), (45, .istore_n 2, 46, 0, 0), (46, .iload_n 1, 47, 0, 0), (47, .iconst 3, 48, 0, 0)],
  [(48, .irem, 49, 0, 0), (49, .istore_n 3, 50, 0, 0), (50, .iload_n 1, 51, 0, 0), (51, .bipush 7, 53, 0, 0), (53, .irem, 54, 0, 0), (54, .tableswitch 110 2 5 #[30, 45, 69, 79], 84, 19, 0)],
  [],
  [(84, .aload_n 0, 85, 0, 0), (85, .iload_n 2, 86, 0, 0), (86, .iconst 3, 87, 0, 0), (87, .iconst 1, 88, 0, 0), (88, .iload_n 1, 89, 0, 0), (89, .bipush 20, 91, 0, 0), (91, .irem, 92, 0, 0), (92, .iadd, 93, 0, 0), (93, .invokevirtual 322, 96, 240, 0)],
  [(96, .goto 80, 99, 176, 0), (99, .aload_n 0, 100, 0, 0), (100, .iload_n 2, 101, 0, 0), (101, .iload_n 3, 102, 0, 0), (102, .iload_n 1, 103, 0, 0), (103, .iconst 5, 104, 0, 0), (104, .irem, 105, 0, 0), (105, .invokevirtual 325, 108, 243, 0), (108, .ifCond .eq 68, 111, 176, 0), (111, .aload_n 0, 112, 0, 0)],
  [(112, .iload_n 2, 113, 0, 0), (113, .iload_n 3, 114, 0, 0), (114, .iload_n 1, 115, 0, 0), (115, .iconst 5, 116, 0, 0), (116, .irem, 117, 0, 0), (117, .invokevirtual 328, 120, 244, 0), (120, .goto 56, 123, 176, 0), (123, .aload_n 0, 124, 0, 0), (124, .iload_n 2, 125, 0, 0), (125, .iload_n 3, 126, 0, 0), (126, .invokevirtual 340, 129, 246, 0)],
  [(129, .pop, 130, 0, 0), (130, .goto 46, 133, 176, 0), (133, .iload_n 1, 134, 0, 0), (134, .iconst 4, 135, 0, 0), (135, .irem, 136, 0, 0), (136, .ifCond .ne 40, 139, 176, 0), (139, .aload_n 0, 140, 0, 0), (140, .iload_n 2, 141, 0, 0), (141, .invokevirtual 343, 144, 248, 0)],
  [(144, .ifCond .eq 32, 147, 176, 0), (147, .aload_n 0, 148, 0, 0), (148, .iload_n 2, 149, 0, 0), (149, .iconst 0, 150, 0, 0), (150, .aload_n 0, 151, 0, 0), (151, .iload_n 2, 152, 0, 0), (152, .iconst 0, 153, 0, 0), (153, .invokevirtual 60, 156, 170, 0), (156, .iconst 1, 157, 0, 0), (157, .iadd, 158, 0, 0), (158, .invokevirtual 79, 161, 171, 0)],
  [(161, .goto 15, 164, 176, 0), (164, .aload_n 0, 165, 0, 0), (165, .iload_n 2, 166, 0, 0), (166, .iload_n 3, 167, 0, 0), (167, .iconst 1, 168, 0, 0), (168, .iload_n 1, 169, 0, 0), (169, .bipush 30, 171, 0, 0), (171, .irem, 172, 0, 0), (172, .iadd, 173, 0, 0), (173, .invokevirtual 322, 176, 240, 0)],
  [(176, .return_, 177, 0, 0)]]
def cd256 : List (List cEn) := [[(0, .iload_n 1, 1, 0, 0), (1, .iconst 0, 2, 0, 0), (2, .sipush 9999, 5, 0, 0), (5, .invokestatic 56, 8, 164, 0), (8, .ifCond .eq 13, 11, 21, 0), (11, .iload_n 2, 12, 0, 0), (12, .iconst 1, 13, 0, 0), (13, .bipush 40, 15, 0, 0), (15, .invokestatic 56, 18, 164, 0)],
  [(18, .ifCond .ne 5, 21, 23, 0), (21, .iconst (-1), 22, 0, 0), (22, .ireturn, 23, 0, 0), (23, .aload_n 0, 24, 0, 0), (24, .invokevirtual 319, 27, 238, 0), (27, .aload_n 0, 28, 0, 0), (28, .getfield 7, 31, 9, 0), (31, .bipush 10, 33, 0, 0)],
  [(33, .iload_n 1, 34, 0, 0), (34, .iconst 2, 35, 0, 0), (35, .imul, 36, 0, 0), (36, .sipush 157, 39, 0, 0), (39, .iadd, 40, 0, 0), (40, .iastore, 41, 0, 0), (41, .iconst 0, 42, 0, 0), (42, .istore_n 3, 43, 0, 0), (43, .iload_n 3, 44, 0, 0), (44, .iload_n 2, 45, 0, 0), (45, .if_icmp .ge 28, 48, 73, 0)],
  [(48, .aload_n 0, 49, 0, 0), (49, .getfield 7, 52, 9, 0), (52, .bipush 10, 54, 0, 0), (54, .iaload, 55, 0, 0), (55, .istore 4, 57, 0, 0), (57, .aload_n 0, 58, 0, 0), (58, .invokevirtual 334, 61, 236, 0), (61, .aload_n 0, 62, 0, 0), (62, .iload 4, 64, 0, 0)],
  [(64, .invokevirtual 382, 67, 255, 0), (67, .iinc 3 1, 70, 0, 0), (70, .goto (-27), 73, 43, 0), (73, .aload_n 0, 74, 0, 0), (74, .getfield 7, 77, 9, 0), (77, .bipush 8, 79, 0, 0), (79, .iaload, 80, 0, 0)],
  [(80, .ireturn, 81, 0, 0)]]
def cd257 : List (List cEn) := [[(0, .aload_n 0, 1, 0, 0), (1, .iload_n 1, 2, 0, 0), (2, .invokevirtual 316, 5, 168, 0), (5, .ifCond .ne 5, 8, 10, 0), (8, .iconst (-1), 9, 0, 0), (9, .ireturn, 10, 0, 0), (10, .iload_n 2, 11, 0, 0), (11, .tableswitch 67 0 4 #[33, 41, 48, 55, 61], 44, 20, 0)],
  [],
  [(44, .aload_n 0, 45, 0, 0), (45, .iload_n 1, 46, 0, 0), (46, .bipush 6, 48, 0, 0)],
  [(48, .invokevirtual 60, 51, 170, 0), (51, .ireturn, 52, 0, 0), (52, .aload_n 0, 53, 0, 0), (53, .iload_n 1, 54, 0, 0), (54, .iconst 0, 55, 0, 0), (55, .invokevirtual 60, 58, 170, 0), (58, .ireturn, 59, 0, 0), (59, .aload_n 0, 60, 0, 0), (60, .iload_n 1, 61, 0, 0), (61, .iconst 1, 62, 0, 0), (62, .invokevirtual 60, 65, 170, 0)],
  [(65, .ireturn, 66, 0, 0), (66, .aload_n 0, 67, 0, 0), (67, .iload_n 1, 68, 0, 0), (68, .invokevirtual 67, 71, 173, 0), (71, .ireturn, 72, 0, 0), (72, .aload_n 0, 73, 0, 0), (73, .iload_n 1, 74, 0, 0), (74, .invokevirtual 385, 77, 176, 0), (77, .ireturn, 78, 0, 0), (78, .iconst (-1), 79, 0, 0), (79, .ireturn, 80, 0, 0)]]
def cd258 : List (List cEn) := [[(0, .aload_n 0, 1, 0, 0), (1, .iload_n 1, 2, 0, 0), (2, .invokevirtual 316, 5, 168, 0), (5, .ifCond .eq 22, 8, 27, 0), (8, .iload_n 2, 9, 0, 0), (9, .iconst 0, 10, 0, 0), (10, .iconst 3, 11, 0, 0), (11, .invokestatic 56, 14, 164, 0), (14, .ifCond .eq 13, 17, 27, 0)],
  [(17, .iload_n 2, 18, 0, 0), (18, .iconst 3, 19, 0, 0), (19, .if_icmp .ne 10, 22, 29, 0), (22, .iload_n 3, 23, 0, 0), (23, .iconst 1, 24, 0, 0), (24, .if_icmp .le 5, 27, 29, 0), (27, .iconst (-1), 28, 0, 0), (28, .ireturn, 29, 0, 0), (29, .iload_n 3, 30, 0, 0), (30, .tableswitch 66 0 3 #[30, 39, 52, 59], 60, 21, 0)],
  [],
  [(60, .aload_n 0, 61, 0, 0), (61, .iload_n 1, 62, 0, 0), (62, .iconst 2, 63, 0, 0), (63, .iload_n 2, 64, 0, 0)],
  [(64, .iadd, 65, 0, 0), (65, .invokevirtual 60, 68, 170, 0), (68, .ireturn, 69, 0, 0), (69, .aload_n 0, 70, 0, 0), (70, .aload_n 0, 71, 0, 0), (71, .getfield 7, 74, 9, 0), (74, .iconst 2, 75, 0, 0), (75, .iaload, 76, 0, 0), (76, .iload_n 1, 77, 0, 0), (77, .iload_n 2, 78, 0, 0), (78, .invokevirtual 313, 81, 233, 0)],
  [(81, .ireturn, 82, 0, 0), (82, .aload_n 0, 83, 0, 0), (83, .iload_n 1, 84, 0, 0), (84, .iload_n 2, 85, 0, 0), (85, .invokevirtual 331, 88, 234, 0), (88, .ireturn, 89, 0, 0), (89, .aload_n 0, 90, 0, 0), (90, .iload_n 1, 91, 0, 0), (91, .iload_n 2, 92, 0, 0), (92, .invokevirtual 337, 95, 235, 0), (95, .ireturn, 96, 0, 0)],
  [(96, .iconst (-1), 97, 0, 0), (97, .ireturn, 98, 0, 0)]]
def cd259 : List (List cEn) := [[(0, .iload_n 1, 1, 0, 0), (1, .iconst 0, 2, 0, 0), (2, .iconst 2, 3, 0, 0), (3, .invokestatic 56, 6, 164, 0), (6, .ifCond .eq 15, 9, 21, 0), (9, .aload_n 0, 10, 0, 0), (10, .getfield 7, 13, 9, 0), (13, .bipush 8, 15, 0, 0), (15, .iload_n 1, 16, 0, 0)],
  [(16, .iadd, 17, 0, 0), (17, .iaload, 18, 0, 0), (18, .goto 28, 21, 46, 0), (21, .iload_n 1, 22, 0, 0), (22, .iconst 3, 23, 0, 0), (23, .iconst 5, 24, 0, 0), (24, .invokestatic 56, 27, 164, 0), (27, .ifCond .eq 17, 30, 44, 0), (30, .aload_n 0, 31, 0, 0), (31, .getfield 7, 34, 9, 0)],
  [(34, .bipush 66, 36, 0, 0), (36, .iload_n 1, 37, 0, 0), (37, .iadd, 38, 0, 0), (38, .iconst 3, 39, 0, 0), (39, .isub, 40, 0, 0), (40, .iaload, 41, 0, 0), (41, .goto 5, 44, 46, 0), (44, .bipush (-2), 46, 0, 0), (46, .ireturn, 47, 0, 0)]]
def cd260 : List (List cEn) := [[(0, .aload_n 0, 1, 0, 0), (1, .getfield 7, 4, 9, 0), (4, .bipush 11, 6, 0, 0), (6, .iaload, 7, 0, 0), (7, .bipush 30, 9, 0, 0), (9, .if_icmp .ge 13, 12, 22, 0), (12, .aload_n 0, 13, 0, 0), (13, .getfield 7, 16, 9, 0)],
  [(16, .bipush 11, 18, 0, 0), (18, .iaload, 19, 0, 0), (19, .goto 5, 22, 24, 0), (22, .bipush 30, 24, 0, 0), (24, .ireturn, 25, 0, 0)]]
def cd261 : List (List cEn) := [[(0, .sipush 1396, 3, 0, 0), (3, .iconst 2, 4, 0, 0), (4, .aload_n 0, 5, 0, 0), (5, .getfield 7, 8, 9, 0), (8, .bipush 11, 10, 0, 0), (10, .iaload, 11, 0, 0), (11, .aload_n 0, 12, 0, 0), (12, .invokevirtual 388, 15, 260, 0), (15, .isub, 16, 0, 0)],
  [(16, .iload_n 1, 17, 0, 0), (17, .iadd, 18, 0, 0), (18, .sipush 1230, 21, 0, 0), (21, .irem, 22, 0, 0), (22, .imul, 23, 0, 0), (23, .iadd, 24, 0, 0), (24, .istore_n 3, 25, 0, 0), (25, .iload_n 2, 26, 0, 0), (26, .ifCond .ne 15, 29, 41, 0), (29, .aload_n 0, 30, 0, 0), (30, .getfield 7, 33, 9, 0)],
  [(33, .iload_n 3, 34, 0, 0), (34, .iaload, 35, 0, 0), (35, .bipush 32, 37, 0, 0), (37, .idiv, 38, 0, 0), (38, .goto 46, 41, 84, 0), (41, .iload_n 2, 42, 0, 0), (42, .iconst 1, 43, 0, 0), (43, .if_icmp .ne 17, 46, 60, 0), (46, .aload_n 0, 47, 0, 0), (47, .getfield 7, 50, 9, 0)],
  [(50, .iload_n 3, 51, 0, 0), (51, .iaload, 52, 0, 0), (52, .iconst 4, 53, 0, 0), (53, .idiv, 54, 0, 0), (54, .bipush 8, 56, 0, 0), (56, .irem, 57, 0, 0), (57, .goto 27, 60, 84, 0), (60, .iload_n 2, 61, 0, 0), (61, .iconst 2, 62, 0, 0), (62, .if_icmp .ne 14, 65, 76, 0)],
  [(65, .aload_n 0, 66, 0, 0), (66, .getfield 7, 69, 9, 0), (69, .iload_n 3, 70, 0, 0), (70, .iaload, 71, 0, 0), (71, .iconst 4, 72, 0, 0), (72, .irem, 73, 0, 0), (73, .goto 11, 76, 84, 0), (76, .aload_n 0, 77, 0, 0), (77, .getfield 7, 80, 9, 0)],
  [(80, .iload_n 3, 81, 0, 0), (81, .iconst 1, 82, 0, 0), (82, .iadd, 83, 0, 0), (83, .iaload, 84, 0, 0), (84, .ireturn, 85, 0, 0)]]
def cd262 : List (List cEn) := [[(0, .iload_n 1, 1, 0, 0), (1, .iconst (-1), 2, 0, 0), (2, .if_icmp .ne 8, 5, 10, 0), (5, .aload_n 0, 6, 0, 0), (6, .invokevirtual 388, 9, 260, 0), (9, .ireturn, 10, 0, 0), (10, .iload_n 1, 11, 0, 0), (11, .iconst 0, 12, 0, 0), (12, .aload_n 0, 13, 0, 0), (13, .invokevirtual 388, 16, 260, 0)],
  [(16, .iconst 1, 17, 0, 0), (17, .isub, 18, 0, 0), (18, .invokestatic 56, 21, 164, 0), (21, .ifCond .eq 21, 24, 42, 0), (24, .iload_n 2, 25, 0, 0), (25, .iconst 0, 26, 0, 0), (26, .iconst 3, 27, 0, 0), (27, .invokestatic 56, 30, 164, 0), (30, .ifCond .eq 12, 33, 42, 0)],
  [(33, .aload_n 0, 34, 0, 0), (34, .iload_n 1, 35, 0, 0), (35, .iload_n 2, 36, 0, 0), (36, .invokevirtual 391, 39, 261, 0), (39, .goto 5, 42, 44, 0), (42, .bipush (-2), 44, 0, 0), (44, .ireturn, 45, 0, 0)]]
def cd263 : List (List cEn) := [[(0, .iload_n 1, 1, 0, 0), (1, .iconst (-1), 2, 0, 0), (2, .if_icmp .eq 14, 5, 16, 0), (5, .aload_n 0, 6, 0, 0), (6, .iload_n 1, 7, 0, 0), (7, .invokevirtual 316, 10, 168, 0), (10, .ifCond .ne 6, 13, 16, 0), (13, .bipush (-2), 15, 0, 0), (15, .ireturn, 16, 0, 0)],
  [(16, .iconst 0, 17, 0, 0), (17, .istore_n 2, 18, 0, 0), (18, .iconst 0, 19, 0, 0), (19, .istore_n 3, 20, 0, 0), (20, .iload_n 3, 21, 0, 0), (21, .aload_n 0, 22, 0, 0), (22, .invokevirtual 388, 25, 260, 0), (25, .if_icmp .ge 37, 28, 62, 0), (28, .iload_n 2, 29, 0, 0), (29, .iload_n 1, 30, 0, 0), (30, .iconst (-1), 31, 0, 0), (31, .if_icmp .eq 13, 34, 44, 0)],
  [(34, .aload_n 0, 35, 0, 0), (35, .iload_n 3, 36, 0, 0), (36, .iconst 1, 37, 0, 0), (37, .invokevirtual 391, 40, 261, 0), (40, .iload_n 1, 41, 0, 0), (41, .if_icmp .ne 12, 44, 53, 0), (44, .aload_n 0, 45, 0, 0), (45, .iload_n 3, 46, 0, 0), (46, .iconst 3, 47, 0, 0), (47, .invokevirtual 391, 50, 261, 0)],
  [(50, .goto 4, 53, 54, 0), (53, .iconst 0, 54, 0, 0), (54, .iadd, 55, 0, 0), (55, .istore_n 2, 56, 0, 0), (56, .iinc 3 1, 59, 0, 0), (59, .goto (-39), 62, 20, 0), (62, .iload_n 2, 63, 0, 0), (63, .ireturn, 64, 0, 0)]]
def cd264 : List (List cEn) := [[(0, .iload_n 1, 1, 0, 0), (1, .invokestatic 87, 4, 169, 0), (4, .ifCond .ne 6, 7, 10, 0), (7, .bipush (-2), 9, 0, 0), (9, .ireturn, 10, 0, 0), (10, .iconst 0, 11, 0, 0), (11, .istore_n 2, 12, 0, 0), (12, .iconst 0, 13, 0, 0), (13, .istore_n 3, 14, 0, 0), (14, .iload_n 3, 15, 0, 0), (15, .aload_n 0, 16, 0, 0)],
  [(16, .invokevirtual 388, 19, 260, 0), (19, .if_icmp .ge 27, 22, 46, 0), (22, .iload_n 2, 23, 0, 0), (23, .aload_n 0, 24, 0, 0), (24, .iload_n 3, 25, 0, 0), (25, .iconst 2, 26, 0, 0), (26, .invokevirtual 391, 29, 261, 0), (29, .iload_n 1, 30, 0, 0), (30, .if_icmp .ne 7, 33, 37, 0)],
  [(33, .iconst 1, 34, 0, 0), (34, .goto 4, 37, 38, 0), (37, .iconst 0, 38, 0, 0), (38, .iadd, 39, 0, 0), (39, .istore_n 2, 40, 0, 0), (40, .iinc 3 1, 43, 0, 0), (43, .goto (-29), 46, 14, 0), (46, .iload_n 2, 47, 0, 0), (47, .ireturn, 48, 0, 0)]]
def cd265 : List (List cEn) := [[(0, .iload_n 1, 1, 0, 0), (1, .iconst 0, 2, 0, 0), (2, .iconst 3, 3, 0, 0), (3, .invokestatic 56, 6, 164, 0), (6, .ifCond .ne 5, 9, 11, 0), (9, .iconst (-1), 10, 0, 0), (10, .ireturn, 11, 0, 0), (11, .iconst 0, 12, 0, 0), (12, .istore_n 2, 13, 0, 0), (13, .iconst 0, 14, 0, 0), (14, .istore_n 3, 15, 0, 0), (15, .iload_n 3, 16, 0, 0)],
  [(16, .aload_n 0, 17, 0, 0), (17, .getfield 7, 20, 9, 0), (20, .iconst 0, 21, 0, 0), (21, .iaload, 22, 0, 0), (22, .if_icmp .ge 30, 25, 52, 0), (25, .iload_n 2, 26, 0, 0), (26, .aload_n 0, 27, 0, 0), (27, .iload_n 3, 28, 0, 0), (28, .iconst 2, 29, 0, 0), (29, .iload_n 1, 30, 0, 0), (30, .iadd, 31, 0, 0), (31, .invokevirtual 60, 34, 170, 0)],
  [(34, .ifCond .ne 9, 37, 43, 0), (37, .iconst 1, 38, 0, 0), (38, .iload_n 3, 39, 0, 0), (39, .ishl, 40, 0, 0), (40, .goto 4, 43, 44, 0), (43, .iconst 0, 44, 0, 0), (44, .ior, 45, 0, 0), (45, .istore_n 2, 46, 0, 0), (46, .iinc 3 1, 49, 0, 0)],
  [(49, .goto (-34), 52, 15, 0), (52, .iload_n 2, 53, 0, 0), (53, .ireturn, 54, 0, 0)]]
def cd266 : List (List cEn) := [[(0, .iconst 0, 1, 0, 0), (1, .istore_n 2, 2, 0, 0), (2, .iconst 0, 3, 0, 0), (3, .istore_n 3, 4, 0, 0), (4, .iload_n 3, 5, 0, 0), (5, .aload_n 0, 6, 0, 0), (6, .getfield 7, 9, 9, 0), (9, .iconst 0, 10, 0, 0), (10, .iaload, 11, 0, 0), (11, .if_icmp .ge 20, 14, 31, 0), (14, .iload_n 2, 15, 0, 0), (15, .aload_n 0, 16, 0, 0)],
  [(16, .iload_n 3, 17, 0, 0), (17, .iconst 2, 18, 0, 0), (18, .iload_n 1, 19, 0, 0), (19, .iadd, 20, 0, 0), (20, .invokevirtual 60, 23, 170, 0), (23, .iadd, 24, 0, 0), (24, .istore_n 2, 25, 0, 0), (25, .iinc 3 1, 28, 0, 0), (28, .goto (-24), 31, 4, 0), (31, .iload_n 2, 32, 0, 0)],
  [(32, .ireturn, 33, 0, 0)]]
def cd267 : List (List cEn) := [[(0, .iconst 0, 1, 0, 0), (1, .istore_n 1, 2, 0, 0), (2, .iconst 1, 3, 0, 0), (3, .istore_n 2, 4, 0, 0), (4, .iload_n 2, 5, 0, 0), (5, .iconst 4, 6, 0, 0), (6, .if_icmp .ge 24, 9, 30, 0), (9, .aload_n 0, 10, 0, 0), (10, .iload_n 2, 11, 0, 0), (11, .invokevirtual 394, 14, 266, 0), (14, .aload_n 0, 15, 0, 0), (15, .iload_n 1, 16, 0, 0)],
  [(16, .invokevirtual 394, 19, 266, 0), (19, .if_icmp .le 5, 22, 24, 0), (22, .iload_n 2, 23, 0, 0), (23, .istore_n 1, 24, 0, 0), (24, .iinc 2 1, 27, 0, 0), (27, .goto (-23), 30, 4, 0), (30, .iload_n 1, 31, 0, 0), (31, .ireturn, 32, 0, 0)]]
def cd268 : List (List cEn) := [[(0, .iconst 0, 1, 0, 0), (1, .istore_n 2, 2, 0, 0), (2, .iconst 0, 3, 0, 0), (3, .istore_n 3, 4, 0, 0), (4, .iload_n 3, 5, 0, 0), (5, .iconst 3, 6, 0, 0), (6, .if_icmp .ge 36, 9, 42, 0), (9, .iload_n 2, 10, 0, 0), (10, .aload_n 0, 11, 0, 0), (11, .iload_n 1, 12, 0, 0), (12, .iload_n 3, 13, 0, 0), (13, .invokevirtual 75, 16, 175, 0)],
  [(16, .ifCond .eq 17, 19, 33, 0), (19, .aload_n 0, 20, 0, 0), (20, .iload_n 1, 21, 0, 0), (21, .iload_n 3, 22, 0, 0), (22, .aload_n 0, 23, 0, 0), (23, .iload_n 1, 24, 0, 0), (24, .invokevirtual 67, 27, 173, 0), (27, .invokevirtual 71, 30, 174, 0), (30, .goto 4, 33, 34, 0)],
  [(33, .iconst 0, 34, 0, 0), (34, .iadd, 35, 0, 0), (35, .istore_n 2, 36, 0, 0), (36, .iinc 3 1, 39, 0, 0), (39, .goto (-35), 42, 4, 0), (42, .iload_n 2, 43, 0, 0), (43, .ireturn, 44, 0, 0)]]
def cd269 : List (List cEn) := [[(0, .iconst (-1), 1, 0, 0), (1, .istore_n 1, 2, 0, 0), (2, .iconst 0, 3, 0, 0), (3, .istore_n 2, 4, 0, 0), (4, .iconst 0, 5, 0, 0), (5, .istore_n 3, 6, 0, 0), (6, .iload_n 3, 7, 0, 0), (7, .aload_n 0, 8, 0, 0), (8, .getfield 7, 11, 9, 0), (11, .iconst 0, 12, 0, 0), (12, .iaload, 13, 0, 0), (13, .if_icmp .ge 29, 16, 42, 0)],
  [(16, .aload_n 0, 17, 0, 0), (17, .iload_n 3, 18, 0, 0), (18, .invokevirtual 397, 21, 268, 0), (21, .iload_n 2, 22, 0, 0), (22, .if_icmp .gt 6, 25, 28, 0), (25, .goto 11, 28, 36, 0), (28, .aload_n 0, 29, 0, 0), (29, .iload_n 3, 30, 0, 0), (30, .invokevirtual 397, 33, 268, 0)],
  [(33, .istore_n 2, 34, 0, 0), (34, .iload_n 3, 35, 0, 0), (35, .istore_n 1, 36, 0, 0), (36, .iinc 3 1, 39, 0, 0), (39, .goto (-33), 42, 6, 0), (42, .iload_n 1, 43, 0, 0), (43, .ireturn, 44, 0, 0)]]
def cd270 : List (List cEn) := [[(0, .aload_n 0, 1, 0, 0), (1, .iload_n 1, 2, 0, 0), (2, .invokevirtual 316, 5, 168, 0), (5, .ifCond .eq 11, 8, 16, 0), (8, .aload_n 0, 9, 0, 0), (9, .iload_n 1, 10, 0, 0), (10, .invokevirtual 385, 13, 176, 0), (13, .ifCond .eq 5, 16, 18, 0)],
  [(16, .iconst (-1), 17, 0, 0), (17, .ireturn, 18, 0, 0), (18, .iconst 0, 19, 0, 0), (19, .istore_n 2, 20, 0, 0), (20, .iconst 1, 21, 0, 0), (21, .istore_n 3, 22, 0, 0), (22, .aload_n 0, 23, 0, 0), (23, .iload_n 1, 24, 0, 0), (24, .iconst 0, 25, 0, 0), (25, .invokevirtual 60, 28, 170, 0), (28, .iload_n 3, 29, 0, 0), (29, .iadd, 30, 0, 0), (30, .bipush 9, 32, 0, 0)],
  [(32, .if_icmp .gt 76, 35, 108, 0), (35, .iconst 1, 36, 0, 0), (36, .istore 4, 38, 0, 0), (38, .iconst 0, 39, 0, 0), (39, .istore 5, 41, 0, 0), (41, .iload 5, 43, 0, 0), (43, .iconst 3, 44, 0, 0), (44, .if_icmp .ge 49, 47, 93, 0), (47, .iload 4, 49, 0, 0)],
  [(49, .ifCond .eq 35, 52, 84, 0), (52, .aload_n 0, 53, 0, 0), (53, .iload_n 1, 54, 0, 0), (54, .iload 5, 56, 0, 0), (56, .aload_n 0, 57, 0, 0), (57, .getfield 7, 60, 9, 0), (60, .bipush 9, 62, 0, 0), (62, .iaload, 63, 0, 0), (63, .aload_n 0, 64, 0, 0)],
  [(64, .iload_n 1, 65, 0, 0), (65, .iconst 0, 66, 0, 0), (66, .invokevirtual 60, 69, 170, 0), (69, .iload_n 3, 70, 0, 0), (70, .iadd, 71, 0, 0), (71, .invokestatic 64, 74, 172, 0), (74, .invokevirtual 71, 77, 174, 0), (77, .ifCond .gt 7, 80, 84, 0)],
  [(80, .iconst 1, 81, 0, 0), (81, .goto 4, 84, 85, 0), (84, .iconst 0, 85, 0, 0), (85, .istore 4, 87, 0, 0), (87, .iinc 5 1, 90, 0, 0), (90, .goto (-49), 93, 41, 0), (93, .iload 4, 95, 0, 0), (95, .ifCond .ne 5, 98, 100, 0)],
  [(98, .iload_n 2, 99, 0, 0), (99, .ireturn, 100, 0, 0), (100, .iload_n 3, 101, 0, 0), (101, .istore_n 2, 102, 0, 0), (102, .iinc 3 1, 105, 0, 0), (105, .goto (-83), 108, 22, 0), (108, .iload_n 2, 109, 0, 0), (109, .ireturn, 110, 0, 0)]]
def cd271 : List (List cEn) := [[(0, .iload_n 1, 1, 0, 0), (1, .iconst 1, 2, 0, 0), (2, .bipush 99, 4, 0, 0), (4, .invokestatic 56, 7, 164, 0), (7, .ifCond .ne 5, 10, 12, 0), (10, .iconst (-1), 11, 0, 0), (11, .ireturn, 12, 0, 0), (12, .iconst 0, 13, 0, 0), (13, .istore_n 2, 14, 0, 0), (14, .iconst 0, 15, 0, 0), (15, .istore_n 3, 16, 0, 0)],
  [(16, .iload_n 3, 17, 0, 0), (17, .aload_n 0, 18, 0, 0), (18, .getfield 7, 21, 9, 0), (21, .iconst 0, 22, 0, 0), (22, .iaload, 23, 0, 0), (23, .if_icmp .ge 67, 26, 90, 0), (26, .iconst 0, 27, 0, 0), (27, .istore 4, 29, 0, 0), (29, .iload 4, 31, 0, 0), (31, .iconst 3, 32, 0, 0)],
  [(32, .if_icmp .ge 52, 35, 84, 0), (35, .iload_n 2, 36, 0, 0), (36, .aload_n 0, 37, 0, 0), (37, .iload_n 3, 38, 0, 0), (38, .iload 4, 40, 0, 0), (40, .invokevirtual 75, 43, 175, 0), (43, .aload_n 0, 44, 0, 0), (44, .iload_n 3, 45, 0, 0), (45, .iload 4, 47, 0, 0), (47, .iload_n 1, 48, 0, 0)],
  [(48, .aload_n 0, 49, 0, 0), (49, .iload_n 3, 50, 0, 0), (50, .iconst 0, 51, 0, 0), (51, .invokevirtual 60, 54, 170, 0), (54, .invokestatic 64, 57, 172, 0), (57, .invokevirtual 71, 60, 174, 0), (60, .ifCond .le 7, 63, 67, 0), (63, .iconst 1, 64, 0, 0)],
  [(64, .goto 4, 67, 68, 0), (67, .iconst 0, 68, 0, 0), (68, .if_icmp .eq 7, 71, 75, 0), (71, .iconst 1, 72, 0, 0), (72, .goto 4, 75, 76, 0), (75, .iconst 0, 76, 0, 0), (76, .iadd, 77, 0, 0), (77, .istore_n 2, 78, 0, 0), (78, .iinc 4 1, 81, 0, 0)],
  [(81, .goto (-52), 84, 29, 0), (84, .iinc 3 1, 87, 0, 0), (87, .goto (-71), 90, 16, 0), (90, .iload_n 2, 91, 0, 0), (91, .ireturn, 92, 0, 0)]]
def cd272 : List (List cEn) := [[(0, .bipush 8, 2, 0, 0), (2, .istore_n 1, 3, 0, 0), (3, .iload_n 1, 4, 0, 0), (4, .bipush 66, 6, 0, 0), (6, .if_icmp .ge 21, 9, 27, 0), (9, .aload_n 0, 10, 0, 0), (10, .getfield 43, 13, 9, 23), (13, .iload_n 1, 14, 0, 0), (14, .aload_n 0, 15, 0, 0), (15, .getfield 7, 18, 9, 0)],
  [(18, .iload_n 1, 19, 0, 0), (19, .iaload, 20, 0, 0), (20, .iastore, 21, 0, 0), (21, .iinc 1 1, 24, 0, 0), (24, .goto (-21), 27, 3, 0), (27, .return_, 28, 0, 0)]]
def cd273 : List (List cEn) := [[(0, .bipush 8, 2, 0, 0), (2, .istore_n 1, 3, 0, 0), (3, .iload_n 1, 4, 0, 0), (4, .bipush 66, 6, 0, 0), (6, .if_icmp .ge 21, 9, 27, 0), (9, .aload_n 0, 10, 0, 0), (10, .getfield 7, 13, 9, 0), (13, .iload_n 1, 14, 0, 0), (14, .aload_n 0, 15, 0, 0), (15, .getfield 43, 18, 9, 23)],
  [(18, .iload_n 1, 19, 0, 0), (19, .iaload, 20, 0, 0), (20, .iastore, 21, 0, 0), (21, .iinc 1 1, 24, 0, 0), (24, .goto (-21), 27, 3, 0), (27, .return_, 28, 0, 0)]]
def cd274 : List (List cEn) := [[(0, .iload_n 1, 1, 0, 0), (1, .iconst 1, 2, 0, 0), (2, .bipush 60, 4, 0, 0), (4, .invokestatic 56, 7, 164, 0), (7, .ifCond .eq 20, 10, 27, 0), (10, .aload_n 0, 11, 0, 0), (11, .iload_n 2, 12, 0, 0), (12, .invokevirtual 316, 15, 168, 0), (15, .ifCond .eq 12, 18, 27, 0)],
  [(18, .iload_n 3, 19, 0, 0), (19, .iconst 0, 20, 0, 0), (20, .iconst 3, 21, 0, 0), (21, .invokestatic 56, 24, 164, 0), (24, .ifCond .ne 5, 27, 29, 0), (27, .iconst (-1), 28, 0, 0), (28, .ireturn, 29, 0, 0), (29, .aload_n 0, 30, 0, 0), (30, .invokevirtual 400, 33, 272, 0)],
  [(33, .iconst 0, 34, 0, 0), (34, .istore 4, 36, 0, 0), (36, .iload 4, 38, 0, 0), (38, .iload_n 1, 39, 0, 0), (39, .if_icmp .ge 26, 42, 65, 0), (42, .aload_n 0, 43, 0, 0), (43, .getfield 7, 46, 9, 0), (46, .bipush 8, 48, 0, 0)],
  [(48, .iaload, 49, 0, 0), (49, .sipush 9999, 52, 0, 0), (52, .if_icmp .ge 7, 55, 59, 0), (55, .aload_n 0, 56, 0, 0), (56, .invokevirtual 346, 59, 237, 0), (59, .iinc 4 1, 62, 0, 0), (62, .goto (-26), 65, 36, 0)],
  [(65, .aload_n 0, 66, 0, 0), (66, .iload_n 2, 67, 0, 0), (67, .iconst 2, 68, 0, 0), (68, .iload_n 3, 69, 0, 0), (69, .iadd, 70, 0, 0), (70, .invokevirtual 60, 73, 170, 0), (73, .istore 4, 75, 0, 0), (75, .aload_n 0, 76, 0, 0), (76, .invokevirtual 403, 79, 273, 0), (79, .iload 4, 81, 0, 0)],
  [(81, .ireturn, 82, 0, 0)]]
def cd275 : List (List cEn) := [[(0, .aload_n 0, 1, 0, 0), (1, .iload_n 1, 2, 0, 0), (2, .invokevirtual 316, 5, 168, 0), (5, .ifCond .eq 20, 8, 25, 0), (8, .iload_n 2, 9, 0, 0), (9, .invokestatic 87, 12, 169, 0), (12, .ifCond .eq 13, 15, 25, 0), (15, .iload_n 3, 16, 0, 0)],
  [(16, .iconst 1, 17, 0, 0), (17, .bipush 99, 19, 0, 0), (19, .invokestatic 56, 22, 164, 0), (22, .ifCond .ne 5, 25, 27, 0), (25, .iconst (-1), 26, 0, 0), (26, .ireturn, 27, 0, 0), (27, .aload_n 0, 28, 0, 0), (28, .invokevirtual 400, 31, 272, 0), (31, .iconst (-1), 32, 0, 0)],
  [(32, .istore 4, 34, 0, 0), (34, .iconst 1, 35, 0, 0), (35, .istore 5, 37, 0, 0), (37, .iconst 0, 38, 0, 0), (38, .istore 6, 40, 0, 0), (40, .iload 6, 42, 0, 0), (42, .bipush 60, 44, 0, 0), (44, .if_icmp .gt 69, 47, 113, 0), (47, .iload 5, 49, 0, 0)],
  [(49, .ifCond .eq 64, 52, 113, 0), (52, .aload_n 0, 53, 0, 0), (53, .iload_n 1, 54, 0, 0), (54, .iload_n 2, 55, 0, 0), (55, .iload_n 3, 56, 0, 0), (56, .invokevirtual 322, 59, 240, 0), (59, .aload_n 0, 60, 0, 0), (60, .iload_n 1, 61, 0, 0), (61, .iload_n 2, 62, 0, 0), (62, .invokevirtual 75, 65, 175, 0)],
  [(65, .ifCond .eq 7, 68, 72, 0), (68, .iload 6, 70, 0, 0), (70, .istore 4, 72, 0, 0), (72, .iload 4, 74, 0, 0), (74, .iconst (-1), 75, 0, 0), (75, .if_icmp .ne 20, 78, 95, 0), (78, .aload_n 0, 79, 0, 0), (79, .getfield 7, 82, 9, 0)],
  [(82, .bipush 8, 84, 0, 0), (84, .iaload, 85, 0, 0), (85, .sipush 9999, 88, 0, 0), (88, .if_icmp .ge 7, 91, 95, 0), (91, .iconst 1, 92, 0, 0), (92, .goto 4, 95, 96, 0), (95, .iconst 0, 96, 0, 0)],
  [(96, .istore 5, 98, 0, 0), (98, .iload 5, 100, 0, 0), (100, .ifCond .eq 7, 103, 107, 0), (103, .aload_n 0, 104, 0, 0), (104, .invokevirtual 346, 107, 237, 0), (107, .iinc 6 1, 110, 0, 0), (110, .goto (-70), 113, 40, 0)],
  [(113, .aload_n 0, 114, 0, 0), (114, .invokevirtual 403, 117, 273, 0), (117, .iload 4, 119, 0, 0), (119, .ireturn, 120, 0, 0)]]
def cd276 : List (List cEn) := [[(0, .iload_n 1, 1, 0, 0), (1, .iconst (-1), 2, 0, 0), (2, .if_icmp .ne 12, 5, 14, 0), (5, .aload_n 0, 6, 0, 0), (6, .getfield 7, 9, 9, 0), (9, .iconst 4, 10, 0, 0), (10, .iconst 0, 11, 0, 0), (11, .iastore, 12, 0, 0), (12, .iconst 0, 13, 0, 0), (13, .ireturn, 14, 0, 0), (14, .iload_n 1, 15, 0, 0), (15, .invokestatic 87, 18, 169, 0)],
  [(18, .ifCond .eq 24, 21, 42, 0), (21, .iload_n 2, 22, 0, 0), (22, .iconst 1, 23, 0, 0), (23, .bipush 99, 25, 0, 0), (25, .invokestatic 56, 28, 164, 0), (28, .ifCond .eq 14, 31, 42, 0), (31, .aload_n 0, 32, 0, 0)],
  [(32, .getfield 7, 35, 9, 0), (35, .iconst 4, 36, 0, 0), (36, .iaload, 37, 0, 0), (37, .bipush 8, 39, 0, 0), (39, .if_icmp .ne 6, 42, 45, 0), (42, .bipush (-2), 44, 0, 0), (44, .ireturn, 45, 0, 0), (45, .aload_n 0, 46, 0, 0), (46, .getfield 7, 49, 9, 0)],
  [(49, .bipush 70, 51, 0, 0), (51, .iconst 2, 52, 0, 0), (52, .aload_n 0, 53, 0, 0), (53, .getfield 7, 56, 9, 0), (56, .iconst 4, 57, 0, 0), (57, .iaload, 58, 0, 0), (58, .imul, 59, 0, 0), (59, .iadd, 60, 0, 0), (60, .iload_n 1, 61, 0, 0), (61, .iastore, 62, 0, 0), (62, .aload_n 0, 63, 0, 0), (63, .getfield 7, 66, 9, 0)],
  [(66, .bipush 70, 68, 0, 0), (68, .iconst 2, 69, 0, 0), (69, .aload_n 0, 70, 0, 0), (70, .getfield 7, 73, 9, 0), (73, .iconst 4, 74, 0, 0), (74, .iaload, 75, 0, 0), (75, .imul, 76, 0, 0), (76, .iadd, 77, 0, 0), (77, .iconst 1, 78, 0, 0), (78, .iadd, 79, 0, 0), (79, .iload_n 2, 80, 0, 0)],
  [(80, .iastore, 81, 0, 0), (81, .aload_n 0, 82, 0, 0), (82, .getfield 7, 85, 9, 0), (85, .iconst 4, 86, 0, 0), (86, .dup2, 87, 0, 0), (87, .iaload, 88, 0, 0), (88, .iconst 1, 89, 0, 0), (89, .iadd, 90, 0, 0), (90, .iastore, 91, 0, 0), (91, .aload_n 0, 92, 0, 0), (92, .getfield 7, 95, 9, 0), (95, .iconst 4, 96, 0, 0)],
  [(96, .iaload, 97, 0, 0), (97, .ireturn, 98, 0, 0)]]
def cd277 : List (List cEn) := [[(0, .iconst 0, 1, 0, 0), (1, .istore_n 3, 2, 0, 0), (2, .iconst 0, 3, 0, 0), (3, .istore 4, 5, 0, 0), (5, .iload 4, 7, 0, 0), (7, .iconst 3, 8, 0, 0), (8, .if_icmp .ge 111, 11, 119, 0), (11, .iconst 0, 12, 0, 0), (12, .istore 5, 14, 0, 0), (14, .iconst 0, 15, 0, 0), (15, .istore 6, 17, 0, 0)],
  [(17, .iload 6, 19, 0, 0), (19, .aload_n 0, 20, 0, 0), (20, .getfield 7, 23, 9, 0), (23, .iconst 4, 24, 0, 0), (24, .iaload, 25, 0, 0), (25, .if_icmp .ge 58, 28, 83, 0), (28, .iload 5, 30, 0, 0), (30, .iload_n 2, 31, 0, 0), (31, .iload 6, 33, 0, 0)],
  [(33, .invokestatic 252, 36, 166, 0), (36, .ifCond .eq 37, 39, 73, 0), (39, .aload_n 0, 40, 0, 0), (40, .getfield 7, 43, 9, 0), (43, .bipush 70, 45, 0, 0), (45, .iconst 2, 46, 0, 0), (46, .iload 6, 48, 0, 0)],
  [(48, .imul, 49, 0, 0), (49, .iadd, 50, 0, 0), (50, .iaload, 51, 0, 0), (51, .iload 4, 53, 0, 0), (53, .if_icmp .ne 20, 56, 73, 0), (56, .aload_n 0, 57, 0, 0), (57, .getfield 7, 60, 9, 0), (60, .bipush 70, 62, 0, 0), (62, .iconst 2, 63, 0, 0), (63, .iload 6, 65, 0, 0)],
  [(65, .imul, 66, 0, 0), (66, .iadd, 67, 0, 0), (67, .iconst 1, 68, 0, 0), (68, .iadd, 69, 0, 0), (69, .iaload, 70, 0, 0), (70, .goto 4, 73, 74, 0), (73, .iconst 0, 74, 0, 0), (74, .iadd, 75, 0, 0), (75, .istore 5, 77, 0, 0), (77, .iinc 6 1, 80, 0, 0)],
  [(80, .goto (-63), 83, 17, 0), (83, .iload 5, 85, 0, 0), (85, .ifCond .le 23, 88, 108, 0), (88, .aload_n 0, 89, 0, 0), (89, .iload_n 1, 90, 0, 0), (90, .iload 4, 92, 0, 0), (92, .aload_n 0, 93, 0, 0), (93, .iload_n 1, 94, 0, 0), (94, .invokevirtual 67, 97, 173, 0)],
  [(97, .invokevirtual 71, 100, 174, 0), (100, .iload 5, 102, 0, 0), (102, .iadd, 103, 0, 0), (103, .ifCond .le 5, 106, 108, 0), (106, .iconst (-1), 107, 0, 0), (107, .ireturn, 108, 0, 0), (108, .iload_n 3, 109, 0, 0), (109, .iload 5, 111, 0, 0), (111, .iadd, 112, 0, 0)],
  [(112, .istore_n 3, 113, 0, 0), (113, .iinc 4 1, 116, 0, 0), (116, .goto (-111), 119, 5, 0), (119, .iload_n 3, 120, 0, 0), (120, .ireturn, 121, 0, 0)]]
def cd278 : List (List cEn) := [[(0, .aload_n 0, 1, 0, 0), (1, .iload_n 1, 2, 0, 0), (2, .invokevirtual 316, 5, 168, 0), (5, .ifCond .ne 5, 8, 10, 0), (8, .iconst (-1), 9, 0, 0), (9, .ireturn, 10, 0, 0), (10, .iconst 0, 11, 0, 0), (11, .istore_n 2, 12, 0, 0), (12, .iconst 1, 13, 0, 0), (13, .istore_n 3, 14, 0, 0), (14, .iload_n 3, 15, 0, 0), (15, .iconst 1, 16, 0, 0)],
  [(16, .aload_n 0, 17, 0, 0), (17, .getfield 7, 20, 9, 0), (20, .iconst 4, 21, 0, 0), (21, .iaload, 22, 0, 0), (22, .ishl, 23, 0, 0), (23, .if_icmp .ge 61, 26, 84, 0), (26, .aload_n 0, 27, 0, 0), (27, .iload_n 1, 28, 0, 0), (28, .iload_n 3, 29, 0, 0), (29, .invokevirtual 406, 32, 277, 0)],
  [(32, .istore 4, 34, 0, 0), (34, .iload 4, 36, 0, 0), (36, .iconst (-1), 37, 0, 0), (37, .if_icmp .eq 41, 40, 78, 0), (40, .iload_n 3, 41, 0, 0), (41, .invokestatic 409, 44, 167, 0), (44, .iload_n 2, 45, 0, 0), (45, .invokestatic 409, 48, 167, 0)],
  [(48, .if_icmp .lt 30, 51, 78, 0), (51, .iload_n 3, 52, 0, 0), (52, .invokestatic 409, 55, 167, 0), (55, .iload_n 2, 56, 0, 0), (56, .invokestatic 409, 59, 167, 0), (59, .if_icmp .ne 17, 62, 76, 0), (62, .iload 4, 64, 0, 0)],
  [(64, .aload_n 0, 65, 0, 0), (65, .iload_n 1, 66, 0, 0), (66, .iload_n 2, 67, 0, 0), (67, .invokevirtual 406, 70, 277, 0), (70, .if_icmp .gt 6, 73, 76, 0), (73, .goto 5, 76, 78, 0), (76, .iload_n 3, 77, 0, 0), (77, .istore_n 2, 78, 0, 0), (78, .iinc 3 1, 81, 0, 0)],
  [(81, .goto (-67), 84, 14, 0), (84, .iload_n 2, 85, 0, 0), (85, .ireturn, 86, 0, 0)]]
def cd279 : List (List cEn) := [[(0, .lload_n 0, 1, 0, 0), (1, .lstore 4, 3, 0, 0), (3, .lload_n 2, 4, 0, 0), (4, .lstore 6, 6, 0, 0), (6, .lload 6, 8, 0, 0), (8, .lconst 0, 9, 0, 0), (9, .lcmp, 10, 0, 0), (10, .ifCond .eq 21, 13, 31, 0), (13, .lload 4, 15, 0, 0), (15, .lload 6, 17, 0, 0)],
  [(17, .lrem, 18, 0, 0), (18, .lstore 8, 20, 0, 0), (20, .lload 6, 22, 0, 0), (22, .lstore 4, 24, 0, 0), (24, .lload 8, 26, 0, 0), (26, .lstore 6, 28, 0, 0), (28, .goto (-22), 31, 6, 0), (31, .lload 4, 33, 0, 0)],
  [(33, .lreturn, 34, 0, 0)]]
def cd280 : List (List cEn) := [[(0, .lconst 1, 1, 0, 0), (1, .lstore_n 2, 2, 0, 0), (2, .iconst 0, 3, 0, 0), (3, .istore 4, 5, 0, 0), (5, .iload 4, 7, 0, 0), (7, .iload_n 1, 8, 0, 0), (8, .if_icmp .ge 14, 11, 22, 0), (11, .lload_n 2, 12, 0, 0), (12, .iload_n 0, 13, 0, 0), (13, .i2l, 14, 0, 0), (14, .lmul, 15, 0, 0), (15, .lstore_n 2, 16, 0, 0)],
  [(16, .iinc 4 1, 19, 0, 0), (19, .goto (-14), 22, 5, 0), (22, .lload_n 2, 23, 0, 0), (23, .lreturn, 24, 0, 0)]]
def cd281 : List (List cEn) := [[(0, .lconst 1, 1, 0, 0), (1, .lstore_n 2, 2, 0, 0), (2, .iconst 0, 3, 0, 0), (3, .istore 4, 5, 0, 0), (5, .iload 4, 7, 0, 0), (7, .iload_n 1, 8, 0, 0), (8, .if_icmp .ge 23, 11, 31, 0), (11, .lload_n 2, 12, 0, 0), (12, .iload_n 0, 13, 0, 0), (13, .iload 4, 15, 0, 0), (15, .isub, 16, 0, 0)],
  [(16, .i2l, 17, 0, 0), (17, .lmul, 18, 0, 0), (18, .iload 4, 20, 0, 0), (20, .iconst 1, 21, 0, 0), (21, .iadd, 22, 0, 0), (22, .i2l, 23, 0, 0), (23, .ldiv, 24, 0, 0), (24, .lstore_n 2, 25, 0, 0), (25, .iinc 4 1, 28, 0, 0), (28, .goto (-23), 31, 5, 0), (31, .lload_n 2, 32, 0, 0)],
  [(32, .lreturn, 33, 0, 0)]]
def cd282 : List (List cEn) := [[(0, .lconst 0, 1, 0, 0), (1, .lstore_n 2, 2, 0, 0), (2, .iload_n 1, 3, 0, 0), (3, .iconst 2, 4, 0, 0), (4, .idiv, 5, 0, 0), (5, .iconst 1, 6, 0, 0), (6, .iadd, 7, 0, 0), (7, .istore 4, 9, 0, 0), (9, .iload 4, 11, 0, 0), (11, .iload_n 1, 12, 0, 0), (12, .if_icmp .gt 37, 15, 49, 0), (15, .lload_n 2, 16, 0, 0)],
  [(16, .iload_n 1, 17, 0, 0), (17, .iload 4, 19, 0, 0), (19, .invokestatic 412, 22, 281, 0), (22, .iload_n 0, 23, 0, 0), (23, .iload 4, 25, 0, 0), (25, .invokestatic 415, 28, 280, 0), (28, .lmul, 29, 0, 0), (29, .bipush 10, 31, 0, 0), (31, .iload_n 0, 32, 0, 0)],
  [(32, .isub, 33, 0, 0), (33, .iload_n 1, 34, 0, 0), (34, .iload 4, 36, 0, 0), (36, .isub, 37, 0, 0), (37, .invokestatic 415, 40, 280, 0), (40, .lmul, 41, 0, 0), (41, .ladd, 42, 0, 0), (42, .lstore_n 2, 43, 0, 0), (43, .iinc 4 1, 46, 0, 0), (46, .goto (-37), 49, 9, 0)],
  [(49, .lload_n 2, 50, 0, 0), (50, .lreturn, 51, 0, 0)]]
def cd283 : List (List cEn) := [[(0, .aload_n 0, 1, 0, 0), (1, .iload_n 1, 2, 0, 0), (2, .invokevirtual 316, 5, 168, 0), (5, .ifCond .eq 26, 8, 31, 0), (8, .iload_n 2, 9, 0, 0), (9, .invokestatic 87, 12, 169, 0), (12, .ifCond .eq 19, 15, 31, 0), (15, .iload_n 3, 16, 0, 0)],
  [(16, .iconst 1, 17, 0, 0), (17, .bipush 9, 19, 0, 0), (19, .invokestatic 56, 22, 164, 0), (22, .ifCond .eq 9, 25, 31, 0), (25, .iload_n 3, 26, 0, 0), (26, .iconst 2, 27, 0, 0), (27, .irem, 28, 0, 0), (28, .ifCond .ne 7, 31, 35, 0), (31, .ldc2_w 418, 34, 0, (-1))],
  [(34, .lreturn, 35, 0, 0), (35, .aload_n 0, 36, 0, 0), (36, .iload_n 1, 37, 0, 0), (37, .iload_n 2, 38, 0, 0), (38, .invokevirtual 331, 41, 234, 0), (41, .iload_n 3, 42, 0, 0), (42, .invokestatic 420, 45, 282, 0), (45, .lstore 5, 47, 0, 0), (47, .bipush 10, 49, 0, 0)],
  [(49, .iload_n 3, 50, 0, 0), (50, .invokestatic 415, 53, 280, 0), (53, .lstore 7, 55, 0, 0), (55, .iload 4, 57, 0, 0), (57, .ifCond .eq 8, 60, 65, 0), (60, .lload 7, 62, 0, 0), (62, .goto 5, 65, 67, 0)],
  [(65, .lload 5, 67, 0, 0), (67, .lload 5, 69, 0, 0), (69, .lload 7, 71, 0, 0), (71, .invokestatic 423, 74, 279, 0), (74, .ldiv, 75, 0, 0), (75, .lreturn, 76, 0, 0)]]
def cd284 : List (List cEn) := [[(0, .aload_n 0, 1, 0, 0), (1, .iload_n 1, 2, 0, 0), (2, .invokevirtual 316, 5, 168, 0), (5, .ifCond .eq 20, 8, 25, 0), (8, .iload_n 2, 9, 0, 0), (9, .invokestatic 87, 12, 169, 0), (12, .ifCond .eq 13, 15, 25, 0), (15, .iload_n 3, 16, 0, 0)],
  [(16, .iconst 0, 17, 0, 0), (17, .bipush 100, 19, 0, 0), (19, .invokestatic 56, 22, 164, 0), (22, .ifCond .ne 5, 25, 27, 0), (25, .iconst (-1), 26, 0, 0), (26, .ireturn, 27, 0, 0), (27, .aload_n 0, 28, 0, 0), (28, .iload_n 1, 29, 0, 0), (29, .iload_n 2, 30, 0, 0), (30, .invokevirtual 331, 33, 234, 0)],
  [(33, .istore 4, 35, 0, 0), (35, .iconst 1, 36, 0, 0), (36, .istore 5, 38, 0, 0), (38, .iload 5, 40, 0, 0), (40, .bipush 10, 42, 0, 0), (42, .if_icmp .ge 37, 45, 79, 0), (45, .ldc2_w 426, 48, 0, 100)],
  [(48, .iload 4, 50, 0, 0), (50, .iload 5, 52, 0, 0), (52, .invokestatic 420, 55, 282, 0), (55, .lmul, 56, 0, 0), (56, .iload_n 3, 57, 0, 0), (57, .i2l, 58, 0, 0), (58, .bipush 10, 60, 0, 0), (60, .iload 5, 62, 0, 0), (62, .invokestatic 415, 65, 280, 0)],
  [(65, .lmul, 66, 0, 0), (66, .lcmp, 67, 0, 0), (67, .ifCond .gt 6, 70, 73, 0), (70, .iload 5, 72, 0, 0), (72, .ireturn, 73, 0, 0), (73, .iinc 5 2, 76, 0, 0), (76, .goto (-38), 79, 38, 0), (79, .iconst (-1), 80, 0, 0)],
  [(80, .ireturn, 81, 0, 0)]]
def cd285 : List (List cEn) := [[(0, .aload_n 0, 1, 0, 0), (1, .iload_n 1, 2, 0, 0), (2, .invokevirtual 316, 5, 168, 0), (5, .ifCond .eq 26, 8, 31, 0), (8, .aload_n 0, 9, 0, 0), (9, .iload_n 2, 10, 0, 0), (10, .invokevirtual 316, 13, 168, 0), (13, .ifCond .eq 18, 16, 31, 0)],
  [(16, .iload_n 1, 17, 0, 0), (17, .iload_n 2, 18, 0, 0), (18, .if_icmp .eq 13, 21, 31, 0), (21, .iload_n 3, 22, 0, 0), (22, .iconst 1, 23, 0, 0), (23, .bipush 99, 25, 0, 0), (25, .invokestatic 56, 28, 164, 0), (28, .ifCond .ne 5, 31, 33, 0), (31, .iconst 0, 32, 0, 0)],
  [(32, .ireturn, 33, 0, 0), (33, .aload_n 0, 34, 0, 0), (34, .getfield 7, 37, 9, 0), (37, .bipush 86, 39, 0, 0), (39, .bipush 6, 41, 0, 0), (41, .iload_n 1, 42, 0, 0), (42, .imul, 43, 0, 0), (43, .iadd, 44, 0, 0), (44, .iload_n 2, 45, 0, 0), (45, .iadd, 46, 0, 0), (46, .iload_n 3, 47, 0, 0), (47, .iastore, 48, 0, 0)],
  [(48, .aload_n 0, 49, 0, 0), (49, .getfield 7, 52, 9, 0), (52, .bipush 86, 54, 0, 0), (54, .bipush 6, 56, 0, 0), (56, .iload_n 2, 57, 0, 0), (57, .imul, 58, 0, 0), (58, .iadd, 59, 0, 0), (59, .iload_n 1, 60, 0, 0), (60, .iadd, 61, 0, 0), (61, .iload_n 3, 62, 0, 0), (62, .iastore, 63, 0, 0), (63, .iconst 1, 64, 0, 0)],
  [(64, .ireturn, 65, 0, 0)]]
def cd286 : List (List cEn) := [[(0, .iconst 0, 1, 0, 0), (1, .istore_n 1, 2, 0, 0), (2, .iconst 0, 3, 0, 0), (3, .istore_n 2, 4, 0, 0), (4, .iload_n 2, 5, 0, 0), (5, .aload_n 0, 6, 0, 0), (6, .getfield 7, 9, 9, 0), (9, .iconst 0, 10, 0, 0), (10, .iaload, 11, 0, 0), (11, .if_icmp .ge 54, 14, 65, 0), (14, .iload_n 1, 15, 0, 0), (15, .aload_n 0, 16, 0, 0)],
  [(16, .getfield 7, 19, 9, 0), (19, .bipush 86, 21, 0, 0), (21, .bipush 6, 23, 0, 0), (23, .aload_n 0, 24, 0, 0), (24, .getfield 46, 27, 9, 24), (27, .iload_n 2, 28, 0, 0), (28, .iaload, 29, 0, 0), (29, .imul, 30, 0, 0), (30, .iadd, 31, 0, 0), (31, .aload_n 0, 32, 0, 0)],
  [(32, .getfield 46, 35, 9, 24), (35, .iload_n 2, 36, 0, 0), (36, .iconst 1, 37, 0, 0), (37, .iadd, 38, 0, 0), (38, .aload_n 0, 39, 0, 0), (39, .getfield 7, 42, 9, 0), (42, .iconst 0, 43, 0, 0), (43, .iaload, 44, 0, 0), (44, .if_icmp .ge 9, 47, 53, 0), (47, .iload_n 2, 48, 0, 0)],
  [(48, .iconst 1, 49, 0, 0), (49, .iadd, 50, 0, 0), (50, .goto 4, 53, 54, 0), (53, .iconst 0, 54, 0, 0), (54, .iaload, 55, 0, 0), (55, .iadd, 56, 0, 0), (56, .iaload, 57, 0, 0), (57, .iadd, 58, 0, 0), (58, .istore_n 1, 59, 0, 0), (59, .iinc 2 1, 62, 0, 0), (62, .goto (-58), 65, 4, 0)],
  [(65, .iload_n 1, 66, 0, 0), (66, .ireturn, 67, 0, 0)]]
def cd287 : List (List cEn) := [[(0, .aload_n 0, 1, 0, 0), (1, .getfield 7, 4, 9, 0), (4, .iconst 0, 5, 0, 0), (5, .iaload, 6, 0, 0), (6, .istore_n 1, 7, 0, 0), (7, .iload_n 1, 8, 0, 0), (8, .iconst 2, 9, 0, 0), (9, .isub, 10, 0, 0), (10, .istore_n 2, 11, 0, 0), (11, .iload_n 2, 12, 0, 0), (12, .ifCond .le 26, 15, 38, 0), (15, .aload_n 0, 16, 0, 0)],
  [(16, .getfield 46, 19, 9, 24), (19, .iload_n 2, 20, 0, 0), (20, .iaload, 21, 0, 0), (21, .aload_n 0, 22, 0, 0), (22, .getfield 46, 25, 9, 24), (25, .iload_n 2, 26, 0, 0), (26, .iconst 1, 27, 0, 0), (27, .iadd, 28, 0, 0), (28, .iaload, 29, 0, 0), (29, .if_icmp .le 9, 32, 38, 0)],
  [(32, .iinc 2 (-1), 35, 0, 0), (35, .goto (-24), 38, 11, 0), (38, .iload_n 2, 39, 0, 0), (39, .ifCond .gt 5, 42, 44, 0), (42, .iconst 0, 43, 0, 0), (43, .ireturn, 44, 0, 0), (44, .iload_n 1, 45, 0, 0), (45, .iconst 1, 46, 0, 0), (46, .isub, 47, 0, 0), (47, .istore_n 3, 48, 0, 0)],
  [(48, .aload_n 0, 49, 0, 0), (49, .getfield 46, 52, 9, 24), (52, .iload_n 3, 53, 0, 0), (53, .iaload, 54, 0, 0), (54, .aload_n 0, 55, 0, 0), (55, .getfield 46, 58, 9, 24), (58, .iload_n 2, 59, 0, 0), (59, .iaload, 60, 0, 0), (60, .if_icmp .ge 9, 63, 69, 0), (63, .iinc 3 (-1), 66, 0, 0)],
  [(66, .goto (-18), 69, 48, 0), (69, .aload_n 0, 70, 0, 0), (70, .getfield 46, 73, 9, 24), (73, .iload_n 2, 74, 0, 0), (74, .iaload, 75, 0, 0), (75, .istore 4, 77, 0, 0), (77, .aload_n 0, 78, 0, 0), (78, .getfield 46, 81, 9, 24)],
  [(81, .iload_n 2, 82, 0, 0), (82, .aload_n 0, 83, 0, 0), (83, .getfield 46, 86, 9, 24), (86, .iload_n 3, 87, 0, 0), (87, .iaload, 88, 0, 0), (88, .iastore, 89, 0, 0), (89, .aload_n 0, 90, 0, 0), (90, .getfield 46, 93, 9, 24), (93, .iload_n 3, 94, 0, 0), (94, .iload 4, 96, 0, 0)],
  [(96, .iastore, 97, 0, 0), (97, .iload_n 2, 98, 0, 0), (98, .iconst 1, 99, 0, 0), (99, .iadd, 100, 0, 0), (100, .istore 5, 102, 0, 0), (102, .iload_n 1, 103, 0, 0), (103, .iconst 1, 104, 0, 0), (104, .isub, 105, 0, 0), (105, .istore 6, 107, 0, 0), (107, .iload 5, 109, 0, 0), (109, .iload 6, 111, 0, 0), (111, .if_icmp .ge 44, 114, 155, 0)],
  [(114, .aload_n 0, 115, 0, 0), (115, .getfield 46, 118, 9, 24), (118, .iload 5, 120, 0, 0), (120, .iaload, 121, 0, 0), (121, .istore 4, 123, 0, 0), (123, .aload_n 0, 124, 0, 0), (124, .getfield 46, 127, 9, 24), (127, .iload 5, 129, 0, 0)],
  [(129, .aload_n 0, 130, 0, 0), (130, .getfield 46, 133, 9, 24), (133, .iload 6, 135, 0, 0), (135, .iaload, 136, 0, 0), (136, .iastore, 137, 0, 0), (137, .aload_n 0, 138, 0, 0), (138, .getfield 46, 141, 9, 24), (141, .iload 6, 143, 0, 0), (143, .iload 4, 145, 0, 0)],
  [(145, .iastore, 146, 0, 0), (146, .iinc 5 1, 149, 0, 0), (149, .iinc 6 (-1), 152, 0, 0), (152, .goto (-45), 155, 107, 0), (155, .iconst 1, 156, 0, 0), (156, .ireturn, 157, 0, 0)]]
def cd288 : List (List cEn) := [[(0, .ldc_w 428, 3, 0, 1000000000), (3, .istore_n 1, 4, 0, 0), (4, .iconst 0, 5, 0, 0), (5, .istore_n 2, 6, 0, 0), (6, .iload_n 2, 7, 0, 0), (7, .aload_n 0, 8, 0, 0), (8, .getfield 7, 11, 9, 0), (11, .iconst 0, 12, 0, 0), (12, .iaload, 13, 0, 0), (13, .if_icmp .ge 16, 16, 29, 0)],
  [(16, .aload_n 0, 17, 0, 0), (17, .getfield 46, 20, 9, 24), (20, .iload_n 2, 21, 0, 0), (21, .iload_n 2, 22, 0, 0), (22, .iastore, 23, 0, 0), (23, .iinc 2 1, 26, 0, 0), (26, .goto (-20), 29, 6, 0), (29, .iconst 1, 30, 0, 0), (30, .istore_n 2, 31, 0, 0), (31, .iload_n 2, 32, 0, 0)],
  [(32, .ifCond .eq 54, 35, 86, 0), (35, .aload_n 0, 36, 0, 0), (36, .invokevirtual 429, 39, 286, 0), (39, .iload_n 1, 40, 0, 0), (40, .if_icmp .ge 38, 43, 78, 0), (43, .aload_n 0, 44, 0, 0), (44, .invokevirtual 429, 47, 286, 0), (47, .istore_n 1, 48, 0, 0)],
  [(48, .iconst 0, 49, 0, 0), (49, .istore_n 3, 50, 0, 0), (50, .iload_n 3, 51, 0, 0), (51, .aload_n 0, 52, 0, 0), (52, .getfield 7, 55, 9, 0), (55, .iconst 0, 56, 0, 0), (56, .iaload, 57, 0, 0), (57, .if_icmp .ge 21, 60, 78, 0), (60, .aload_n 0, 61, 0, 0), (61, .getfield 49, 64, 9, 25)],
  [(64, .iload_n 3, 65, 0, 0), (65, .aload_n 0, 66, 0, 0), (66, .getfield 46, 69, 9, 24), (69, .iload_n 3, 70, 0, 0), (70, .iaload, 71, 0, 0), (71, .iastore, 72, 0, 0), (72, .iinc 3 1, 75, 0, 0), (75, .goto (-25), 78, 50, 0), (78, .aload_n 0, 79, 0, 0), (79, .invokevirtual 432, 82, 287, 0)],
  [(82, .istore_n 2, 83, 0, 0), (83, .goto (-52), 86, 31, 0), (86, .iload_n 1, 87, 0, 0), (87, .ireturn, 88, 0, 0)]]
def cd289 : List (List cEn) := [[(0, .iload_n 1, 1, 0, 0), (1, .iconst (-1), 2, 0, 0), (2, .aload_n 0, 3, 0, 0), (3, .getfield 7, 6, 9, 0), (6, .iconst 0, 7, 0, 0), (7, .iaload, 8, 0, 0), (8, .iconst 2, 9, 0, 0), (9, .isub, 10, 0, 0), (10, .invokestatic 56, 13, 164, 0), (13, .ifCond .ne 11, 16, 24, 0)],
  [(16, .iload_n 1, 17, 0, 0), (17, .iconst (-1), 18, 0, 0), (18, .if_icmp .eq 6, 21, 24, 0), (21, .bipush (-2), 23, 0, 0), (23, .ireturn, 24, 0, 0), (24, .aload_n 0, 25, 0, 0), (25, .getfield 7, 28, 9, 0), (28, .iconst 0, 29, 0, 0), (29, .iaload, 30, 0, 0), (30, .iconst 2, 31, 0, 0), (31, .if_icmp .ge 5, 34, 36, 0)],
  [(34, .iconst 0, 35, 0, 0), (35, .ireturn, 36, 0, 0), (36, .aload_n 0, 37, 0, 0), (37, .invokevirtual 435, 40, 288, 0), (40, .istore_n 2, 41, 0, 0), (41, .iload_n 1, 42, 0, 0), (42, .iconst (-1), 43, 0, 0), (43, .if_icmp .ne 7, 46, 50, 0), (46, .iload_n 2, 47, 0, 0), (47, .goto 11, 50, 58, 0)],
  [(50, .aload_n 0, 51, 0, 0), (51, .getfield 49, 54, 9, 25), (54, .iload_n 1, 55, 0, 0), (55, .iconst 1, 56, 0, 0), (56, .iadd, 57, 0, 0), (57, .iaload, 58, 0, 0), (58, .ireturn, 59, 0, 0)]]
def cd290 : List (List cEn) := [[(0, .iload_n 1, 1, 0, 0), (1, .iconst (-1), 2, 0, 0), (2, .if_icmp .ne 12, 5, 14, 0), (5, .aload_n 0, 6, 0, 0), (6, .getfield 7, 9, 9, 0), (9, .iconst 5, 10, 0, 0), (10, .iconst 0, 11, 0, 0), (11, .iastore, 12, 0, 0), (12, .iconst 0, 13, 0, 0), (13, .ireturn, 14, 0, 0), (14, .iload_n 1, 15, 0, 0), (15, .iconst 0, 16, 0, 0)],
  [(16, .sipush 999, 19, 0, 0), (19, .invokestatic 56, 22, 164, 0), (22, .ifCond .eq 25, 25, 47, 0), (25, .iload_n 2, 26, 0, 0), (26, .iconst 0, 27, 0, 0), (27, .sipush 999, 30, 0, 0), (30, .invokestatic 56, 33, 164, 0)],
  [(33, .ifCond .eq 14, 36, 47, 0), (36, .aload_n 0, 37, 0, 0), (37, .getfield 7, 40, 9, 0), (40, .iconst 5, 41, 0, 0), (41, .iaload, 42, 0, 0), (42, .bipush 8, 44, 0, 0), (44, .if_icmp .ne 6, 47, 50, 0), (47, .bipush (-2), 49, 0, 0)],
  [(49, .ireturn, 50, 0, 0), (50, .aload_n 0, 51, 0, 0), (51, .getfield 7, 54, 9, 0), (54, .bipush 122, 56, 0, 0), (56, .iconst 2, 57, 0, 0), (57, .aload_n 0, 58, 0, 0), (58, .getfield 7, 61, 9, 0), (61, .iconst 5, 62, 0, 0), (62, .iaload, 63, 0, 0), (63, .imul, 64, 0, 0)],
  [(64, .iadd, 65, 0, 0), (65, .iload_n 1, 66, 0, 0), (66, .iastore, 67, 0, 0), (67, .aload_n 0, 68, 0, 0), (68, .getfield 7, 71, 9, 0), (71, .bipush 122, 73, 0, 0), (73, .iconst 2, 74, 0, 0), (74, .aload_n 0, 75, 0, 0), (75, .getfield 7, 78, 9, 0), (78, .iconst 5, 79, 0, 0), (79, .iaload, 80, 0, 0)],
  [(80, .imul, 81, 0, 0), (81, .iadd, 82, 0, 0), (82, .iconst 1, 83, 0, 0), (83, .iadd, 84, 0, 0), (84, .iload_n 2, 85, 0, 0), (85, .iastore, 86, 0, 0), (86, .aload_n 0, 87, 0, 0), (87, .getfield 7, 90, 9, 0), (90, .iconst 5, 91, 0, 0), (91, .dup2, 92, 0, 0), (92, .iaload, 93, 0, 0), (93, .iconst 1, 94, 0, 0), (94, .iadd, 95, 0, 0), (95, .iastore, 96, 0, 0)],
  [(96, .aload_n 0, 97, 0, 0), (97, .getfield 7, 100, 9, 0), (100, .iconst 5, 101, 0, 0), (101, .iaload, 102, 0, 0), (102, .ireturn, 103, 0, 0)]]
def cd291 : List (List cEn) := [[(0, .iconst 0, 1, 0, 0), (1, .istore_n 2, 2, 0, 0), (2, .iload_n 2, 3, 0, 0), (3, .aload_n 0, 4, 0, 0), (4, .getfield 7, 7, 9, 0), (7, .iconst 5, 8, 0, 0), (8, .iaload, 9, 0, 0), (9, .if_icmp .ge 40, 12, 49, 0), (12, .aload_n 0, 13, 0, 0), (13, .getfield 7, 16, 9, 0)],
  [(16, .bipush 122, 18, 0, 0), (18, .iconst 2, 19, 0, 0), (19, .iload_n 2, 20, 0, 0), (20, .imul, 21, 0, 0), (21, .iadd, 22, 0, 0), (22, .iaload, 23, 0, 0), (23, .iload_n 1, 24, 0, 0), (24, .idiv, 25, 0, 0), (25, .aload_n 0, 26, 0, 0), (26, .getfield 7, 29, 9, 0), (29, .bipush 122, 31, 0, 0), (31, .iconst 2, 32, 0, 0)],
  [(32, .iload_n 2, 33, 0, 0), (33, .imul, 34, 0, 0), (34, .iadd, 35, 0, 0), (35, .iconst 1, 36, 0, 0), (36, .iadd, 37, 0, 0), (37, .iaload, 38, 0, 0), (38, .if_icmp .eq 5, 41, 43, 0), (41, .iconst 0, 42, 0, 0), (42, .ireturn, 43, 0, 0), (43, .iinc 2 1, 46, 0, 0), (46, .goto (-44), 49, 2, 0)],
  [(49, .iconst 1, 50, 0, 0), (50, .ireturn, 51, 0, 0)]]
def cd292 : List (List cEn) := [[(0, .iload_n 1, 1, 0, 0), (1, .iconst 0, 2, 0, 0), (2, .iconst 2, 3, 0, 0), (3, .invokestatic 56, 6, 164, 0), (6, .ifCond .ne 6, 9, 12, 0), (9, .bipush (-2), 11, 0, 0), (11, .ireturn, 12, 0, 0), (12, .iconst 0, 13, 0, 0), (13, .istore_n 2, 14, 0, 0), (14, .iconst (-1), 15, 0, 0), (15, .istore_n 3, 16, 0, 0)],
  [(16, .iconst (-1), 17, 0, 0), (17, .istore 4, 19, 0, 0), (19, .iconst 1, 20, 0, 0), (20, .istore 5, 22, 0, 0), (22, .iload 5, 24, 0, 0), (24, .bipush 100, 26, 0, 0), (26, .if_icmp .ge 40, 29, 66, 0), (29, .aload_n 0, 30, 0, 0), (30, .iload 5, 32, 0, 0)],
  [(32, .invokevirtual 438, 35, 291, 0), (35, .ifCond .ne 6, 38, 41, 0), (38, .goto 22, 41, 60, 0), (41, .iinc 2 1, 44, 0, 0), (44, .iload_n 3, 45, 0, 0), (45, .iconst (-1), 46, 0, 0), (46, .if_icmp .ne 8, 49, 54, 0)],
  [(49, .iload 5, 51, 0, 0), (51, .goto 4, 54, 55, 0), (54, .iload_n 3, 55, 0, 0), (55, .istore_n 3, 56, 0, 0), (56, .iload 5, 58, 0, 0), (58, .istore 4, 60, 0, 0), (60, .iinc 5 1, 63, 0, 0), (63, .goto (-41), 66, 22, 0)],
  [(66, .iload_n 1, 67, 0, 0), (67, .ifCond .ne 7, 70, 74, 0), (70, .iload_n 2, 71, 0, 0), (71, .goto 14, 74, 85, 0), (74, .iload_n 1, 75, 0, 0), (75, .iconst 1, 76, 0, 0), (76, .if_icmp .ne 7, 79, 83, 0), (79, .iload_n 3, 80, 0, 0)],
  [(80, .goto 5, 83, 85, 0), (83, .iload 4, 85, 0, 0), (85, .ireturn, 86, 0, 0)]]
def cd293 : List (List cEn) := [[(0, .iconst 0, 1, 0, 0), (1, .istore_n 2, 2, 0, 0), (2, .iconst (-1), 3, 0, 0), (3, .istore_n 3, 4, 0, 0), (4, .bipush 99, 6, 0, 0), (6, .istore 4, 8, 0, 0), (8, .iload 4, 10, 0, 0), (10, .ifCond .le 37, 13, 47, 0), (13, .aload_n 0, 14, 0, 0), (14, .iload 4, 16, 0, 0)],
  [(16, .invokevirtual 438, 19, 291, 0), (19, .ifCond .eq 22, 22, 41, 0), (22, .iload_n 1, 23, 0, 0), (23, .iload 4, 25, 0, 0), (25, .idiv, 26, 0, 0), (26, .iload_n 3, 27, 0, 0), (27, .if_icmp .ne 6, 30, 33, 0), (30, .goto 11, 33, 41, 0)],
  [(33, .iload_n 1, 34, 0, 0), (34, .iload 4, 36, 0, 0), (36, .idiv, 37, 0, 0), (37, .istore_n 3, 38, 0, 0), (38, .iinc 2 1, 41, 0, 0), (41, .iinc 4 (-1), 44, 0, 0), (44, .goto (-36), 47, 8, 0), (47, .iload_n 2, 48, 0, 0)],
  [(48, .ireturn, 49, 0, 0)]]
def cd294 : List (List cEn) := [[(0, .iconst (-1), 1, 0, 0), (1, .istore_n 1, 2, 0, 0), (2, .iconst 0, 3, 0, 0), (3, .istore_n 2, 4, 0, 0), (4, .iconst 0, 5, 0, 0), (5, .istore_n 3, 6, 0, 0), (6, .iload_n 3, 7, 0, 0), (7, .sipush 1000, 10, 0, 0), (10, .if_icmp .ge 30, 13, 40, 0), (13, .aload_n 0, 14, 0, 0), (14, .iload_n 3, 15, 0, 0), (15, .invokevirtual 441, 18, 293, 0)],
  [(18, .istore 4, 20, 0, 0), (20, .iload 4, 22, 0, 0), (22, .iload_n 2, 23, 0, 0), (23, .if_icmp .gt 6, 26, 29, 0), (26, .goto 8, 29, 34, 0), (29, .iload 4, 31, 0, 0), (31, .istore_n 2, 32, 0, 0)],
  [(32, .iload_n 3, 33, 0, 0), (33, .istore_n 1, 34, 0, 0), (34, .iinc 3 1, 37, 0, 0), (37, .goto (-31), 40, 6, 0), (40, .iload_n 1, 41, 0, 0), (41, .ireturn, 42, 0, 0)]]
def cd295 : List (List cEn) := [[(0, .iconst 0, 1, 0, 0), (1, .istore_n 3, 2, 0, 0), (2, .iconst 0, 3, 0, 0), (3, .istore 4, 5, 0, 0), (5, .iload 4, 7, 0, 0), (7, .iconst 3, 8, 0, 0), (8, .if_icmp .ge 37, 11, 45, 0), (11, .iload_n 3, 12, 0, 0), (12, .iload_n 2, 13, 0, 0), (13, .iload 4, 15, 0, 0), (15, .invokestatic 252, 18, 166, 0)],
  [(18, .ifCond .eq 18, 21, 36, 0), (21, .aload_n 0, 22, 0, 0), (22, .iload_n 1, 23, 0, 0), (23, .iload 4, 25, 0, 0), (25, .aload_n 0, 26, 0, 0), (26, .iload_n 1, 27, 0, 0), (27, .invokevirtual 67, 30, 173, 0), (30, .invokevirtual 71, 33, 174, 0)],
  [(33, .goto 4, 36, 37, 0), (36, .iconst 0, 37, 0, 0), (37, .iadd, 38, 0, 0), (38, .istore_n 3, 39, 0, 0), (39, .iinc 4 1, 42, 0, 0), (42, .goto (-37), 45, 5, 0), (45, .iload_n 3, 46, 0, 0), (46, .ireturn, 47, 0, 0)]]
def cd296 : List (List cEn) := [[(0, .aload_n 0, 1, 0, 0), (1, .iload_n 1, 2, 0, 0), (2, .invokevirtual 316, 5, 168, 0), (5, .ifCond .eq 14, 8, 19, 0), (8, .iload_n 2, 9, 0, 0), (9, .iconst 0, 10, 0, 0), (10, .sipush 999, 13, 0, 0), (13, .invokestatic 56, 16, 164, 0)],
  [(16, .ifCond .ne 5, 19, 21, 0), (19, .iconst (-1), 20, 0, 0), (20, .ireturn, 21, 0, 0), (21, .iconst 0, 22, 0, 0), (22, .istore 4, 24, 0, 0), (24, .iconst 1, 25, 0, 0), (25, .istore 5, 27, 0, 0), (27, .iload 5, 29, 0, 0), (29, .bipush 8, 31, 0, 0), (31, .if_icmp .ge 83, 34, 114, 0)],
  [(34, .iload 5, 36, 0, 0), (36, .aload_n 0, 37, 0, 0), (37, .iload_n 1, 38, 0, 0), (38, .invokevirtual 385, 41, 176, 0), (41, .iconst (-1), 42, 0, 0), (42, .ixor, 43, 0, 0), (43, .iand, 44, 0, 0), (44, .ifCond .ne 64, 47, 108, 0), (47, .aload_n 0, 48, 0, 0)],
  [(48, .iload_n 1, 49, 0, 0), (49, .iload 5, 51, 0, 0), (51, .invokevirtual 444, 54, 295, 0), (54, .iload_n 2, 55, 0, 0), (55, .if_icmp .gt 53, 58, 108, 0), (58, .iload 5, 60, 0, 0), (60, .invokestatic 409, 63, 167, 0), (63, .iload 4, 65, 0, 0)],
  [(65, .invokestatic 409, 68, 167, 0), (68, .if_icmp .ge 6, 71, 74, 0), (71, .goto 37, 74, 108, 0), (74, .iload 5, 76, 0, 0), (76, .invokestatic 409, 79, 167, 0), (79, .iload 4, 81, 0, 0)],
  [(81, .invokestatic 409, 84, 167, 0), (84, .if_icmp .gt 20, 87, 104, 0), (87, .aload_n 0, 88, 0, 0), (88, .iload_n 1, 89, 0, 0), (89, .iload 5, 91, 0, 0), (91, .invokevirtual 444, 94, 295, 0), (94, .aload_n 0, 95, 0, 0), (95, .iload_n 1, 96, 0, 0)],
  [(96, .iload 4, 98, 0, 0), (98, .invokevirtual 444, 101, 295, 0), (101, .if_icmp .ge 7, 104, 108, 0), (104, .iload 5, 106, 0, 0), (106, .istore 4, 108, 0, 0), (108, .iinc 5 1, 111, 0, 0), (111, .goto (-84), 114, 27, 0)],
  [(114, .iload_n 3, 115, 0, 0), (115, .ifCond .eq 13, 118, 128, 0), (118, .aload_n 0, 119, 0, 0), (119, .iload_n 1, 120, 0, 0), (120, .iload 4, 122, 0, 0), (122, .invokevirtual 444, 125, 295, 0), (125, .goto 5, 128, 130, 0)],
  [(128, .iload 4, 130, 0, 0), (130, .ireturn, 131, 0, 0)]]
def cd297 : List (List cEn) := [[(0, .iconst 0, 1, 0, 0), (1, .istore_n 2, 2, 0, 0), (2, .iconst 0, 3, 0, 0), (3, .istore_n 3, 4, 0, 0), (4, .iload_n 3, 5, 0, 0), (5, .aload_n 0, 6, 0, 0), (6, .getfield 7, 9, 9, 0), (9, .iconst 0, 10, 0, 0), (10, .iaload, 11, 0, 0), (11, .if_icmp .ge 29, 14, 40, 0), (14, .iload_n 2, 15, 0, 0), (15, .iload_n 1, 16, 0, 0)],
  [(16, .iload_n 3, 17, 0, 0), (17, .invokestatic 252, 20, 166, 0), (20, .ifCond .eq 11, 23, 31, 0), (23, .aload_n 0, 24, 0, 0), (24, .iload_n 3, 25, 0, 0), (25, .invokevirtual 67, 28, 173, 0), (28, .goto 4, 31, 32, 0), (31, .iconst 0, 32, 0, 0)],
  [(32, .iadd, 33, 0, 0), (33, .istore_n 2, 34, 0, 0), (34, .iinc 3 1, 37, 0, 0), (37, .goto (-33), 40, 4, 0), (40, .iload_n 2, 41, 0, 0), (41, .ireturn, 42, 0, 0)]]
def cd298 : List (List cEn) := [[(0, .aload_n 0, 1, 0, 0), (1, .iload_n 1, 2, 0, 0), (2, .invokevirtual 447, 5, 297, 0), (5, .aload_n 0, 6, 0, 0), (6, .iload_n 2, 7, 0, 0), (7, .invokevirtual 447, 10, 297, 0), (10, .isub, 11, 0, 0), (11, .istore_n 3, 12, 0, 0), (12, .iload_n 3, 13, 0, 0), (13, .ifCond .ge 8, 16, 21, 0)],
  [(16, .iload_n 3, 17, 0, 0), (17, .ineg, 18, 0, 0), (18, .goto 4, 21, 22, 0), (21, .iload_n 3, 22, 0, 0), (22, .ireturn, 23, 0, 0)]]
def cd299 : List (List cEn) := [[(0, .iload_n 1, 1, 0, 0), (1, .iconst 1, 2, 0, 0), (2, .iconst 1, 3, 0, 0), (3, .aload_n 0, 4, 0, 0), (4, .getfield 7, 7, 9, 0), (7, .iconst 0, 8, 0, 0), (8, .iaload, 9, 0, 0), (9, .ishl, 10, 0, 0), (10, .iconst 1, 11, 0, 0), (11, .isub, 12, 0, 0), (12, .invokestatic 56, 15, 164, 0), (15, .ifCond .ne 5, 18, 20, 0)],
  [(18, .iconst (-1), 19, 0, 0), (19, .ireturn, 20, 0, 0), (20, .iload_n 1, 21, 0, 0), (21, .iload_n 1, 22, 0, 0), (22, .ineg, 23, 0, 0), (23, .iand, 24, 0, 0), (24, .istore_n 3, 25, 0, 0), (25, .iload_n 1, 26, 0, 0), (26, .istore 4, 28, 0, 0), (28, .iload_n 1, 29, 0, 0), (29, .istore 5, 31, 0, 0), (31, .iload 5, 33, 0, 0)],
  [(33, .ifCond .le 56, 36, 89, 0), (36, .iload 5, 38, 0, 0), (38, .iload_n 1, 39, 0, 0), (39, .iconst (-1), 40, 0, 0), (40, .ixor, 41, 0, 0), (41, .iand, 42, 0, 0), (42, .ifCond .ne 41, 45, 83, 0), (45, .iload 5, 47, 0, 0), (47, .iload_n 3, 48, 0, 0)],
  [(48, .iand, 49, 0, 0), (49, .ifCond .eq 34, 52, 83, 0), (52, .aload_n 0, 53, 0, 0), (53, .iload 5, 55, 0, 0), (55, .iload_n 1, 56, 0, 0), (56, .iload 5, 58, 0, 0), (58, .iconst (-1), 59, 0, 0), (59, .ixor, 60, 0, 0), (60, .iand, 61, 0, 0), (61, .invokevirtual 450, 64, 298, 0)],
  [(64, .aload_n 0, 65, 0, 0), (65, .iload 4, 67, 0, 0), (67, .iload_n 1, 68, 0, 0), (68, .iload 4, 70, 0, 0), (70, .iconst (-1), 71, 0, 0), (71, .ixor, 72, 0, 0), (72, .iand, 73, 0, 0), (73, .invokevirtual 450, 76, 298, 0), (76, .if_icmp .gt 7, 79, 83, 0), (79, .iload 5, 81, 0, 0)],
  [(81, .istore 4, 83, 0, 0), (83, .iinc 5 (-1), 86, 0, 0), (86, .goto (-55), 89, 31, 0), (89, .iload_n 2, 90, 0, 0), (90, .ifCond .eq 8, 93, 98, 0), (93, .iload 4, 95, 0, 0), (95, .goto 15, 98, 110, 0)],
  [(98, .aload_n 0, 99, 0, 0), (99, .iload 4, 101, 0, 0), (101, .iload_n 1, 102, 0, 0), (102, .iload 4, 104, 0, 0), (104, .iconst (-1), 105, 0, 0), (105, .ixor, 106, 0, 0), (106, .iand, 107, 0, 0), (107, .invokevirtual 450, 110, 298, 0), (110, .ireturn, 111, 0, 0)]]
def cd300 : List (List cEn) := [[(0, .iload_n 1, 1, 0, 0), (1, .iconst (-1), 2, 0, 0), (2, .if_icmp .ne 13, 5, 15, 0), (5, .aload_n 0, 6, 0, 0), (6, .getfield 7, 9, 9, 0), (9, .bipush 6, 11, 0, 0), (11, .iconst 0, 12, 0, 0), (12, .iastore, 13, 0, 0), (13, .iconst 0, 14, 0, 0), (14, .ireturn, 15, 0, 0), (15, .aload_n 0, 16, 0, 0)],
  [(16, .iload_n 1, 17, 0, 0), (17, .invokevirtual 316, 20, 168, 0), (20, .ifCond .eq 34, 23, 54, 0), (23, .iload_n 2, 24, 0, 0), (24, .iconst 0, 25, 0, 0), (25, .iconst 3, 26, 0, 0), (26, .invokestatic 56, 29, 164, 0), (29, .ifCond .eq 25, 32, 54, 0)],
  [(32, .iload_n 3, 33, 0, 0), (33, .iconst 0, 34, 0, 0), (34, .bipush 99, 36, 0, 0), (36, .invokestatic 56, 39, 164, 0), (39, .ifCond .eq 15, 42, 54, 0), (42, .aload_n 0, 43, 0, 0), (43, .getfield 7, 46, 9, 0), (46, .bipush 6, 48, 0, 0)],
  [(48, .iaload, 49, 0, 0), (49, .bipush 8, 51, 0, 0), (51, .if_icmp .ne 6, 54, 57, 0), (54, .bipush (-2), 56, 0, 0), (56, .ireturn, 57, 0, 0), (57, .sipush 138, 60, 0, 0), (60, .iconst 3, 61, 0, 0), (61, .aload_n 0, 62, 0, 0), (62, .getfield 7, 65, 9, 0)],
  [(65, .bipush 6, 67, 0, 0), (67, .iaload, 68, 0, 0), (68, .imul, 69, 0, 0), (69, .iadd, 70, 0, 0), (70, .istore 4, 72, 0, 0), (72, .aload_n 0, 73, 0, 0), (73, .getfield 7, 76, 9, 0), (76, .iload 4, 78, 0, 0), (78, .iload_n 1, 79, 0, 0), (79, .iastore, 80, 0, 0)],
  [(80, .aload_n 0, 81, 0, 0), (81, .getfield 7, 84, 9, 0), (84, .iload 4, 86, 0, 0), (86, .iconst 1, 87, 0, 0), (87, .iadd, 88, 0, 0), (88, .iload_n 2, 89, 0, 0), (89, .iastore, 90, 0, 0), (90, .aload_n 0, 91, 0, 0), (91, .getfield 7, 94, 9, 0), (94, .iload 4, 96, 0, 0)],
  [(96, .iconst 2, 97, 0, 0), (97, .iadd, 98, 0, 0), (98, .iload_n 3, 99, 0, 0), (99, .iastore, 100, 0, 0), (100, .aload_n 0, 101, 0, 0), (101, .getfield 7, 104, 9, 0), (104, .bipush 6, 106, 0, 0), (106, .dup2, 107, 0, 0), (107, .iaload, 108, 0, 0), (108, .iconst 1, 109, 0, 0), (109, .iadd, 110, 0, 0), (110, .iastore, 111, 0, 0), (111, .aload_n 0, 112, 0, 0)],
  [(112, .getfield 7, 115, 9, 0), (115, .bipush 6, 117, 0, 0), (117, .iaload, 118, 0, 0), (118, .ireturn, 119, 0, 0)]]
def cd301 : List (List cEn) := [[(0, .iconst 0, 1, 0, 0), (1, .istore_n 1, 2, 0, 0), (2, .iconst 0, 3, 0, 0), (3, .istore_n 2, 4, 0, 0), (4, .iload_n 2, 5, 0, 0), (5, .aload_n 0, 6, 0, 0), (6, .getfield 7, 9, 9, 0), (9, .iconst 1, 10, 0, 0), (10, .iaload, 11, 0, 0), (11, .if_icmp .ge 97, 14, 108, 0), (14, .iconst 1, 15, 0, 0), (15, .istore_n 3, 16, 0, 0)],
  [(16, .sipush 138, 19, 0, 0), (19, .istore 4, 21, 0, 0), (21, .iload 4, 23, 0, 0), (23, .sipush 138, 26, 0, 0), (26, .iconst 3, 27, 0, 0), (27, .aload_n 0, 28, 0, 0), (28, .getfield 7, 31, 9, 0), (31, .bipush 6, 33, 0, 0)],
  [(33, .iaload, 34, 0, 0), (34, .imul, 35, 0, 0), (35, .iadd, 36, 0, 0), (36, .if_icmp .ge 52, 39, 88, 0), (39, .iload_n 3, 40, 0, 0), (40, .ifCond .eq 40, 43, 80, 0), (43, .aload_n 0, 44, 0, 0), (44, .iload_n 2, 45, 0, 0), (45, .aload_n 0, 46, 0, 0), (46, .getfield 7, 49, 9, 0)],
  [(49, .iload 4, 51, 0, 0), (51, .iaload, 52, 0, 0), (52, .aload_n 0, 53, 0, 0), (53, .getfield 7, 56, 9, 0), (56, .iload 4, 58, 0, 0), (58, .iconst 1, 59, 0, 0), (59, .iadd, 60, 0, 0), (60, .iaload, 61, 0, 0), (61, .invokevirtual 313, 64, 233, 0)],
  [(64, .aload_n 0, 65, 0, 0), (65, .getfield 7, 68, 9, 0), (68, .iload 4, 70, 0, 0), (70, .iconst 2, 71, 0, 0), (71, .iadd, 72, 0, 0), (72, .iaload, 73, 0, 0), (73, .if_icmp .ne 7, 76, 80, 0), (76, .iconst 1, 77, 0, 0), (77, .goto 4, 80, 81, 0)],
  [(80, .iconst 0, 81, 0, 0), (81, .istore_n 3, 82, 0, 0), (82, .iinc 4 3, 85, 0, 0), (85, .goto (-64), 88, 21, 0), (88, .iload_n 1, 89, 0, 0), (89, .iload_n 3, 90, 0, 0), (90, .ifCond .eq 9, 93, 99, 0), (93, .iconst 1, 94, 0, 0), (94, .iload_n 2, 95, 0, 0), (95, .ishl, 96, 0, 0)],
  [(96, .goto 4, 99, 100, 0), (99, .iconst 0, 100, 0, 0), (100, .ior, 101, 0, 0), (101, .istore_n 1, 102, 0, 0), (102, .iinc 2 1, 105, 0, 0), (105, .goto (-101), 108, 4, 0), (108, .iload_n 1, 109, 0, 0), (109, .ireturn, 110, 0, 0)]]
def cd302 : List (List cEn) := [[(0, .iload_n 1, 1, 0, 0), (1, .invokestatic 87, 4, 169, 0), (4, .ifCond .eq 13, 7, 17, 0), (7, .iload_n 2, 8, 0, 0), (8, .iconst 1, 9, 0, 0), (9, .bipush 99, 11, 0, 0), (11, .invokestatic 56, 14, 164, 0), (14, .ifCond .ne 5, 17, 19, 0)],
  [(17, .iconst 0, 18, 0, 0), (18, .ireturn, 19, 0, 0), (19, .aload_n 0, 20, 0, 0), (20, .getfield 7, 23, 9, 0), (23, .sipush 162, 26, 0, 0), (26, .iload_n 1, 27, 0, 0), (27, .iadd, 28, 0, 0), (28, .iload_n 2, 29, 0, 0), (29, .iastore, 30, 0, 0), (30, .iconst 1, 31, 0, 0), (31, .ireturn, 32, 0, 0)]]
def cd303 : List (List cEn) := [[(0, .iload_n 1, 1, 0, 0), (1, .invokestatic 87, 4, 169, 0), (4, .ifCond .ne 5, 7, 9, 0), (7, .iconst (-1), 8, 0, 0), (8, .ireturn, 9, 0, 0), (9, .aload_n 0, 10, 0, 0), (10, .getfield 7, 13, 9, 0), (13, .sipush 162, 16, 0, 0)],
  [(16, .iaload, 17, 0, 0), (17, .aload_n 0, 18, 0, 0), (18, .getfield 7, 21, 9, 0), (21, .sipush 163, 24, 0, 0), (24, .iaload, 25, 0, 0), (25, .imul, 26, 0, 0), (26, .aload_n 0, 27, 0, 0), (27, .getfield 7, 30, 9, 0), (30, .sipush 162, 33, 0, 0)],
  [(33, .iaload, 34, 0, 0), (34, .aload_n 0, 35, 0, 0), (35, .getfield 7, 38, 9, 0), (38, .sipush 164, 41, 0, 0), (41, .iaload, 42, 0, 0), (42, .imul, 43, 0, 0), (43, .iadd, 44, 0, 0), (44, .aload_n 0, 45, 0, 0), (45, .getfield 7, 48, 9, 0)],
  [(48, .sipush 163, 51, 0, 0), (51, .iaload, 52, 0, 0), (52, .aload_n 0, 53, 0, 0), (53, .getfield 7, 56, 9, 0), (56, .sipush 164, 59, 0, 0), (59, .iaload, 60, 0, 0), (60, .imul, 61, 0, 0), (61, .iadd, 62, 0, 0), (62, .istore_n 3, 63, 0, 0), (63, .aload_n 0, 64, 0, 0)],
  [(64, .getfield 7, 67, 9, 0), (67, .sipush 162, 70, 0, 0), (70, .iload_n 1, 71, 0, 0), (71, .iconst 1, 72, 0, 0), (72, .iadd, 73, 0, 0), (73, .iconst 3, 74, 0, 0), (74, .irem, 75, 0, 0), (75, .iadd, 76, 0, 0), (76, .iaload, 77, 0, 0), (77, .aload_n 0, 78, 0, 0), (78, .getfield 7, 81, 9, 0)],
  [(81, .sipush 162, 84, 0, 0), (84, .iload_n 1, 85, 0, 0), (85, .iconst 2, 86, 0, 0), (86, .iadd, 87, 0, 0), (87, .iconst 3, 88, 0, 0), (88, .irem, 89, 0, 0), (89, .iadd, 90, 0, 0), (90, .iaload, 91, 0, 0), (91, .imul, 92, 0, 0), (92, .istore 4, 94, 0, 0), (94, .iload_n 2, 95, 0, 0), (95, .ifCond .eq 7, 98, 102, 0)],
  [(98, .iload_n 3, 99, 0, 0), (99, .goto 5, 102, 104, 0), (102, .iload 4, 104, 0, 0), (104, .iload 4, 106, 0, 0), (106, .i2l, 107, 0, 0), (107, .iload_n 3, 108, 0, 0), (108, .i2l, 109, 0, 0), (109, .invokestatic 423, 112, 279, 0)],
  [(112, .l2i, 113, 0, 0), (113, .idiv, 114, 0, 0), (114, .ireturn, 115, 0, 0)]]
def cd304 : List (List cEn) := [[(0, .aload_n 0, 1, 0, 0), (1, .getfield 7, 4, 9, 0), (4, .aload_n 0, 5, 0, 0), (5, .getfield 13, 8, 9, 1), (8, .invokestatic 52, 11, 163, 0), (11, .aload_n 0, 12, 0, 0), (12, .getfield 7, 15, 9, 0), (15, .bipush 8, 17, 0, 0)],
  [(17, .iaload, 18, 0, 0), (18, .ireturn, 19, 0, 0)]]
def cd305 : List (List cEn) := [[(0, .aload_n 0, 1, 0, 0), (1, .getfield 13, 4, 9, 1), (4, .aload_n 0, 5, 0, 0), (5, .getfield 7, 8, 9, 0), (8, .invokestatic 52, 11, 163, 0), (11, .aload_n 0, 12, 0, 0), (12, .getfield 7, 15, 9, 0), (15, .bipush 8, 17, 0, 0)],
  [(17, .iaload, 18, 0, 0), (18, .ireturn, 19, 0, 0)]]
def cd306 : List (List cEn) := [[(0, .iload_n 1, 1, 0, 0), (1, .iconst 0, 2, 0, 0), (2, .bipush 6, 4, 0, 0), (4, .invokestatic 56, 7, 164, 0), (7, .ifCond .eq 12, 10, 19, 0), (10, .aload_n 0, 11, 0, 0), (11, .getfield 7, 14, 9, 0), (14, .iload_n 1, 15, 0, 0), (15, .iaload, 16, 0, 0)],
  [(16, .goto 18, 19, 34, 0), (19, .iload_n 1, 20, 0, 0), (20, .bipush 7, 22, 0, 0), (22, .if_icmp .ne 10, 25, 32, 0), (25, .aload_n 0, 26, 0, 0), (26, .getfield 91, 29, 9, 4), (29, .goto 5, 32, 34, 0)],
  [(32, .bipush (-2), 34, 0, 0), (34, .ireturn, 35, 0, 0)]]
def cd307 : List (List cEn) := [[(0, .iload_n 0, 1, 0, 0), (1, .iload_n 0, 2, 0, 0), (2, .iconst 1, 3, 0, 0), (3, .iushr, 4, 0, 0), (4, .ldc_w 265, 7, 0, 1431655765), (7, .iand, 8, 0, 0), (8, .isub, 9, 0, 0), (9, .istore_n 0, 10, 0, 0), (10, .iload_n 0, 11, 0, 0), (11, .ldc_w 266, 14, 0, 858993459), (14, .iand, 15, 0, 0), (15, .iload_n 0, 16, 0, 0)],
  [(16, .iconst 2, 17, 0, 0), (17, .iushr, 18, 0, 0), (18, .ldc_w 266, 21, 0, 858993459), (21, .iand, 22, 0, 0), (22, .iadd, 23, 0, 0), (23, .istore_n 0, 24, 0, 0), (24, .iload_n 0, 25, 0, 0), (25, .iload_n 0, 26, 0, 0), (26, .iconst 4, 27, 0, 0), (27, .iushr, 28, 0, 0), (28, .iadd, 29, 0, 0), (29, .ldc_w 267, 32, 0, 252645135)],
  [(32, .iand, 33, 0, 0), (33, .istore_n 0, 34, 0, 0), (34, .iload_n 0, 35, 0, 0), (35, .iload_n 0, 36, 0, 0), (36, .bipush 8, 38, 0, 0), (38, .iushr, 39, 0, 0), (39, .iadd, 40, 0, 0), (40, .istore_n 0, 41, 0, 0), (41, .iload_n 0, 42, 0, 0), (42, .iload_n 0, 43, 0, 0), (43, .bipush 16, 45, 0, 0), (45, .iushr, 46, 0, 0), (46, .iadd, 47, 0, 0), (47, .istore_n 0, 48, 0, 0)],
  [(48, .iload_n 0, 49, 0, 0), (49, .bipush 63, 51, 0, 0), (51, .iand, 52, 0, 0), (52, .ireturn, 53, 0, 0)]]
end
section
def cdT : List (List (List (List cEn))) := [[cd0, cd1, cd2, cd3, cd4, cd5, cd6, cd7, cd8, cd9, cd10, cd11, cd12, cd13, cd14, cd15],
  [cd16, cd17, cd18, cd19, cd20, cd21, cd22, cd23, cd24, cd25, cd26, cd27, cd28, cd29, cd30, cd31],
  [cd32, cd33, cd34, cd35, cd36, cd37, cd38, cd39, cd40, cd41, cd42, cd43, cd44, cd45, cd46, cd47],
  [cd48, cd49, cd50, cd51, cd52, cd53, cd54, cd55, cd56, cd57, cd58, cd59, cd60, cd61, cd62, cd63],
  [cd64, cd65, cd66, cd67, cd68, cd69, cd70, cd71, cd72, cd73, cd74, cd75, cd76, cd77, cd78, cd79],
  [cd80, cd81, cd82, cd83, cd84, cd85, cd86, cd87, cd88, cd89, cd90, cd91, cd92, cd93, cd94, cd95],
  [cd96, cd97, cd98, cd99, cd100, cd101, cd102, cd103, cd104, cd105, cd106, cd107, cd108, cd109, cd110, cd111],
  [cd112, cd113, cd114, cd115, cd116, cd117, cd118, cd119, cd120, cd121, cd122, cd123, cd124, cd125, cd126, cd127],
  [cd128, cd129, cd130, cd131, cd132, cd133, cd134, cd135, cd136, cd137, cd138, cd139, cd140, cd141, cd142, cd143],
  [cd144, cd145, cd146, cd147, cd148, cd149, cd150, cd151, cd152, cd153, cd154, cd155, cd156, cd157, cd158, cd159],
  [cd160, cd161, cd162, cd163, cd164, cd165, cd166, cd167, cd168, cd169, cd170, cd171, cd172, cd173, cd174, cd175],
  [cd176, cd177, cd178, cd179, cd180, cd181, cd182, cd183, cd184, cd185, cd186, cd187, cd188, cd189, cd190, cd191],
  [cd192, cd193, cd194, cd195, cd196, cd197, cd198, cd199, cd200, cd201, cd202, cd203, cd204, cd205, cd206, cd207],
  [cd208, cd209, cd210, cd211, cd212, cd213, cd214, cd215, cd216, cd217, cd218, cd219, cd220, cd221, cd222, cd223],
  [cd224, cd225, cd226, cd227, cd228, cd229, cd230, cd231, cd232, cd233, cd234, cd235, cd236, cd237, cd238, cd239],
  [cd240, cd241, cd242, cd243, cd244, cd245, cd246, cd247, cd248, cd249, cd250, cd251, cd252, cd253, cd254, cd255],
  [cd256, cd257, cd258, cd259, cd260, cd261, cd262, cd263, cd264, cd265, cd266, cd267, cd268, cd269, cd270, cd271],
  [cd272, cd273, cd274, cd275, cd276, cd277, cd278, cd279, cd280, cd281, cd282, cd283, cd284, cd285, cd286, cd287],
  [cd288, cd289, cd290, cd291, cd292, cd293, cd294, cd295, cd296, cd297, cd298, cd299, cd300, cd301, cd302, cd303],
  [cd304, cd305, cd306, cd307]]
def swT : List (Nat × List (Int × Nat)) := [(192, [(3, 56), (4, 74), (5, 81), (6, 87), (7, 105), (8, 121), (9, 139), (10, 156), (11, 171), (12, 186)]),
  (134, [(0, 80), (1, 80), (2, 96), (3, 111), (4, 124)]),
  (49, [(24, 31), (50, 28)]),
  (226, [(23, 122), (24, 226), (25, 226), (26, 226), (27, 226), (28, 226), (29, 226), (30, 208), (31, 226), (32, 226), (33, 136), (34, 148), (35, 160), (36, 172), (37, 184), (38, 196), (39, 96), (40, 100), (41, 104), (42, 108)]),
  (161, [(35, 137), (36, 161), (37, 161), (38, 161), (39, 161), (40, 152), (41, 155), (42, 146), (43, 140), (44, 161), (45, 143), (46, 161), (47, 149), (48, 161), (49, 161), (50, 161), (51, 161), (52, 161), (53, 161), (54, 161), (55, 161), (56, 161), (57, 161), (58, 161), (59, 158), (60, 128), (61, 134), (62, 131)]),
  (312, [(3, 52), (4, 112), (5, 150), (6, 160), (7, 218), (8, 160), (9, 256), (10, 293), (11, 302)]),
  (164, [(23, 94), (24, 138), (40, 68), (43, 44)]),
  (38, [(0, 28), (1, 33)]),
  (96, [(0, 48), (1, 58), (2, 68), (3, 78), (4, 87)]),
  (104, [(0, 64), (1, 74), (2, 84), (3, 94)]),
  (94, [(0, 40), (1, 48), (2, 56), (3, 64), (4, 74), (5, 84)]),
  (100, [(0, 64), (1, 73), (2, 82), (3, 91)]),
  (67, [(0, 48), (1, 63), (2, 65)]),
  (121, [(0, 48), (1, 56), (2, 64), (3, 72), (4, 83), (5, 94), (6, 105), (7, 116)]),
  (130, [(35, 128), (36, 130), (37, 130), (38, 130), (39, 130), (40, 128), (41, 128), (42, 128), (43, 128), (44, 130), (45, 128), (46, 130), (47, 128), (48, 130), (49, 130), (50, 130), (51, 130), (52, 130), (53, 130), (54, 130), (55, 130), (56, 130), (57, 130), (58, 128), (59, 128), (60, 128), (61, 128), (62, 128)]),
  (130, [(40, 36), (41, 130), (42, 51), (43, 83), (44, 108)]),
  (236, [(3, 56), (4, 93), (5, 110), (6, 121), (7, 146), (8, 163), (9, 188), (10, 204), (11, 214), (12, 225)]),
  (49, [(6, 28), (7, 35), (8, 42)]),
  (218, [(3, 88), (4, 105), (5, 112), (6, 118), (7, 135), (8, 150), (9, 167), (10, 184), (11, 198), (12, 212)]),
  (164, [(2, 84), (3, 99), (4, 123), (5, 133)]),
  (78, [(0, 44), (1, 52), (2, 59), (3, 66), (4, 72)]),
  (96, [(0, 60), (1, 69), (2, 82), (3, 89)])]
abbrev cMi : Type := MethodName × ByteArray × Nat × Option FieldType × Bool × List (Nat × Nat)
/-- the methods: name, bytes, locals, answer, static -/
def mtT : List (List cMi) := [[(⟨"ThimbleLaw$Ahead", "dropsBehind", "(LThimbleLaw$Hand;III)I"⟩, prog_2_method_2_code, 5, some .int, true, [(4, 112), (1, 17), (4, 111), (0, 0)]), (⟨"ThimbleLaw$Ahead", "daysToBrim", "(LThimbleLaw$Hand;III)I"⟩, prog_2_method_3_code, 7, some .int, true, [(4, 131), (1, 17), (4, 130), (0, 0)]), (⟨"ThimbleLaw$Ahead", "dryOneDay", "(LThimbleLaw$Hand;)Z"⟩, prog_2_method_4_code, 3, some .boolean, true, [(4, 116), (1, 17), (4, 115), (0, 0)]), (⟨"ThimbleLaw$Ahead", "driesAllSo", "(LThimbleLaw$Hand;LThimbleLaw$Text;)Z"⟩, prog_2_method_5_code, 4, some .boolean, true, [(5, 60), (1, 17), (5, 59), (0, 0)]), (⟨"ThimbleLaw$Ahead", "mostDeeds", "(LThimbleLaw$City;I)I"⟩, prog_2_method_6_code, 8, some .int, true, [(4, 152), (1, 17), (4, 151), (0, 0)]), (⟨"ThimbleLaw$Ahead", "staysWithin", "(LThimbleLaw$City;II)Z"⟩, prog_2_method_7_code, 6, some .boolean, true, [(4, 161), (1, 17), (4, 160), (0, 0)]), (⟨"ThimbleLaw$Ahead", "dropsOf", "(LThimbleLaw$Told;II)I"⟩, prog_2_method_8_code, 5, some .int, true, [(4, 164), (1, 17), (4, 163), (0, 0)]), (⟨"ThimbleLaw$City", "has", "(I)Z"⟩, prog_3_method_2_code, 2, some .boolean, false, [(3, 107), (1, 3), (3, 105), (3, 106)]), (⟨"ThimbleLaw$City", "room", "(I)I"⟩, prog_3_method_3_code, 2, some .int, false, [(3, 154), (1, 3), (3, 152), (3, 153)]), (⟨"ThimbleLaw$City", "roomBy", "(II)I"⟩, prog_3_method_4_code, 2, some .int, true, [(3, 157), (1, 3), (3, 156), (0, 0)]), (⟨"ThimbleLaw$City", "amount", "(II)I"⟩, prog_3_method_5_code, 3, some .int, false, [(3, 122), (1, 3), (3, 120), (3, 121)]), (⟨"ThimbleLaw$City", "setAmount", "(III)V"⟩, prog_3_method_6_code, 4, none, false, [(2, 114), (1, 3), (2, 112), (2, 113)]), (⟨"ThimbleLaw$City", "above", "(III)I"⟩, prog_3_method_7_code, 4, some .int, false, [(3, 161), (1, 3), (3, 159), (3, 160)]), (⟨"ThimbleLaw$City", "overs", "(I)I"⟩, prog_3_method_8_code, 5, some .int, false, [(3, 150), (1, 3), (3, 148), (3, 149)]), (⟨"ThimbleLaw$City", "draw", "()I"⟩, prog_3_method_9_code, 2, some .int, false, [(3, 166), (1, 3), (3, 164), (3, 165)]), (⟨"ThimbleLaw$City", "write", "(III)V"⟩, prog_3_method_10_code, 4, none, false, [(3, 220), (1, 3), (3, 218), (3, 219)])],
  [(⟨"ThimbleLaw$City", "fineAmount", "(I)I"⟩, prog_3_method_11_code, 2, some .int, false, [(4, 105), (1, 3), (4, 103), (4, 104)]), (⟨"ThimbleLaw$City", "fineKind", "(I)I"⟩, prog_3_method_12_code, 2, some .int, false, [(4, 101), (1, 3), (4, 99), (4, 100)]), (⟨"ThimbleLaw$City", "fineOne", "(I)I"⟩, prog_3_method_13_code, 2, some .int, false, [(4, 97), (1, 3), (4, 95), (4, 96)]), (⟨"ThimbleLaw$City", "fineDay", "(I)I"⟩, prog_3_method_14_code, 2, some .int, false, [(4, 92), (1, 3), (4, 90), (4, 91)]), (⟨"ThimbleLaw$City", "becomes", "(LThimbleLaw$City;)V"⟩, prog_3_method_15_code, 2, none, false, [(5, 100), (1, 3), (5, 98), (5, 99)]), (⟨"ThimbleLaw$City", "copy", "([I[I)V"⟩, prog_3_method_16_code, 2, none, true, [(4, 208), (1, 3), (4, 207), (0, 0)]), (⟨"ThimbleLaw$Counsel", "mostWrong", "(II)J"⟩, prog_4_method_2_code, 5, some .long, true, [(4, 173), (1, 19), (4, 172), (0, 0)]), (⟨"ThimbleLaw$Counsel", "choices", "(II)J"⟩, prog_4_method_3_code, 5, some .long, true, [(4, 176), (1, 19), (4, 175), (0, 0)]), (⟨"ThimbleLaw$Counsel", "power", "(JI)J"⟩, prog_4_method_4_code, 6, some .long, true, [(4, 179), (1, 19), (4, 178), (0, 0)]), (⟨"ThimbleLaw$Counsel", "greatestDivisor", "(JJ)J"⟩, prog_4_method_5_code, 7, some .long, true, [(4, 184), (1, 19), (4, 183), (0, 0)]), (⟨"ThimbleLaw$Counsel", "lookingOdds", "([IIZ)I"⟩, prog_4_method_6_code, 7, some .int, true, [(5, 71), (1, 19), (5, 70), (0, 0)]), (⟨"ThimbleLaw$Counsel", "fits", "(LThimbleLaw$Told;I)Z"⟩, prog_4_method_7_code, 3, some .boolean, true, [(4, 222), (1, 19), (4, 221), (0, 0)]), (⟨"ThimbleLaw$Counsel", "leastStandard", "(LThimbleLaw$Told;)I"⟩, prog_4_method_8_code, 2, some .int, true, [(4, 219), (1, 19), (4, 218), (0, 0)]), (⟨"ThimbleLaw$Counsel", "greatestStandard", "(LThimbleLaw$Told;)I"⟩, prog_4_method_9_code, 2, some .int, true, [(4, 225), (1, 19), (4, 224), (0, 0)]), (⟨"ThimbleLaw$Counsel", "tellingDrops", "(LThimbleLaw$Told;)I"⟩, prog_4_method_10_code, 7, some .int, true, [(4, 232), (1, 19), (4, 231), (0, 0)]), (⟨"ThimbleLaw$Counsel", "unlikeCounts", "(III)I"⟩, prog_4_method_11_code, 7, some .int, true, [(4, 237), (1, 19), (4, 236), (0, 0)])],
  [(⟨"ThimbleLaw$Counsel", "changedCases", "(LThimbleLaw$City;I)I"⟩, prog_4_method_12_code, 7, some .int, true, [(5, 49), (1, 19), (5, 48), (0, 0)]), (⟨"ThimbleLaw$Counsel", "washedKinds", "(LThimbleLaw$City;II)I"⟩, prog_4_method_13_code, 8, some .int, true, [(5, 4), (1, 19), (5, 3), (0, 0)]), (⟨"ThimbleLaw$Counsel", "tearsFor", "(LThimbleLaw$City;II)I"⟩, prog_4_method_14_code, 6, some .int, true, [(5, 8), (1, 19), (5, 7), (0, 0)]), (⟨"ThimbleLaw$Counsel", "evenSide", "(LThimbleLaw$City;I)I"⟩, prog_4_method_15_code, 6, some .int, true, [(5, 20), (1, 19), (5, 19), (0, 0)]), (⟨"ThimbleLaw$Counsel", "difference", "(LThimbleLaw$City;II)I"⟩, prog_4_method_16_code, 5, some .int, true, [(5, 23), (1, 19), (5, 22), (0, 0)]), (⟨"ThimbleLaw$Counsel", "worstOne", "(LThimbleLaw$City;)I"⟩, prog_4_method_17_code, 5, some .int, true, [(5, 34), (1, 19), (5, 33), (0, 0)]), (⟨"ThimbleLaw$Counsel", "dentsToCome", "(LThimbleLaw$City;I)I"⟩, prog_4_method_18_code, 6, some .int, true, [(5, 41), (1, 19), (5, 40), (0, 0)]), (⟨"ThimbleLaw$Counsel", "heaviestKind", "(LThimbleLaw$City;)I"⟩, prog_4_method_19_code, 6, some .int, true, [(5, 91), (1, 19), (5, 90), (0, 0)]), (⟨"ThimbleLaw$Hand", "ruling", "()LThimbleLaw$Text;"⟩, prog_5_method_2_code, 1, some (.object "ThimbleLaw$Text"), false, [(3, 180), (1, 2), (3, 178), (3, 179)]), (⟨"ThimbleLaw$Hand", "driesNow", "(II)I"⟩, prog_5_method_3_code, 3, some .int, false, [(4, 78), (1, 2), (4, 76), (4, 77)]), (⟨"ThimbleLaw$Hand", "errsNow", "(II)I"⟩, prog_5_method_4_code, 3, some .int, false, [(3, 170), (1, 2), (3, 168), (3, 169)]), (⟨"ThimbleLaw$Hand", "fineNow", "(II)I"⟩, prog_5_method_5_code, 3, some .int, false, [(3, 209), (1, 2), (3, 207), (3, 208)]), (⟨"ThimbleLaw$Hand", "step", "()V"⟩, prog_5_method_6_code, 1, none, false, [(3, 111), (1, 2), (3, 110), (0, 20)]), (⟨"ThimbleLaw$Hand", "tellOne", "(III)I"⟩, prog_5_method_7_code, 6, some .int, false, [(2, 107), (1, 2), (2, 105), (2, 106)]), (⟨"ThimbleLaw$Hand", "tellBrim", "(II)Z"⟩, prog_5_method_8_code, 3, some .boolean, false, [(2, 128), (1, 2), (2, 126), (2, 127)]), (⟨"ThimbleLaw$Hand", "tellStandard", "(I)Z"⟩, prog_5_method_9_code, 2, some .boolean, false, [(2, 140), (1, 2), (2, 138), (2, 139)])],
  [(⟨"ThimbleLaw$Hand", "does", "(III)I"⟩, prog_5_method_10_code, 4, some .int, false, [(3, 103), (1, 2), (3, 101), (3, 102)]), (⟨"ThimbleLaw$Hand", "weeps", "(II)I"⟩, prog_5_method_11_code, 3, some .int, false, [(3, 130), (1, 2), (3, 128), (3, 129)]), (⟨"ThimbleLaw$Hand", "washes", "(III)I"⟩, prog_5_method_12_code, 6, some .int, false, [(3, 138), (1, 2), (3, 136), (3, 137)]), (⟨"ThimbleLaw$Hand", "pours", "(II)I"⟩, prog_5_method_13_code, 6, some .int, false, [(3, 146), (1, 2), (3, 144), (3, 145)]), (⟨"ThimbleLaw$Hand", "bends", "(I)I"⟩, prog_5_method_14_code, 2, some .int, false, [(3, 229), (1, 2), (3, 227), (3, 228)]), (⟨"ThimbleLaw$Hand", "shrinks", "(I)I"⟩, prog_5_method_15_code, 2, some .int, false, [(3, 238), (1, 2), (3, 236), (3, 237)]), (⟨"ThimbleLaw$Hand", "passDays", "(I)Z"⟩, prog_5_method_16_code, 3, some .boolean, false, [(4, 6), (1, 2), (4, 4), (4, 5)]), (⟨"ThimbleLaw$Hand", "dryAll", "()V"⟩, prog_5_method_17_code, 4, none, false, [(4, 10), (1, 2), (4, 9), (0, 23)]), (⟨"ThimbleLaw$Hand", "plays", "(LThimbleLaw$Text;)I"⟩, prog_5_method_18_code, 3, some .int, false, [(4, 23), (1, 2), (4, 21), (4, 22)]), (⟨"ThimbleLaw$Hand", "act", "(IIII)Z"⟩, prog_5_method_19_code, 5, some .boolean, false, [(4, 31), (1, 2), (4, 30), (0, 24)]), (⟨"ThimbleLaw$Hand", "passCenturies", "(II)V"⟩, prog_5_method_20_code, 4, none, false, [(4, 49), (1, 2), (4, 47), (4, 48)]), (⟨"ThimbleLaw$Hand", "happen", "(I)V"⟩, prog_5_method_21_code, 4, none, false, [(4, 53), (1, 2), (4, 52), (0, 25)]), (⟨"ThimbleLaw$Judge", "look", "(LThimbleLaw$City;II)V"⟩, prog_6_method_2_code, 4, none, false, [(3, 174), (1, 6), (3, 172), (3, 173)]), (⟨"ThimbleLaw$Judge", "dries", "(LThimbleLaw$Text;[I)I"⟩, prog_6_method_3_code, 3, some .int, false, [(4, 14), (1, 6), (4, 12), (4, 13)]), (⟨"ThimbleLaw$Judge", "errs", "(LThimbleLaw$Text;[I)I"⟩, prog_6_method_4_code, 3, some .int, false, [(3, 184), (1, 6), (3, 182), (3, 183)]), (⟨"ThimbleLaw$Judge", "fine", "(LThimbleLaw$Text;[I)I"⟩, prog_6_method_5_code, 3, some .int, false, [(3, 213), (1, 6), (3, 211), (3, 212)])],
  [(⟨"ThimbleLaw$Judge", "clamp", "(JJJ)I"⟩, prog_6_method_6_code, 6, some .int, true, [(3, 205), (1, 6), (3, 204), (0, 0)]), (⟨"ThimbleLaw$Judge", "value", "(LThimbleLaw$Text;I[I)I"⟩, prog_6_method_7_code, 10, some .int, false, [(3, 189), (1, 6), (3, 188), (0, 21)]), (⟨"ThimbleLaw$Judge", "nameAt", "(I)I"⟩, prog_6_method_8_code, 2, some .int, false, [(3, 194), (1, 6), (3, 193), (0, 22)]), (⟨"ThimbleLaw$Judge", "ofOne", "(II[I)I"⟩, prog_6_method_9_code, 3, some .int, true, [(3, 197), (1, 6), (3, 196), (0, 0)]), (⟨"ThimbleLaw$Judge", "ofTwo", "(IJJ)J"⟩, prog_6_method_10_code, 5, some .long, true, [(3, 202), (1, 6), (3, 201), (0, 0)]), (⟨"ThimbleLaw$Reader", "read", "([BILThimbleLaw$Text;)V"⟩, prog_7_method_2_code, 5, none, false, [(2, 164), (1, 9), (2, 162), (2, 163)]), (⟨"ThimbleLaw$Reader", "scan", "([BI)V"⟩, prog_7_method_3_code, 7, none, false, [(2, 173), (1, 9), (2, 172), (0, 1)]), (⟨"ThimbleLaw$Reader", "put", "(III)V"⟩, prog_7_method_4_code, 4, none, false, [(3, 1), (1, 9), (3, 0), (0, 2)]), (⟨"ThimbleLaw$Reader", "isLetter", "(I)Z"⟩, prog_7_method_5_code, 1, some .boolean, true, [(2, 176), (1, 9), (2, 175), (0, 0)]), (⟨"ThimbleLaw$Reader", "isDigit", "(I)Z"⟩, prog_7_method_6_code, 1, some .boolean, true, [(2, 182), (1, 9), (2, 181), (0, 0)]), (⟨"ThimbleLaw$Reader", "runEnd", "([BIIZ)I"⟩, prog_7_method_7_code, 5, some .int, true, [(2, 179), (1, 9), (2, 178), (0, 0)]), (⟨"ThimbleLaw$Reader", "numberAt", "([BII)I"⟩, prog_7_method_8_code, 5, some .int, true, [(3, 4), (1, 9), (3, 3), (0, 0)]), (⟨"ThimbleLaw$Reader", "wordCode", "([BII)I"⟩, prog_7_method_9_code, 6, some .int, true, [(2, 185), (1, 9), (2, 184), (0, 0)]), (⟨"ThimbleLaw$Reader", "spells", "([BIII)Z"⟩, prog_7_method_10_code, 5, some .boolean, true, [(2, 237), (1, 9), (2, 236), (0, 0)]), (⟨"ThimbleLaw$Reader", "signCode", "(I)I"⟩, prog_7_method_11_code, 1, some .int, true, [(3, 7), (1, 9), (3, 6), (0, 0)]), (⟨"ThimbleLaw$Reader", "next", "()I"⟩, prog_7_method_12_code, 1, some .int, false, [(3, 11), (1, 9), (3, 10), (0, 3)])],
  [(⟨"ThimbleLaw$Reader", "fail", "(I)Z"⟩, prog_7_method_13_code, 2, some .boolean, false, [(3, 19), (1, 9), (3, 18), (0, 5)]), (⟨"ThimbleLaw$Reader", "take", "(I)Z"⟩, prog_7_method_14_code, 2, some .boolean, false, [(3, 59), (1, 9), (3, 58), (0, 13)]), (⟨"ThimbleLaw$Reader", "clause", "(LThimbleLaw$Text;)Z"⟩, prog_7_method_15_code, 3, some .boolean, false, [(3, 15), (1, 9), (3, 14), (0, 4)]), (⟨"ThimbleLaw$Reader", "lawOf", "(ILThimbleLaw$Text;)Z"⟩, prog_7_method_16_code, 3, some .boolean, false, [(3, 27), (1, 9), (3, 26), (0, 6)]), (⟨"ThimbleLaw$Reader", "order", "(ILThimbleLaw$Text;)Z"⟩, prog_7_method_17_code, 3, some .boolean, false, [(3, 83), (1, 9), (3, 82), (0, 18)]), (⟨"ThimbleLaw$Reader", "part", "(IIILThimbleLaw$Text;)Z"⟩, prog_7_method_18_code, 6, some .boolean, false, [(3, 87), (1, 9), (3, 86), (0, 19)]), (⟨"ThimbleLaw$Reader", "sum", "(ILThimbleLaw$Text;)Z"⟩, prog_7_method_19_code, 5, some .boolean, false, [(3, 31), (1, 9), (3, 30), (0, 7)]), (⟨"ThimbleLaw$Reader", "product", "(ILThimbleLaw$Text;)Z"⟩, prog_7_method_20_code, 5, some .boolean, false, [(3, 35), (1, 9), (3, 34), (0, 8)]), (⟨"ThimbleLaw$Reader", "single", "(ILThimbleLaw$Text;)Z"⟩, prog_7_method_21_code, 5, some .boolean, false, [(3, 39), (1, 9), (3, 38), (0, 9)]), (⟨"ThimbleLaw$Reader", "number", "(LThimbleLaw$Text;)Z"⟩, prog_7_method_22_code, 2, some .boolean, false, [(3, 43), (1, 9), (3, 42), (0, 10)]), (⟨"ThimbleLaw$Reader", "name", "(ILThimbleLaw$Text;)Z"⟩, prog_7_method_23_code, 3, some .boolean, false, [(3, 51), (1, 9), (3, 50), (0, 11)]), (⟨"ThimbleLaw$Reader", "nested", "(IILThimbleLaw$Text;)Z"⟩, prog_7_method_24_code, 4, some .boolean, false, [(3, 55), (1, 9), (3, 54), (0, 12)]), (⟨"ThimbleLaw$Reader", "choice", "(ILThimbleLaw$Text;)Z"⟩, prog_7_method_25_code, 5, some .boolean, false, [(3, 63), (1, 9), (3, 62), (0, 14)]), (⟨"ThimbleLaw$Reader", "either", "(ILThimbleLaw$Text;)Z"⟩, prog_7_method_26_code, 4, some .boolean, false, [(3, 67), (1, 9), (3, 66), (0, 15)]), (⟨"ThimbleLaw$Reader", "both", "(ILThimbleLaw$Text;)Z"⟩, prog_7_method_27_code, 4, some .boolean, false, [(3, 71), (1, 9), (3, 70), (0, 16)]), (⟨"ThimbleLaw$Reader", "ask", "(ILThimbleLaw$Text;)Z"⟩, prog_7_method_28_code, 4, some .boolean, false, [(3, 75), (1, 9), (3, 74), (0, 17)])],
  [(⟨"ThimbleLaw$Road", "find", "([II)V"⟩, prog_8_method_2_code, 3, none, false, [(4, 201), (1, 8), (4, 199), (4, 200)]), (⟨"ThimbleLaw$Road", "walk", "([IIIII)V"⟩, prog_8_method_3_code, 8, none, false, [(4, 205), (1, 8), (4, 204), (0, 27)]), (⟨"ThimbleLaw$Steps", "keep", "(LThimbleLaw$City;)V"⟩, prog_9_method_2_code, 3, none, false, [(3, 115), (1, 5), (3, 113), (3, 114)]), (⟨"ThimbleLaw$Steps", "takeBack", "(LThimbleLaw$City;)I"⟩, prog_9_method_3_code, 4, some .int, false, [(4, 61), (1, 5), (4, 59), (4, 60)]), (⟨"ThimbleLaw$Steps", "tellStandard", "(I)V"⟩, prog_9_method_4_code, 3, none, false, [(2, 144), (1, 5), (2, 142), (2, 143)]), (⟨"ThimbleLaw$Steps", "becomes", "(LThimbleLaw$Steps;)V"⟩, prog_9_method_5_code, 2, none, false, [(5, 110), (1, 5), (5, 108), (5, 109)]), (⟨"ThimbleLaw$Text", "clear", "()V"⟩, prog_10_method_2_code, 2, none, false, [(2, 168), (1, 7), (2, 166), (2, 167)]), (⟨"ThimbleLaw$Text", "part", "(II)I"⟩, prog_10_method_3_code, 3, some .int, false, [(4, 27), (1, 7), (4, 25), (4, 26)]), (⟨"ThimbleLaw$Text", "setPart", "(II)V"⟩, prog_10_method_4_code, 3, none, false, [(3, 23), (1, 7), (3, 21), (3, 22)]), (⟨"ThimbleLaw$Text", "emit", "(II)I"⟩, prog_10_method_5_code, 3, some .int, false, [(3, 47), (1, 7), (3, 45), (3, 46)]), (⟨"ThimbleLaw$Text", "jumpHere", "(I)V"⟩, prog_10_method_6_code, 2, none, false, [(3, 79), (1, 7), (3, 77), (3, 78)]), (⟨"ThimbleLaw$Told", "add", "(III)I"⟩, prog_12_method_2_code, 4, some .int, false, [(4, 145), (1, 4), (4, 143), (4, 144)]), (⟨"ThimbleLaw$Told", "forget", "()I"⟩, prog_12_method_3_code, 1, some .int, false, [(4, 141), (1, 4), (4, 139), (4, 140)]), (⟨"ThimbleLaw$Told", "becomes", "(LThimbleLaw$Told;)V"⟩, prog_12_method_4_code, 2, none, false, [(5, 105), (1, 4), (5, 103), (5, 104)]), (⟨"ThimbleLaw", "one", "(III)I"⟩, prog_1_method_2_code, 4, some .int, false, [(2, 103), (1, 1), (2, 101), (2, 102)]), (⟨"ThimbleLaw", "brim", "(II)Z"⟩, prog_1_method_3_code, 3, some .boolean, false, [(2, 124), (1, 1), (2, 122), (2, 123)])],
  [(⟨"ThimbleLaw", "standard", "(I)Z"⟩, prog_1_method_4_code, 2, some .boolean, false, [(2, 136), (1, 1), (2, 134), (2, 135)]), (⟨"ThimbleLaw", "feed", "(IIIII)I"⟩, prog_1_method_5_code, 6, some .int, false, [(2, 148), (1, 1), (2, 146), (2, 147)]), (⟨"ThimbleLaw", "append", "(I)V"⟩, prog_1_method_6_code, 3, none, false, [(2, 152), (1, 1), (2, 151), (0, 0)]), (⟨"ThimbleLaw", "end", "(I)I"⟩, prog_1_method_7_code, 2, some .int, false, [(2, 156), (1, 1), (2, 154), (2, 155)]), (⟨"ThimbleLaw", "text", "()I"⟩, prog_1_method_8_code, 2, some .int, false, [(2, 160), (1, 1), (2, 158), (2, 159)]), (⟨"ThimbleLaw", "fault", "(I)I"⟩, prog_1_method_9_code, 2, some .int, false, [(3, 91), (1, 1), (3, 89), (3, 90)]), (⟨"ThimbleLaw", "by", "(I)Z"⟩, prog_1_method_10_code, 2, some .boolean, false, [(3, 95), (1, 1), (3, 93), (3, 94)]), (⟨"ThimbleLaw", "deed", "(III)I"⟩, prog_1_method_11_code, 4, some .int, false, [(3, 99), (1, 1), (3, 97), (3, 98)]), (⟨"ThimbleLaw", "weep", "(II)I"⟩, prog_1_method_12_code, 3, some .int, false, [(3, 126), (1, 1), (3, 124), (3, 125)]), (⟨"ThimbleLaw", "wash", "(III)I"⟩, prog_1_method_13_code, 4, some .int, false, [(3, 134), (1, 1), (3, 132), (3, 133)]), (⟨"ThimbleLaw", "pour", "(II)I"⟩, prog_1_method_14_code, 3, some .int, false, [(3, 142), (1, 1), (3, 140), (3, 141)]), (⟨"ThimbleLaw", "bend", "(I)I"⟩, prog_1_method_15_code, 2, some .int, false, [(3, 225), (1, 1), (3, 223), (3, 224)]), (⟨"ThimbleLaw", "shrink", "(I)I"⟩, prog_1_method_16_code, 2, some .int, false, [(3, 234), (1, 1), (3, 232), (3, 233)]), (⟨"ThimbleLaw", "day", "(I)I"⟩, prog_1_method_17_code, 2, some .int, false, [(4, 2), (1, 1), (4, 0), (4, 1)]), (⟨"ThimbleLaw", "played", "(I)I"⟩, prog_1_method_18_code, 2, some .int, false, [(4, 19), (1, 1), (4, 17), (4, 18)]), (⟨"ThimbleLaw", "centuries", "(II)I"⟩, prog_1_method_19_code, 3, some .int, false, [(4, 45), (1, 1), (4, 43), (4, 44)])],
  [(⟨"ThimbleLaw", "undo", "()I"⟩, prog_1_method_20_code, 1, some .int, false, [(4, 57), (1, 1), (4, 55), (4, 56)]), (⟨"ThimbleLaw", "of", "(II)I"⟩, prog_1_method_21_code, 3, some .int, false, [(4, 66), (1, 1), (4, 64), (4, 65)]), (⟨"ThimbleLaw", "drops", "(III)I"⟩, prog_1_method_22_code, 4, some .int, false, [(4, 73), (1, 1), (4, 71), (4, 72)]), (⟨"ThimbleLaw", "is", "(I)I"⟩, prog_1_method_23_code, 2, some .int, false, [(4, 84), (1, 1), (4, 82), (4, 83)]), (⟨"ThimbleLaw", "book", "(II)I"⟩, prog_1_method_24_code, 3, some .int, false, [(4, 88), (1, 1), (4, 86), (4, 87)]), (⟨"ThimbleLaw", "foretold", "(III)I"⟩, prog_1_method_25_code, 4, some .int, false, [(4, 109), (1, 1), (4, 107), (4, 108)]), (⟨"ThimbleLaw", "firstBrim", "(III)I"⟩, prog_1_method_26_code, 4, some .int, false, [(4, 123), (1, 1), (4, 121), (4, 122)]), (⟨"ThimbleLaw", "plan", "(II)I"⟩, prog_1_method_27_code, 3, some .int, false, [(4, 137), (1, 1), (4, 135), (4, 136)]), (⟨"ThimbleLaw", "within", "(I)I"⟩, prog_1_method_28_code, 2, some .int, false, [(4, 149), (1, 1), (4, 147), (4, 148)]), (⟨"ThimbleLaw", "wrongly", "(IIIZ)J"⟩, prog_1_method_29_code, 11, some .long, false, [(4, 169), (1, 1), (4, 167), (4, 168)]), (⟨"ThimbleLaw", "howOften", "(III)I"⟩, prog_1_method_30_code, 6, some .int, false, [(4, 188), (1, 1), (4, 186), (4, 187)]), (⟨"ThimbleLaw", "way", "(III)Z"⟩, prog_1_method_31_code, 4, some .boolean, false, [(4, 193), (1, 1), (4, 191), (4, 192)]), (⟨"ThimbleLaw", "round", "(I)I"⟩, prog_1_method_32_code, 2, some .int, false, [(4, 197), (1, 1), (4, 195), (4, 196)]), (⟨"ThimbleLaw", "year", "(II)I"⟩, prog_1_method_33_code, 3, some .int, false, [(4, 212), (1, 1), (4, 210), (4, 211)]), (⟨"ThimbleLaw", "shrunk", "(I)I"⟩, prog_1_method_34_code, 4, some .int, false, [(4, 216), (1, 1), (4, 214), (4, 215)]), (⟨"ThimbleLaw", "wouldTell", "()I"⟩, prog_1_method_35_code, 1, some .int, false, [(4, 229), (1, 1), (4, 227), (4, 228)])],
  [(⟨"ThimbleLaw", "against", "(IIZ)I"⟩, prog_1_method_36_code, 5, some .int, false, [(5, 1), (1, 1), (4, 239), (5, 0)]), (⟨"ThimbleLaw", "even", "(IZ)I"⟩, prog_1_method_37_code, 4, some .int, false, [(5, 17), (1, 1), (5, 15), (5, 16)]), (⟨"ThimbleLaw", "worst", "()I"⟩, prog_1_method_38_code, 1, some .int, false, [(5, 31), (1, 1), (5, 29), (5, 30)]), (⟨"ThimbleLaw", "moreDents", "(I)I"⟩, prog_1_method_39_code, 2, some .int, false, [(5, 38), (1, 1), (5, 36), (5, 37)]), (⟨"ThimbleLaw", "cases", "(I)I"⟩, prog_1_method_40_code, 2, some .int, false, [(5, 46), (1, 1), (5, 44), (5, 45)]), (⟨"ThimbleLaw", "dried", "(III)I"⟩, prog_1_method_41_code, 4, some .int, false, [(5, 53), (1, 1), (5, 51), (5, 52)]), (⟨"ThimbleLaw", "whose", "()I"⟩, prog_1_method_42_code, 3, some .int, false, [(5, 57), (1, 1), (5, 55), (5, 56)]), (⟨"ThimbleLaw", "costs", "(II)Z"⟩, prog_1_method_43_code, 3, some .boolean, false, [(5, 64), (1, 1), (5, 62), (5, 63)]), (⟨"ThimbleLaw", "game", "(IZ)I"⟩, prog_1_method_44_code, 3, some .int, false, [(5, 68), (1, 1), (5, 66), (5, 67)]), (⟨"ThimbleLaw", "fined", "(I)I"⟩, prog_1_method_45_code, 4, some .int, false, [(5, 76), (1, 1), (5, 74), (5, 75)]), (⟨"ThimbleLaw", "fines", "(I)I"⟩, prog_1_method_46_code, 4, some .int, false, [(5, 80), (1, 1), (5, 78), (5, 79)]), (⟨"ThimbleLaw", "sober", "(I)I"⟩, prog_1_method_47_code, 4, some .int, false, [(5, 84), (1, 1), (5, 82), (5, 83)]), (⟨"ThimbleLaw", "heaviest", "()I"⟩, prog_1_method_48_code, 1, some .int, false, [(5, 88), (1, 1), (5, 86), (5, 87)]), (⟨"ThimbleLaw", "image", "()I"⟩, prog_1_method_49_code, 1, some .int, false, [(5, 96), (1, 1), (5, 94), (5, 95)]), (⟨"ThimbleLaw", "back", "()I"⟩, prog_1_method_50_code, 1, some .int, false, [(5, 115), (1, 1), (5, 113), (5, 114)]), (⟨"ThimbleLaw", "about", "(I)I"⟩, prog_1_method_51_code, 2, some .int, false, [(5, 119), (1, 1), (5, 117), (5, 118)])],
  [(⟨"ThimbleLaw", "isCase", "(II)Z"⟩, prog_1_method_52_code, 3, some .boolean, false, [(4, 127), (1, 1), (4, 126), (0, 26)]), (⟨"ThimbleLaw", "isForbidden", "(I)Z"⟩, prog_1_method_53_code, 1, some .boolean, true, [(2, 131), (1, 1), (2, 130), (0, 0)]), (⟨"ThimbleLaw", "between", "(III)Z"⟩, prog_1_method_54_code, 3, some .boolean, true, [(2, 110), (1, 1), (2, 109), (0, 0)]), (⟨"ThimbleLawModel", "copy", "([I[I)V"⟩, prog_14_method_2_code, 3, none, true, [(5, 128), (1, 10), (5, 127), (0, 0)]), (⟨"ThimbleLawModel", "isIn", "(III)Z"⟩, prog_14_method_3_code, 3, some .boolean, true, [(5, 216), (1, 10), (5, 215), (0, 0)]), (⟨"ThimbleLawModel", "cut", "(JII)I"⟩, prog_14_method_4_code, 4, some .int, true, [(6, 190), (1, 10), (6, 189), (0, 0)]), (⟨"ThimbleLawModel", "has", "(II)Z"⟩, prog_14_method_5_code, 2, some .boolean, true, [(6, 72), (1, 10), (6, 71), (0, 0)]), (⟨"ThimbleLawModel", "bits", "(I)I"⟩, prog_14_method_6_code, 3, some .int, true, [(7, 186), (1, 10), (7, 185), (0, 0)]), (⟨"ThimbleLawModel", "isOne", "(I)Z"⟩, prog_14_method_7_code, 2, some .boolean, false, [(6, 179), (1, 10), (6, 178), (0, 60)]), (⟨"ThimbleLawModel", "isKind", "(I)Z"⟩, prog_14_method_8_code, 1, some .boolean, true, [(5, 235), (1, 10), (5, 234), (0, 0)]), (⟨"ThimbleLawModel", "get", "(II)I"⟩, prog_14_method_9_code, 3, some .int, false, [(5, 228), (1, 10), (5, 227), (0, 30)]), (⟨"ThimbleLawModel", "put", "(III)V"⟩, prog_14_method_10_code, 4, none, false, [(5, 220), (1, 10), (5, 219), (0, 28)]), (⟨"ThimbleLawModel", "roomBy", "(II)I"⟩, prog_14_method_11_code, 2, some .int, true, [(6, 229), (1, 10), (6, 228), (0, 0)]), (⟨"ThimbleLawModel", "roomOf", "(I)I"⟩, prog_14_method_12_code, 2, some .int, false, [(6, 226), (1, 10), (6, 225), (0, 68)]), (⟨"ThimbleLawModel", "excess", "(III)I"⟩, prog_14_method_13_code, 4, some .int, false, [(7, 34), (1, 10), (7, 33), (0, 74)]), (⟨"ThimbleLawModel", "isOver", "(II)Z"⟩, prog_14_method_14_code, 3, some .boolean, false, [(7, 30), (1, 10), (7, 29), (0, 73)])],
  [(⟨"ThimbleLawModel", "overs", "(I)I"⟩, prog_14_method_15_code, 4, some .int, false, [(7, 99), (1, 10), (7, 98), (0, 82)]), (⟨"ThimbleLawModel", "one", "(III)I"⟩, prog_14_method_16_code, 5, some .int, false, [(5, 213), (1, 10), (5, 211), (5, 212)]), (⟨"ThimbleLawModel", "begin", "(I)V"⟩, prog_14_method_17_code, 3, none, false, [(5, 224), (1, 10), (5, 223), (0, 29)]), (⟨"ThimbleLawModel", "brim", "(II)Z"⟩, prog_14_method_18_code, 3, some .boolean, false, [(5, 232), (1, 10), (5, 230), (5, 231)]), (⟨"ThimbleLawModel", "standard", "(I)Z"⟩, prog_14_method_19_code, 3, some .boolean, false, [(5, 239), (1, 10), (5, 237), (5, 238)]), (⟨"ThimbleLawModel", "four", "(I)V"⟩, prog_14_method_20_code, 3, none, false, [(6, 7), (1, 10), (6, 6), (0, 31)]), (⟨"ThimbleLawModel", "feed", "(IIIII)I"⟩, prog_14_method_21_code, 6, some .int, false, [(6, 3), (1, 10), (6, 1), (6, 2)]), (⟨"ThimbleLawModel", "end", "(I)I"⟩, prog_14_method_22_code, 2, some .int, false, [(6, 11), (1, 10), (6, 9), (6, 10)]), (⟨"ThimbleLawModel", "byteAt", "(I)I"⟩, prog_14_method_23_code, 2, some .int, false, [(6, 27), (1, 10), (6, 26), (0, 34)]), (⟨"ThimbleLawModel", "isLetterByte", "(I)Z"⟩, prog_14_method_24_code, 1, some .boolean, true, [(6, 34), (1, 10), (6, 33), (0, 0)]), (⟨"ThimbleLawModel", "isFigure", "(I)Z"⟩, prog_14_method_25_code, 1, some .boolean, true, [(6, 30), (1, 10), (6, 29), (0, 0)]), (⟨"ThimbleLawModel", "isSign", "(I)Z"⟩, prog_14_method_26_code, 1, some .boolean, true, [(6, 38), (1, 10), (6, 37), (0, 0)]), (⟨"ThimbleLawModel", "nextToken", "()V"⟩, prog_14_method_27_code, 2, none, false, [(6, 23), (1, 10), (6, 22), (0, 33)]), (⟨"ThimbleLawModel", "w2", "(II)J"⟩, prog_14_method_28_code, 2, some .long, true, [(6, 58), (1, 10), (6, 57), (0, 0)]), (⟨"ThimbleLawModel", "w3", "(III)J"⟩, prog_14_method_29_code, 3, some .long, true, [(6, 55), (1, 10), (6, 54), (0, 0)]), (⟨"ThimbleLawModel", "w4", "(IIII)J"⟩, prog_14_method_30_code, 4, some .long, true, [(6, 52), (1, 10), (6, 51), (0, 0)])],
  [(⟨"ThimbleLawModel", "w5", "(IIIII)J"⟩, prog_14_method_31_code, 5, some .long, true, [(6, 49), (1, 10), (6, 48), (0, 0)]), (⟨"ThimbleLawModel", "w6", "(IIIIII)J"⟩, prog_14_method_32_code, 6, some .long, true, [(6, 69), (1, 10), (6, 68), (0, 0)]), (⟨"ThimbleLawModel", "isWord", "(J)Z"⟩, prog_14_method_33_code, 3, some .boolean, false, [(6, 62), (1, 10), (6, 61), (0, 37)]), (⟨"ThimbleLawModel", "emit", "(II)V"⟩, prog_14_method_34_code, 3, none, false, [(6, 135), (1, 10), (6, 134), (0, 53)]), (⟨"ThimbleLawModel", "nameOf", "()I"⟩, prog_14_method_35_code, 1, some .int, false, [(6, 151), (1, 10), (6, 150), (0, 57)]), (⟨"ThimbleLawModel", "rank", "(I)I"⟩, prog_14_method_36_code, 1, some .int, true, [(6, 123), (1, 10), (6, 122), (0, 0)]), (⟨"ThimbleLawModel", "settle", "(I)V"⟩, prog_14_method_37_code, 2, none, false, [(6, 131), (1, 10), (6, 130), (0, 52)]), (⟨"ThimbleLawModel", "openAt", "()I"⟩, prog_14_method_38_code, 2, some .int, false, [(6, 116), (1, 10), (6, 115), (0, 49)]), (⟨"ThimbleLawModel", "openNow", "()I"⟩, prog_14_method_39_code, 1, some .int, false, [(6, 112), (1, 10), (6, 111), (0, 48)]), (⟨"ThimbleLawModel", "isCompared", "()Z"⟩, prog_14_method_40_code, 2, some .boolean, false, [(6, 120), (1, 10), (6, 119), (0, 50)]), (⟨"ThimbleLawModel", "isAskAhead", "()Z"⟩, prog_14_method_41_code, 1, some .boolean, false, [(6, 159), (1, 10), (6, 158), (0, 59)]), (⟨"ThimbleLawModel", "opened", "(I)I"⟩, prog_14_method_42_code, 2, some .int, false, [(6, 155), (1, 10), (6, 154), (0, 58)]), (⟨"ThimbleLawModel", "beginOne", "()I"⟩, prog_14_method_43_code, 2, some .int, false, [(6, 147), (1, 10), (6, 146), (0, 56)]), (⟨"ThimbleLawModel", "endOne", "()I"⟩, prog_14_method_44_code, 1, some .int, false, [(6, 143), (1, 10), (6, 142), (0, 55)]), (⟨"ThimbleLawModel", "compareOf", "()I"⟩, prog_14_method_45_code, 1, some .int, false, [(6, 127), (1, 10), (6, 126), (0, 51)]), (⟨"ThimbleLawModel", "betweenOf", "()I"⟩, prog_14_method_46_code, 1, some .int, false, [(6, 108), (1, 10), (6, 107), (0, 47)])],
  [(⟨"ThimbleLawModel", "partOf", "(I)I"⟩, prog_14_method_47_code, 2, some .int, false, [(6, 139), (1, 10), (6, 138), (0, 54)]), (⟨"ThimbleLawModel", "behindOne", "()I"⟩, prog_14_method_48_code, 4, some .int, false, [(6, 104), (1, 10), (6, 103), (0, 46)]), (⟨"ThimbleLawModel", "summed", "()I"⟩, prog_14_method_49_code, 2, some .int, false, [(6, 100), (1, 10), (6, 99), (0, 45)]), (⟨"ThimbleLawModel", "figure", "(III)I"⟩, prog_14_method_50_code, 4, some .int, false, [(6, 84), (1, 10), (6, 83), (0, 41)]), (⟨"ThimbleLawModel", "worded", "(JIII)I"⟩, prog_14_method_51_code, 6, some .int, false, [(6, 88), (1, 10), (6, 87), (0, 42)]), (⟨"ThimbleLawModel", "lawClause", "(I)I"⟩, prog_14_method_52_code, 3, some .int, false, [(6, 96), (1, 10), (6, 95), (0, 44)]), (⟨"ThimbleLawModel", "three", "(IIIJIJI)I"⟩, prog_14_method_53_code, 11, some .int, false, [(6, 80), (1, 10), (6, 79), (0, 40)]), (⟨"ThimbleLawModel", "pair", "(IIIJI)I"⟩, prog_14_method_54_code, 8, some .int, false, [(6, 92), (1, 10), (6, 91), (0, 43)]), (⟨"ThimbleLawModel", "body", "(II)I"⟩, prog_14_method_55_code, 3, some .int, false, [(6, 76), (1, 10), (6, 75), (0, 39)]), (⟨"ThimbleLawModel", "isStandard", "()Z"⟩, prog_14_method_56_code, 1, some .boolean, false, [(6, 66), (1, 10), (6, 65), (0, 38)]), (⟨"ThimbleLawModel", "sortOf", "()I"⟩, prog_14_method_57_code, 1, some .int, false, [(6, 46), (1, 10), (6, 45), (0, 36)]), (⟨"ThimbleLawModel", "clause", "()I"⟩, prog_14_method_58_code, 5, some .int, false, [(6, 42), (1, 10), (6, 41), (0, 35)]), (⟨"ThimbleLawModel", "readText", "()I"⟩, prog_14_method_59_code, 2, some .int, false, [(6, 19), (1, 10), (6, 18), (0, 32)]), (⟨"ThimbleLawModel", "text", "()I"⟩, prog_14_method_60_code, 1, some .int, false, [(6, 15), (1, 10), (6, 13), (6, 14)]), (⟨"ThimbleLawModel", "fault", "(I)I"⟩, prog_14_method_61_code, 2, some .int, false, [(6, 163), (1, 10), (6, 161), (6, 162)]), (⟨"ThimbleLawModel", "by", "(I)Z"⟩, prog_14_method_62_code, 2, some .boolean, false, [(6, 167), (1, 10), (6, 165), (6, 166)])],
  [(⟨"ThimbleLawModel", "clip", "(J)J"⟩, prog_14_method_63_code, 2, some .long, true, [(7, 12), (1, 10), (7, 11), (0, 0)]), (⟨"ThimbleLawModel", "two", "(IJJ)J"⟩, prog_14_method_64_code, 5, some .long, true, [(7, 9), (1, 10), (7, 8), (0, 0)]), (⟨"ThimbleLawModel", "isAsked", "(IJJ)Z"⟩, prog_14_method_65_code, 5, some .boolean, true, [(7, 16), (1, 10), (7, 15), (0, 0)]), (⟨"ThimbleLawModel", "brimsOf", "(J)J"⟩, prog_14_method_66_code, 3, some .long, false, [(7, 1), (1, 10), (7, 0), (0, 71)]), (⟨"ThimbleLawModel", "joined", "(IZZ)Z"⟩, prog_14_method_67_code, 3, some .boolean, true, [(7, 19), (1, 10), (7, 18), (0, 0)]), (⟨"ThimbleLawModel", "above", "(JJ)J"⟩, prog_14_method_68_code, 4, some .long, true, [(7, 5), (1, 10), (7, 4), (0, 0)]), (⟨"ThimbleLawModel", "summedUp", "(II)J"⟩, prog_14_method_69_code, 10, some .long, false, [(6, 237), (1, 10), (6, 236), (0, 70)]), (⟨"ThimbleLawModel", "says", "(IIII)I"⟩, prog_14_method_70_code, 6, some .int, false, [(6, 233), (1, 10), (6, 232), (0, 69)]), (⟨"ThimbleLawModel", "name", "(II)V"⟩, prog_14_method_71_code, 3, none, false, [(6, 222), (1, 10), (6, 221), (0, 67)]), (⟨"ThimbleLawModel", "driesOf", "(III)I"⟩, prog_14_method_72_code, 4, some .int, false, [(7, 66), (1, 10), (7, 65), (0, 79)]), (⟨"ThimbleLawModel", "errsOf", "(II)I"⟩, prog_14_method_73_code, 3, some .int, false, [(6, 218), (1, 10), (6, 217), (0, 66)]), (⟨"ThimbleLawModel", "fineOf", "(II)I"⟩, prog_14_method_74_code, 3, some .int, false, [(7, 38), (1, 10), (7, 37), (0, 75)]), (⟨"ThimbleLawModel", "anew", "()V"⟩, prog_14_method_75_code, 1, none, false, [(7, 23), (1, 10), (7, 22), (0, 72)]), (⟨"ThimbleLawModel", "pass", "()V"⟩, prog_14_method_76_code, 3, none, false, [(7, 62), (1, 10), (7, 61), (0, 78)]), (⟨"ThimbleLawModel", "keep", "()V"⟩, prog_14_method_77_code, 4, none, false, [(6, 183), (1, 10), (6, 182), (0, 61)]), (⟨"ThimbleLawModel", "undo", "()I"⟩, prog_14_method_78_code, 4, some .int, false, [(6, 171), (1, 10), (6, 169), (6, 170)])],
  [(⟨"ThimbleLawModel", "more", "(III)V"⟩, prog_14_method_79_code, 4, none, false, [(6, 187), (1, 10), (6, 186), (0, 62)]), (⟨"ThimbleLawModel", "deed", "(III)I"⟩, prog_14_method_80_code, 4, some .int, false, [(6, 175), (1, 10), (6, 173), (6, 174)]), (⟨"ThimbleLawModel", "weep", "(II)I"⟩, prog_14_method_81_code, 3, some .int, false, [(6, 194), (1, 10), (6, 192), (6, 193)]), (⟨"ThimbleLawModel", "canWash", "(III)Z"⟩, prog_14_method_82_code, 4, some .boolean, false, [(6, 202), (1, 10), (6, 201), (0, 63)]), (⟨"ThimbleLawModel", "washNow", "(III)V"⟩, prog_14_method_83_code, 4, none, false, [(6, 206), (1, 10), (6, 205), (0, 64)]), (⟨"ThimbleLawModel", "wash", "(III)I"⟩, prog_14_method_84_code, 4, some .int, false, [(6, 198), (1, 10), (6, 196), (6, 197)]), (⟨"ThimbleLawModel", "pourNow", "(II)I"⟩, prog_14_method_85_code, 7, some .int, false, [(6, 214), (1, 10), (6, 213), (0, 65)]), (⟨"ThimbleLawModel", "pour", "(II)I"⟩, prog_14_method_86_code, 3, some .int, false, [(6, 210), (1, 10), (6, 208), (6, 209)]), (⟨"ThimbleLawModel", "canBend", "(I)Z"⟩, prog_14_method_87_code, 2, some .boolean, false, [(7, 46), (1, 10), (7, 45), (0, 76)]), (⟨"ThimbleLawModel", "bend", "(I)I"⟩, prog_14_method_88_code, 2, some .int, false, [(7, 42), (1, 10), (7, 40), (7, 41)]), (⟨"ThimbleLawModel", "shrink", "(I)I"⟩, prog_14_method_89_code, 2, some .int, false, [(7, 50), (1, 10), (7, 48), (7, 49)]), (⟨"ThimbleLawModel", "arePassed", "(I)Z"⟩, prog_14_method_90_code, 3, some .boolean, false, [(7, 58), (1, 10), (7, 57), (0, 77)]), (⟨"ThimbleLawModel", "day", "(I)I"⟩, prog_14_method_91_code, 2, some .int, false, [(7, 54), (1, 10), (7, 52), (7, 53)]), (⟨"ThimbleLawModel", "isPlayed", "(I)Z"⟩, prog_14_method_92_code, 5, some .boolean, false, [(7, 74), (1, 10), (7, 73), (0, 80)]), (⟨"ThimbleLawModel", "played", "(I)I"⟩, prog_14_method_93_code, 3, some .int, false, [(7, 70), (1, 10), (7, 68), (7, 69)]), (⟨"ThimbleLawModel", "happens", "(I)V"⟩, prog_14_method_94_code, 4, none, false, [(7, 91), (1, 10), (7, 90), (0, 81)])],
  [(⟨"ThimbleLawModel", "centuries", "(II)I"⟩, prog_14_method_95_code, 5, some .int, false, [(7, 87), (1, 10), (7, 85), (7, 86)]), (⟨"ThimbleLawModel", "of", "(II)I"⟩, prog_14_method_96_code, 3, some .int, false, [(7, 95), (1, 10), (7, 93), (7, 94)]), (⟨"ThimbleLawModel", "drops", "(III)I"⟩, prog_14_method_97_code, 4, some .int, false, [(7, 103), (1, 10), (7, 101), (7, 102)]), (⟨"ThimbleLawModel", "is", "(I)I"⟩, prog_14_method_98_code, 2, some .int, false, [(7, 107), (1, 10), (7, 105), (7, 106)]), (⟨"ThimbleLawModel", "shown", "()I"⟩, prog_14_method_99_code, 1, some .int, false, [(7, 115), (1, 10), (7, 114), (0, 83)]), (⟨"ThimbleLawModel", "entry", "(II)I"⟩, prog_14_method_100_code, 4, some .int, false, [(7, 119), (1, 10), (7, 118), (0, 84)]), (⟨"ThimbleLawModel", "book", "(II)I"⟩, prog_14_method_101_code, 3, some .int, false, [(7, 111), (1, 10), (7, 109), (7, 110)]), (⟨"ThimbleLawModel", "fined", "(I)I"⟩, prog_14_method_102_code, 4, some .int, false, [(7, 123), (1, 10), (7, 121), (7, 122)]), (⟨"ThimbleLawModel", "fines", "(I)I"⟩, prog_14_method_103_code, 4, some .int, false, [(7, 127), (1, 10), (7, 125), (7, 126)]), (⟨"ThimbleLawModel", "sober", "(I)I"⟩, prog_14_method_104_code, 4, some .int, false, [(7, 131), (1, 10), (7, 129), (7, 130)]), (⟨"ThimbleLawModel", "togetherOf", "(I)I"⟩, prog_14_method_105_code, 4, some .int, false, [(7, 139), (1, 10), (7, 138), (0, 85)]), (⟨"ThimbleLawModel", "heaviest", "()I"⟩, prog_14_method_106_code, 3, some .int, false, [(7, 135), (1, 10), (7, 133), (7, 134)]), (⟨"ThimbleLawModel", "excessOf", "(I)I"⟩, prog_14_method_107_code, 4, some .int, false, [(7, 147), (1, 10), (7, 146), (0, 86)]), (⟨"ThimbleLawModel", "worst", "()I"⟩, prog_14_method_108_code, 4, some .int, false, [(7, 143), (1, 10), (7, 141), (7, 142)]), (⟨"ThimbleLawModel", "moreDents", "(I)I"⟩, prog_14_method_109_code, 6, some .int, false, [(7, 151), (1, 10), (7, 149), (7, 150)]), (⟨"ThimbleLawModel", "cases", "(I)I"⟩, prog_14_method_110_code, 5, some .int, false, [(7, 155), (1, 10), (7, 153), (7, 154)])],
  [(⟨"ThimbleLawModel", "setAside", "()V"⟩, prog_14_method_111_code, 2, none, false, [(7, 163), (1, 10), (7, 162), (0, 87)]), (⟨"ThimbleLawModel", "putBack", "()V"⟩, prog_14_method_112_code, 2, none, false, [(7, 167), (1, 10), (7, 166), (0, 88)]), (⟨"ThimbleLawModel", "foretold", "(III)I"⟩, prog_14_method_113_code, 5, some .int, false, [(7, 159), (1, 10), (7, 157), (7, 158)]), (⟨"ThimbleLawModel", "firstBrim", "(III)I"⟩, prog_14_method_114_code, 7, some .int, false, [(7, 171), (1, 10), (7, 169), (7, 170)]), (⟨"ThimbleLawModel", "plan", "(II)I"⟩, prog_14_method_115_code, 3, some .int, false, [(7, 175), (1, 10), (7, 173), (7, 174)]), (⟨"ThimbleLawModel", "dropsOf", "(II)I"⟩, prog_14_method_116_code, 7, some .int, false, [(7, 183), (1, 10), (7, 182), (0, 89)]), (⟨"ThimbleLawModel", "within", "(I)I"⟩, prog_14_method_117_code, 5, some .int, false, [(7, 179), (1, 10), (7, 177), (7, 178)]), (⟨"ThimbleLawModel", "common", "(JJ)J"⟩, prog_14_method_118_code, 10, some .long, true, [(7, 203), (1, 10), (7, 202), (0, 0)]), (⟨"ThimbleLawModel", "power", "(II)J"⟩, prog_14_method_119_code, 5, some .long, true, [(7, 200), (1, 10), (7, 199), (0, 0)]), (⟨"ThimbleLawModel", "ways", "(II)J"⟩, prog_14_method_120_code, 5, some .long, true, [(7, 197), (1, 10), (7, 196), (0, 0)]), (⟨"ThimbleLawModel", "wrong", "(II)J"⟩, prog_14_method_121_code, 5, some .long, true, [(7, 194), (1, 10), (7, 193), (0, 0)]), (⟨"ThimbleLawModel", "wrongly", "(IIIZ)J"⟩, prog_14_method_122_code, 9, some .long, false, [(7, 190), (1, 10), (7, 188), (7, 189)]), (⟨"ThimbleLawModel", "howOften", "(III)I"⟩, prog_14_method_123_code, 6, some .int, false, [(7, 207), (1, 10), (7, 205), (7, 206)]), (⟨"ThimbleLawModel", "way", "(III)Z"⟩, prog_14_method_124_code, 4, some .boolean, false, [(7, 212), (1, 10), (7, 210), (7, 211)]), (⟨"ThimbleLawModel", "lengthNow", "()I"⟩, prog_14_method_125_code, 3, some .int, false, [(7, 225), (1, 10), (7, 224), (0, 91)]), (⟨"ThimbleLawModel", "nextRow", "()Z"⟩, prog_14_method_126_code, 7, some .boolean, false, [(7, 229), (1, 10), (7, 228), (0, 92)])],
  [(⟨"ThimbleLawModel", "layRound", "()I"⟩, prog_14_method_127_code, 4, some .int, false, [(7, 220), (1, 10), (7, 219), (0, 90)]), (⟨"ThimbleLawModel", "round", "(I)I"⟩, prog_14_method_128_code, 3, some .int, false, [(7, 216), (1, 10), (7, 214), (7, 215)]), (⟨"ThimbleLawModel", "year", "(II)I"⟩, prog_14_method_129_code, 3, some .int, false, [(7, 233), (1, 10), (7, 231), (7, 232)]), (⟨"ThimbleLawModel", "isStandardOf", "(I)Z"⟩, prog_14_method_130_code, 3, some .boolean, false, [(8, 1), (1, 10), (8, 0), (0, 93)]), (⟨"ThimbleLawModel", "shrunk", "(I)I"⟩, prog_14_method_131_code, 6, some .int, false, [(7, 237), (1, 10), (7, 235), (7, 236)]), (⟨"ThimbleLawModel", "countsOf", "(I)I"⟩, prog_14_method_132_code, 5, some .int, false, [(8, 9), (1, 10), (8, 8), (0, 94)]), (⟨"ThimbleLawModel", "wouldTell", "()I"⟩, prog_14_method_133_code, 5, some .int, false, [(8, 5), (1, 10), (8, 3), (8, 4)]), (⟨"ThimbleLawModel", "needOf", "(II)I"⟩, prog_14_method_134_code, 5, some .int, false, [(8, 17), (1, 10), (8, 16), (0, 95)]), (⟨"ThimbleLawModel", "against", "(IIZ)I"⟩, prog_14_method_135_code, 6, some .int, false, [(8, 13), (1, 10), (8, 11), (8, 12)]), (⟨"ThimbleLawModel", "roomsOf", "(I)I"⟩, prog_14_method_136_code, 4, some .int, false, [(8, 29), (1, 10), (8, 28), (0, 97)]), (⟨"ThimbleLawModel", "apart", "(II)I"⟩, prog_14_method_137_code, 4, some .int, false, [(8, 25), (1, 10), (8, 24), (0, 96)]), (⟨"ThimbleLawModel", "even", "(IZ)I"⟩, prog_14_method_138_code, 6, some .int, false, [(8, 21), (1, 10), (8, 19), (8, 20)]), (⟨"ThimbleLawModel", "dried", "(III)I"⟩, prog_14_method_139_code, 5, some .int, false, [(8, 33), (1, 10), (8, 31), (8, 32)]), (⟨"ThimbleLawModel", "whose", "()I"⟩, prog_14_method_140_code, 5, some .int, false, [(8, 37), (1, 10), (8, 35), (8, 36)]), (⟨"ThimbleLawModel", "costs", "(II)Z"⟩, prog_14_method_141_code, 3, some .boolean, false, [(8, 41), (1, 10), (8, 39), (8, 40)]), (⟨"ThimbleLawModel", "game", "(IZ)I"⟩, prog_14_method_142_code, 5, some .int, false, [(8, 45), (1, 10), (8, 43), (8, 44)])],
  [(⟨"ThimbleLawModel", "image", "()I"⟩, prog_14_method_143_code, 1, some .int, false, [(8, 49), (1, 10), (8, 47), (8, 48)]), (⟨"ThimbleLawModel", "back", "()I"⟩, prog_14_method_144_code, 1, some .int, false, [(8, 53), (1, 10), (8, 51), (8, 52)]), (⟨"ThimbleLawModel", "about", "(I)I"⟩, prog_14_method_145_code, 2, some .int, false, [(8, 57), (1, 10), (8, 55), (8, 56)]), (⟨"java/lang/Integer", "bitCount", "(I)I"⟩, prog_15_method_49_code, 1, some .int, true, [(4, 155), (1, 18), (4, 154), (0, 0)])]]
def nAT : List (List Nat) := [[4, 4, 1, 2, 2, 3, 3, 2, 2, 2, 3, 4, 4, 2, 1, 4],
  [2, 2, 2, 2, 2, 2, 2, 2, 2, 2, 3, 2, 1, 1, 1, 3],
  [2, 3, 3, 2, 3, 1, 2, 1, 1, 3, 3, 3, 1, 4, 3, 2],
  [4, 3, 4, 3, 2, 2, 2, 1, 2, 5, 3, 2, 4, 3, 3, 3],
  [3, 4, 2, 3, 3, 4, 3, 4, 1, 1, 4, 3, 3, 4, 1, 1],
  [2, 2, 2, 3, 3, 5, 3, 3, 3, 2, 3, 4, 3, 3, 3, 3],
  [3, 6, 2, 2, 2, 2, 1, 3, 3, 3, 2, 4, 1, 2, 4, 3],
  [2, 6, 2, 2, 1, 2, 2, 4, 3, 4, 3, 2, 2, 2, 2, 3],
  [1, 3, 4, 2, 3, 4, 4, 3, 2, 5, 4, 4, 2, 3, 2, 1],
  [4, 3, 1, 2, 2, 4, 1, 3, 3, 2, 2, 2, 1, 1, 1, 2],
  [3, 1, 3, 2, 3, 3, 2, 1, 2, 1, 3, 4, 2, 2, 4, 3],
  [2, 4, 2, 3, 2, 2, 6, 2, 2, 1, 1, 1, 1, 2, 3, 4],
  [5, 6, 2, 3, 1, 1, 2, 1, 1, 1, 1, 2, 1, 1, 1, 1],
  [2, 1, 1, 4, 5, 2, 8, 6, 3, 1, 1, 1, 1, 1, 2, 2],
  [1, 3, 3, 2, 3, 2, 3, 5, 3, 4, 3, 3, 1, 1, 1, 1],
  [4, 4, 3, 4, 4, 4, 3, 3, 2, 2, 2, 2, 2, 2, 2, 2],
  [3, 3, 4, 2, 1, 3, 3, 2, 2, 2, 2, 1, 2, 1, 2, 2],
  [1, 1, 4, 4, 3, 3, 2, 2, 2, 2, 2, 5, 4, 4, 1, 1],
  [1, 2, 3, 2, 2, 2, 1, 3, 4, 2, 3, 3, 4, 1, 3, 3],
  [1, 1, 2, 1]]
def mLT : List (List Nat) := [[5, 7, 3, 4, 8, 6, 5, 2, 2, 2, 3, 4, 4, 5, 2, 4],
  [2, 2, 2, 2, 2, 2, 5, 5, 6, 7, 7, 3, 2, 2, 7, 7],
  [7, 8, 6, 6, 5, 5, 6, 6, 1, 3, 3, 3, 1, 6, 3, 2],
  [4, 3, 6, 6, 2, 2, 3, 4, 3, 5, 4, 4, 4, 3, 3, 3],
  [6, 10, 2, 3, 5, 5, 7, 4, 1, 1, 5, 5, 6, 5, 1, 1],
  [2, 2, 3, 3, 3, 6, 5, 5, 5, 2, 3, 4, 5, 4, 4, 4],
  [3, 8, 3, 4, 3, 2, 2, 3, 3, 3, 2, 4, 1, 2, 4, 3],
  [2, 6, 3, 2, 2, 2, 2, 4, 3, 4, 3, 2, 2, 2, 2, 3],
  [1, 3, 4, 2, 3, 4, 4, 3, 2, 11, 6, 4, 2, 3, 4, 1],
  [5, 4, 1, 2, 2, 4, 3, 3, 3, 4, 4, 4, 1, 1, 1, 2],
  [3, 1, 3, 3, 3, 4, 2, 3, 2, 1, 3, 4, 2, 2, 4, 3],
  [4, 5, 3, 3, 3, 3, 6, 2, 2, 1, 1, 1, 2, 2, 3, 4],
  [5, 6, 3, 3, 1, 1, 2, 2, 1, 2, 1, 2, 2, 1, 1, 1],
  [2, 4, 2, 4, 6, 3, 11, 8, 3, 1, 1, 5, 2, 1, 2, 2],
  [2, 5, 5, 3, 3, 4, 10, 6, 3, 4, 3, 3, 1, 3, 4, 4],
  [4, 4, 3, 4, 4, 4, 7, 3, 2, 2, 2, 3, 2, 5, 3, 4],
  [5, 3, 4, 2, 1, 4, 3, 4, 4, 4, 4, 3, 4, 4, 6, 5],
  [2, 2, 5, 7, 3, 7, 5, 10, 5, 5, 5, 9, 6, 4, 3, 7],
  [4, 3, 3, 3, 6, 5, 5, 5, 6, 4, 4, 6, 5, 5, 3, 5],
  [1, 1, 2, 1]]
/-- answers: 0 none, 1 int, 2 boolean, 3 long, 4 reference -/
def rBT : List (List Nat) := [[1, 1, 2, 2, 1, 2, 1, 2, 1, 1, 1, 0, 1, 1, 1, 0],
  [1, 1, 1, 1, 0, 0, 3, 3, 3, 3, 1, 2, 1, 1, 1, 1],
  [1, 1, 1, 1, 1, 1, 1, 1, 4, 1, 1, 1, 0, 1, 2, 2],
  [1, 1, 1, 1, 1, 1, 2, 0, 1, 2, 0, 0, 0, 1, 1, 1],
  [1, 1, 1, 1, 3, 0, 0, 0, 2, 2, 1, 1, 1, 2, 1, 1],
  [2, 2, 2, 2, 2, 2, 2, 2, 2, 2, 2, 2, 2, 2, 2, 2],
  [0, 0, 0, 1, 0, 0, 0, 1, 0, 1, 0, 1, 1, 0, 1, 2],
  [2, 1, 0, 1, 1, 1, 2, 1, 1, 1, 1, 1, 1, 1, 1, 1],
  [1, 1, 1, 1, 1, 1, 1, 1, 1, 3, 1, 2, 1, 1, 1, 1],
  [1, 1, 1, 1, 1, 1, 1, 2, 1, 1, 1, 1, 1, 1, 1, 1],
  [2, 2, 2, 0, 2, 1, 2, 1, 2, 2, 1, 0, 1, 1, 1, 2],
  [1, 1, 0, 2, 2, 0, 1, 1, 1, 2, 2, 2, 0, 3, 3, 3],
  [3, 3, 2, 0, 1, 1, 0, 1, 1, 2, 2, 1, 1, 1, 1, 1],
  [1, 1, 1, 1, 1, 1, 1, 1, 1, 2, 1, 1, 1, 1, 1, 2],
  [3, 3, 2, 3, 2, 3, 3, 1, 0, 1, 1, 1, 0, 0, 0, 1],
  [0, 1, 1, 2, 0, 1, 1, 1, 2, 1, 1, 2, 1, 2, 1, 0],
  [1, 1, 1, 1, 1, 1, 1, 1, 1, 1, 1, 1, 1, 1, 1, 1],
  [0, 0, 1, 1, 1, 1, 1, 3, 3, 3, 3, 3, 1, 2, 1, 2],
  [1, 1, 1, 2, 1, 1, 1, 1, 1, 1, 1, 1, 1, 1, 2, 1],
  [1, 1, 1, 1]]
def ownT : List String := ["ThimbleLaw$Ahead", "ThimbleLaw$City", "ThimbleLaw$Counsel", "ThimbleLaw$Hand", "ThimbleLaw$Judge", "ThimbleLaw$Reader", "ThimbleLaw$Road", "ThimbleLaw$Steps", "ThimbleLaw$Text", "ThimbleLaw$Told", "ThimbleLaw", "ThimbleLawModel", "java/lang/Integer"]
def mOT : List (List Nat) := [[0, 0, 0, 0, 0, 0, 0, 1, 1, 1, 1, 1, 1, 1, 1, 1],
  [1, 1, 1, 1, 1, 1, 2, 2, 2, 2, 2, 2, 2, 2, 2, 2],
  [2, 2, 2, 2, 2, 2, 2, 2, 3, 3, 3, 3, 3, 3, 3, 3],
  [3, 3, 3, 3, 3, 3, 3, 3, 3, 3, 3, 3, 4, 4, 4, 4],
  [4, 4, 4, 4, 4, 5, 5, 5, 5, 5, 5, 5, 5, 5, 5, 5],
  [5, 5, 5, 5, 5, 5, 5, 5, 5, 5, 5, 5, 5, 5, 5, 5],
  [6, 6, 7, 7, 7, 7, 8, 8, 8, 8, 8, 9, 9, 9, 10, 10],
  [10, 10, 10, 10, 10, 10, 10, 10, 10, 10, 10, 10, 10, 10, 10, 10],
  [10, 10, 10, 10, 10, 10, 10, 10, 10, 10, 10, 10, 10, 10, 10, 10],
  [10, 10, 10, 10, 10, 10, 10, 10, 10, 10, 10, 10, 10, 10, 10, 10],
  [10, 10, 10, 11, 11, 11, 11, 11, 11, 11, 11, 11, 11, 11, 11, 11],
  [11, 11, 11, 11, 11, 11, 11, 11, 11, 11, 11, 11, 11, 11, 11, 11],
  [11, 11, 11, 11, 11, 11, 11, 11, 11, 11, 11, 11, 11, 11, 11, 11],
  [11, 11, 11, 11, 11, 11, 11, 11, 11, 11, 11, 11, 11, 11, 11, 11],
  [11, 11, 11, 11, 11, 11, 11, 11, 11, 11, 11, 11, 11, 11, 11, 11],
  [11, 11, 11, 11, 11, 11, 11, 11, 11, 11, 11, 11, 11, 11, 11, 11],
  [11, 11, 11, 11, 11, 11, 11, 11, 11, 11, 11, 11, 11, 11, 11, 11],
  [11, 11, 11, 11, 11, 11, 11, 11, 11, 11, 11, 11, 11, 11, 11, 11],
  [11, 11, 11, 11, 11, 11, 11, 11, 11, 11, 11, 11, 11, 11, 11, 11],
  [11, 11, 11, 12]]
def mCT : List (List Nat) := [[99, 99, 99, 99, 99, 99, 99, 0, 0, 99, 0, 0, 0, 0, 0, 0],
  [0, 0, 0, 0, 0, 99, 99, 99, 99, 99, 99, 99, 99, 99, 99, 99],
  [99, 99, 99, 99, 99, 99, 99, 99, 1, 1, 1, 1, 1, 1, 1, 1],
  [1, 1, 1, 1, 1, 1, 1, 1, 1, 1, 1, 1, 2, 2, 2, 2],
  [99, 2, 2, 99, 99, 3, 3, 3, 99, 99, 99, 99, 99, 99, 99, 3],
  [3, 3, 3, 3, 3, 3, 3, 3, 3, 3, 3, 3, 3, 3, 3, 3],
  [4, 4, 5, 5, 5, 5, 6, 6, 6, 6, 6, 7, 7, 7, 8, 8],
  [8, 8, 8, 8, 8, 8, 8, 8, 8, 8, 8, 8, 8, 8, 8, 8],
  [8, 8, 8, 8, 8, 8, 8, 8, 8, 8, 8, 8, 8, 8, 8, 8],
  [8, 8, 8, 8, 8, 8, 8, 8, 8, 8, 8, 8, 8, 8, 8, 8],
  [8, 99, 99, 99, 99, 99, 99, 99, 9, 99, 9, 9, 99, 9, 9, 9],
  [9, 9, 9, 9, 9, 9, 9, 9, 9, 99, 99, 99, 9, 99, 99, 99],
  [99, 99, 9, 9, 9, 99, 9, 9, 9, 9, 9, 9, 9, 9, 9, 9],
  [9, 9, 9, 9, 9, 9, 9, 9, 9, 9, 9, 9, 9, 9, 9, 9],
  [99, 99, 99, 9, 99, 99, 9, 9, 9, 9, 9, 9, 9, 9, 9, 9],
  [9, 9, 9, 9, 9, 9, 9, 9, 9, 9, 9, 9, 9, 9, 9, 9],
  [9, 9, 9, 9, 9, 9, 9, 9, 9, 9, 9, 9, 9, 9, 9, 9],
  [9, 9, 9, 9, 9, 9, 9, 99, 99, 99, 99, 9, 9, 9, 9, 9],
  [9, 9, 9, 9, 9, 9, 9, 9, 9, 9, 9, 9, 9, 9, 9, 9],
  [9, 9, 9, 99]]
/-- owner, entry, kind of object, field -/
def flW : List (List ((Nat × Nat × Nat) × (Nat × Nat))) := [[((71, 7, 0), (1, 47)), ((74, 7, 1), (1, 50)), ((77, 7, 2), (1, 53)), ((65, 7, 3), (1, 55)), ((35, 0, 11), (1, 131)), ((80, 0, 15), (1, 140)), ((61, 0, 17), (1, 145)), ((31, 2, 0), (1, 196)), ((15, 1, 0), (2, 3)), ((9, 1, 1), (2, 5))],
  [((9, 0, 0), (1, 85)), ((15, 0, 1), (1, 90)), ((18, 0, 2), (1, 95)), ((21, 0, 3), (1, 100)), ((24, 0, 4), (1, 104)), ((27, 0, 5), (1, 106)), ((30, 0, 6), (1, 109)), ((33, 0, 7), (1, 112)), ((37, 0, 8), (1, 116)), ((40, 0, 9), (1, 122)), ((43, 0, 10), (1, 127)), ((46, 0, 11), (1, 129)), ((49, 0, 12), (1, 133)), ((52, 0, 13), (1, 135)), ((55, 0, 14), (1, 137)), ((61, 0, 15), (1, 139)), ((65, 0, 16), (1, 142)), ((68, 0, 17), (1, 144)), ((74, 0, 18), (1, 147))],
  [((29, 7, 0), (1, 48)), ((33, 7, 1), (1, 51)), ((23, 7, 3), (1, 56)), ((51, 0, 0), (1, 88)), ((93, 0, 1), (1, 93)), ((60, 0, 8), (1, 120))],
  [((76, 0, 0), (1, 87)), ((96, 0, 1), (1, 92)), ((138, 0, 2), (1, 98)), ((185, 0, 3), (1, 102)), ((36, 0, 5), (1, 107)), ((79, 0, 7), (1, 114)), ((82, 0, 8), (1, 119)), ((85, 0, 9), (1, 125)), ((52, 0, 11), (1, 130)), ((66, 0, 18), (1, 148)), ((144, 6, 5), (1, 223)), ((12, 1, 0), (2, 1)), ((21, 1, 1), (2, 4)), ((27, 1, 2), (2, 6)), ((31, 1, 3), (2, 8))],
  [((18, 0, 2), (1, 96)), ((24, 0, 7), (1, 113)), ((27, 0, 8), (1, 117)), ((38, 0, 9), (1, 123)), ((11, 2, 0), (1, 195)), ((15, 2, 1), (1, 197)), ((77, 6, 1), (1, 212)), ((80, 6, 2), (1, 214)), ((41, 6, 3), (1, 216)), ((71, 6, 4), (1, 219))],
  [((106, 6, 3), (1, 217)), ((132, 6, 4), (1, 220)), ((109, 6, 5), (1, 222)), ((126, 6, 6), (1, 225)), ((9, 3, 0), (2, 44)), ((15, 3, 1), (2, 45)), ((18, 3, 2), (2, 46)), ((21, 3, 3), (2, 47)), ((25, 3, 4), (2, 48)), ((28, 3, 5), (2, 49)), ((31, 3, 6), (2, 50)), ((34, 3, 7), (2, 52))],
  [((9, 4, 0), (2, 26)), ((15, 4, 1), (2, 27)), ((18, 4, 2), (2, 29))],
  [((13, 5, 0), (1, 74)), ((17, 5, 1), (1, 75)), ((21, 5, 2), (1, 76)), ((24, 0, 0), (1, 86)), ((27, 0, 1), (1, 91)), ((30, 0, 2), (1, 97)), ((33, 0, 3), (1, 101)), ((36, 0, 6), (1, 110)), ((39, 0, 8), (1, 118)), ((48, 0, 9), (1, 124)), ((51, 0, 10), (1, 128)), ((54, 0, 14), (1, 138))],
  [((11, 6, 0), (1, 210)), ((15, 6, 1), (1, 211)), ((18, 6, 2), (1, 213)), ((21, 6, 3), (1, 215)), ((24, 6, 4), (1, 218)), ((27, 6, 5), (1, 221)), ((31, 6, 6), (1, 224))],
  [((11, 7, 0), (1, 46)), ((15, 7, 1), (1, 49)), ((18, 7, 2), (1, 52)), ((21, 7, 3), (1, 54))],
  [((321, 7, 3), (1, 57)), ((318, 5, 2), (1, 77)), ((249, 0, 0), (1, 89)), ((170, 0, 1), (1, 94)), ((115, 0, 2), (1, 99)), ((173, 0, 3), (1, 103)), ((71, 0, 4), (1, 105)), ((92, 0, 5), (1, 108)), ((179, 0, 6), (1, 111)), ((142, 0, 7), (1, 115)), ((146, 0, 8), (1, 121)), ((149, 0, 9), (1, 126)), ((176, 0, 11), (1, 132)), ((304, 0, 12), (1, 134)), ((246, 0, 13), (1, 136)), ((206, 0, 15), (1, 141)), ((262, 0, 16), (1, 143)), ((297, 0, 17), (1, 146)), ((129, 0, 18), (1, 149)), ((16, 1, 0), (2, 2)), ((78, 1, 2), (2, 7)), ((259, 4, 1), (2, 28)), ((256, 4, 2), (2, 30)), ((86, 3, 6), (2, 51)), ((89, 3, 7), (2, 53)), ((10, 8, 0), (2, 71)), ((20, 8, 1), (2, 72)), ((24, 8, 2), (2, 73)), ((30, 8, 3), (2, 74)), ((37, 8, 4), (2, 75)), ((41, 8, 5), (2, 76)), ((45, 8, 6), (2, 77)), ((49, 8, 7), (2, 78)), ((52, 8, 8), (2, 79))],
  [((7, 9, 0), (5, 129)), ((13, 9, 1), (5, 130)), ((16, 9, 2), (5, 131)), ((19, 9, 3), (5, 132)), ((91, 9, 4), (5, 133)), ((22, 9, 5), (5, 134)), ((26, 9, 6), (5, 135)), ((97, 9, 7), (5, 136)), ((103, 9, 8), (5, 137)), ((106, 9, 9), (5, 138)), ((112, 9, 10), (5, 139)), ((119, 9, 11), (5, 140)), ((144, 9, 12), (5, 141)), ((147, 9, 13), (5, 142)), ((176, 9, 14), (5, 143)), ((29, 9, 15), (5, 144)), ((150, 9, 16), (5, 145)), ((160, 9, 17), (5, 146)), ((196, 9, 18), (5, 147)), ((249, 9, 19), (5, 148)), ((32, 9, 20), (5, 149)), ((35, 9, 21), (5, 150)), ((39, 9, 22), (5, 151)), ((43, 9, 23), (5, 152)), ((46, 9, 24), (5, 153)), ((49, 9, 25), (5, 154))],
  []]
/-- owner, entry, method -/
def mlW : List (List ((Nat × Nat) × (Nat × Nat))) := [[((19, 60), (4, 113)), ((25, 2), (4, 114)), ((50, 40), (4, 117)), ((54, 61), (4, 118)), ((40, 8), (4, 132)), ((83, 307), (4, 153)), ((88, 5), (4, 159)), ((92, 6), (4, 162)), ((96, 12), (4, 165))],
  [((93, 8), (3, 151)), ((78, 9), (3, 155)), ((97, 12), (3, 158)), ((90, 10), (3, 162)), ((108, 21), (5, 101)), ((112, 109), (5, 102)), ((116, 101), (5, 107))],
  [((9, 23), (4, 174)), ((15, 24), (4, 177)), ((36, 27), (4, 220)), ((40, 28), (4, 233)), ((44, 29), (4, 234)), ((47, 31), (4, 235)), ((70, 13), (5, 5)), ((73, 34), (5, 6)), ((56, 8), (5, 9)), ((67, 12), (5, 10)), ((77, 307), (5, 12)), ((87, 36), (5, 21)), ((63, 9), (5, 42)), ((19, 25), (5, 72)), ((96, 10), (5, 92))],
  [((88, 11), (2, 111)), ((99, 100), (2, 141)), ((103, 7), (3, 104)), ((106, 44), (3, 108)), ((70, 98), (3, 112)), ((109, 10), (3, 119)), ((113, 13), (3, 147)), ((117, 14), (3, 163)), ((121, 42), (3, 167)), ((44, 60), (3, 171)), ((48, 40), (3, 177)), ((60, 62), (3, 181)), ((124, 43), (3, 206)), ((63, 63), (3, 210)), ((132, 15), (3, 217)), ((135, 8), (3, 230)), ((141, 55), (4, 7)), ((56, 61), (4, 11)), ((147, 103), (4, 24)), ((150, 57), (4, 28)), ((154, 45), (4, 32)), ((158, 46), (4, 33)), ((162, 47), (4, 34)), ((164, 48), (4, 35)), ((167, 49), (4, 36)), ((170, 50), (4, 37)), ((173, 51), (4, 38)), ((176, 52), (4, 39)), ((179, 53), (4, 40)), ((182, 54), (4, 41)), ((188, 59), (4, 50))],
  [((30, 8), (3, 175)), ((34, 10), (3, 176)), ((50, 65), (3, 186)), ((83, 66), (3, 191)), ((60, 67), (3, 195)), ((90, 68), (3, 200)), ((54, 64), (3, 203))],
  [((37, 102), (2, 165)), ((48, 70), (2, 170)), ((62, 72), (2, 174)), ((66, 74), (2, 177)), ((78, 73), (2, 180)), ((70, 76), (2, 183)), ((99, 77), (2, 235)), ((74, 71), (2, 238)), ((81, 75), (3, 2)), ((84, 78), (3, 5)), ((52, 79), (3, 8)), ((58, 82), (3, 12)), ((103, 80), (3, 16)), ((112, 104), (3, 20)), ((116, 83), (3, 24)), ((129, 86), (3, 28)), ((139, 87), (3, 32)), ((145, 88), (3, 36)), ((148, 89), (3, 40)), ((142, 105), (3, 44)), ((151, 90), (3, 48)), ((154, 91), (3, 52)), ((123, 81), (3, 56)), ((158, 92), (3, 60)), ((161, 93), (3, 64)), ((168, 94), (3, 68)), ((171, 95), (3, 72)), ((164, 106), (3, 76)), ((120, 84), (3, 80)), ((135, 85), (3, 84))],
  [((22, 97), (4, 202)), ((26, 21), (4, 206))],
  [((63, 21), (5, 111))],
  [],
  [((25, 21), (5, 106))],
  [((55, 45), (2, 104)), ((59, 46), (2, 125)), ((74, 162), (2, 132)), ((63, 47), (2, 137)), ((67, 114), (2, 149)), ((82, 69), (2, 161)), ((95, 48), (3, 100)), ((98, 49), (3, 127)), ((102, 50), (3, 135)), ((105, 51), (3, 143)), ((108, 52), (3, 226)), ((112, 53), (3, 235)), ((118, 54), (4, 3)), ((121, 56), (4, 20)), ((125, 58), (4, 46)), ((133, 99), (4, 58)), ((139, 7), (4, 67)), ((152, 8), (4, 68)), ((155, 13), (4, 69)), ((158, 10), (4, 74)), ((161, 41), (4, 75)), ((164, 42), (4, 79)), ((167, 43), (4, 80)), ((182, 19), (4, 89)), ((185, 18), (4, 94)), ((188, 17), (4, 98)), ((191, 16), (4, 102)), ((194, 0), (4, 110)), ((200, 160), (4, 124)), ((216, 161), (4, 128)), ((203, 1), (4, 129)), ((210, 108), (4, 138)), ((219, 107), (4, 142)), ((222, 4), (4, 150)), ((228, 22), (4, 171)), ((236, 24), (4, 181)), ((240, 25), (4, 182)), ((252, 96), (4, 198)), ((265, 28), (4, 217)), ((269, 29), (4, 223)), ((272, 30), (4, 230)), ((275, 33), (5, 2)), ((279, 34), (5, 13)), ((282, 35), (5, 18)), ((285, 36), (5, 27)), ((288, 37), (5, 32)), ((291, 38), (5, 39)), ((294, 32), (5, 47)), ((300, 3), (5, 58)), ((307, 26), (5, 69)), ((311, 39), (5, 89)), ((314, 20), (5, 97))],
  [((52, 163), (5, 126)), ((56, 164), (5, 214)), ((79, 171), (5, 217)), ((83, 178), (5, 221)), ((60, 170), (5, 225)), ((87, 169), (5, 233)), ((94, 181), (6, 4)), ((261, 220), (6, 16)), ((170, 188), (6, 20)), ((100, 184), (6, 24)), ((109, 186), (6, 28)), ((116, 185), (6, 32)), ((125, 187), (6, 36)), ((258, 219), (6, 39)), ((246, 218), (6, 43)), ((140, 192), (6, 47)), ((136, 191), (6, 50)), ((132, 190), (6, 53)), ((128, 189), (6, 56)), ((185, 194), (6, 59)), ((239, 217), (6, 63)), ((242, 193), (6, 67)), ((252, 166), (6, 70)), ((255, 216), (6, 73)), ((228, 214), (6, 77)), ((218, 211), (6, 81)), ((224, 212), (6, 85)), ((232, 215), (6, 89)), ((236, 213), (6, 93)), ((221, 210), (6, 97)), ((212, 209), (6, 101)), ((206, 207), (6, 105)), ((167, 200), (6, 109)), ((163, 199), (6, 113)), ((200, 201), (6, 117)), ((153, 197), (6, 121)), ((203, 206), (6, 124)), ((193, 198), (6, 128)), ((156, 195), (6, 132)), ((209, 208), (6, 136)), ((179, 205), (6, 140)), ((215, 204), (6, 144)), ((173, 196), (6, 148)), ((182, 203), (6, 152)), ((189, 202), (6, 156)), ((316, 168), (6, 176)), ((319, 238), (6, 180)), ((322, 240), (6, 184)), ((296, 165), (6, 188)), ((325, 243), (6, 199)), ((328, 244), (6, 203)), ((340, 246), (6, 211)), ((331, 234), (6, 215)), ((300, 232), (6, 219)), ((67, 173), (6, 223)), ((64, 172), (6, 227)), ((303, 231), (6, 230)), ((293, 230), (6, 234)), ((274, 227), (6, 238)), ((277, 229), (7, 3)), ((281, 225), (7, 7)), ((268, 224), (7, 10)), ((285, 226), (7, 14)), ((289, 228), (7, 17)), ((334, 236), (7, 20)), ((75, 175), (7, 27)), ((71, 174), (7, 31)), ((337, 235), (7, 35)), ((343, 248), (7, 43)), ((349, 251), (7, 55)), ((346, 237), (7, 59)), ((313, 233), (7, 63)), ((379, 253), (7, 71)), ((352, 177), (7, 75)), ((355, 179), (7, 76)), ((358, 180), (7, 77)), ((361, 241), (7, 78)), ((364, 242), (7, 79)), ((367, 245), (7, 80)), ((370, 247), (7, 81)), ((373, 249), (7, 82)), ((376, 250), (7, 83)), ((382, 255), (7, 88)), ((385, 176), (7, 96)), ((388, 260), (7, 112)), ((391, 261), (7, 116)), ((394, 266), (7, 136)), ((397, 268), (7, 144)), ((400, 272), (7, 160)), ((403, 273), (7, 164)), ((406, 277), (7, 180)), ((409, 167), (7, 184)), ((420, 282), (7, 192)), ((412, 281), (7, 195)), ((415, 280), (7, 198)), ((423, 279), (7, 201)), ((435, 288), (7, 217)), ((429, 286), (7, 222)), ((432, 287), (7, 226)), ((438, 291), (7, 238)), ((441, 293), (8, 6)), ((444, 295), (8, 14)), ((450, 298), (8, 22)), ((447, 297), (8, 26))],
  []]
def mnW : List (List ((Nat × Nat) × (Nat × Nat))) := [[],
  [],
  [],
  [((40, 162), (2, 108)), ((92, 161), (2, 129))],
  [],
  [],
  [],
  [],
  [],
  [],
  [],
  [],
  []]
def acW : List ((Nat × Nat) × (Nat × Nat)) := [((7, 42), (3, 116)), ((1, 101), (3, 221))]
def acH : List (Nat × Nat) := [(3, 118), (3, 117), (1, 16)]
/-- Math: owner, entry, 0 max 1 min 2 abs -/
def maW : List ((Nat × Nat × Nat) × (Nat × Nat)) := [((1, 87, 1), (2, 115)), ((1, 82, 0), (2, 118)), ((5, 42, 1), (2, 169)), ((4, 74, 1), (3, 190)), ((4, 64, 0), (3, 214)), ((3, 127, 1), (3, 216)), ((7, 57, 1), (4, 62)), ((0, 58, 0), (4, 119)), ((0, 44, 1), (4, 133)), ((2, 82, 0), (5, 11)), ((2, 90, 2), (5, 24))]
def maH : List (Nat × Nat) := [(1, 11), (2, 119), (2, 116), (5, 25), (2, 120), (2, 117), (5, 26)]
-- [(5, 90, 'length'), (5, 95, 'charAt')]
def kcW : List ((Nat × Nat × Int) × (Nat × Nat)) := [((1, 107, 180000), (4, 93)), ((12, 265, 1431655765), (4, 156)), ((12, 266, 858993459), (4, 157)), ((12, 267, 252645135), (4, 158)), ((11, 115, 99999), (6, 31)), ((11, 428, 1000000000), (7, 221))]
def klW : List ((Nat × Nat × Int) × (Nat × Nat)) := [((4, 58, 10), (3, 185)), ((4, 86, (-1000000)), (3, 198)), ((4, 88, 1000000), (3, 199)), ((4, 69, 9999), (3, 215)), ((4, 48, 99), (4, 15)), ((10, 226, (-1)), (4, 170)), ((10, 234, 10), (4, 180)), ((10, 244, 100), (4, 189)), ((11, 123, 1152921504606846976), (6, 35)), ((11, 272, 3), (7, 2)), ((11, 264, 1000000), (7, 6)), ((11, 266, (-1000000)), (7, 13)), ((11, 307, 389), (7, 24)), ((11, 309, 269), (7, 25)), ((11, 311, 30493), (7, 26)), ((11, 418, (-1)), (7, 191)), ((11, 426, 100), (7, 208))]
def uwH : List (List (Nat × Nat)) := [[(1, 150), (1, 152), (1, 154), (1, 156), (1, 158), (1, 160), (1, 162), (1, 164), (1, 166), (1, 168), (1, 170), (1, 172), (1, 174), (1, 176), (1, 178), (1, 180), (1, 182), (1, 184), (1, 186)], [(2, 9), (2, 11), (2, 13), (2, 15)], [(1, 198), (1, 200)], [(2, 54), (2, 56), (2, 58), (2, 60), (2, 62), (2, 64), (2, 66), (2, 68)], [(2, 31), (2, 33), (2, 35)], [(1, 78), (1, 80), (1, 82)], [(1, 226), (1, 228), (1, 230), (1, 232), (1, 234), (1, 236), (1, 238)], [(1, 58), (1, 60), (1, 62), (1, 64)], [(2, 80), (2, 82), (2, 84), (2, 86), (2, 88), (2, 90), (2, 92), (2, 94), (2, 96)], [(5, 155), (5, 157), (5, 159), (5, 161), (5, 163), (5, 165), (5, 167), (5, 169), (5, 171), (5, 173), (5, 175), (5, 177), (5, 179), (5, 181), (5, 183), (5, 185), (5, 187), (5, 189), (5, 191), (5, 193), (5, 195), (5, 197), (5, 199), (5, 201), (5, 203), (5, 205)]]
def nMe : Nat := 308
end
section
/-! THE MACHINE OF SMALL WORDS: values are integers, the heap is a function of object and place; what a step asks stands as a formula -/
abbrev AV : Type := Option (Int ⊕ (Int ⊕ Option Nat))
abbrev Hp : Type := Nat → Int → Int
abbrev vI (x : Int) : AV := some (.inl x)
abbrev vL (x : Int) : AV := some (.inr (.inl x))
abbrev vA (o : Nat) : AV := some (.inr (.inr (some o)))
abbrev vN : AV := some (.inr (.inr none))
abbrev aGO : Type := Nat → List AV → List AV → Hp → Prop
abbrev aPO : Type := AV → Hp → Prop
abbrev aCA : Type := Nat → List AV → Hp → aPO → Prop
def hup (h : Hp) (o : Nat) (i v : Int) : Hp := fun a j => if a = o ∧ j = i then v else h a j
def hcp (h : Hp) (o : Nat) (sp : Int) (q : Nat) (dp n : Int) : Hp := fun a j => if a = q ∧ dp ≤ j ∧ j < dp + n then h o (sp + (j - dp)) else h a j
def lget (ls : List AV) (k : Nat) : AV := nth none ls k
def setn : List AV → Nat → AV → List AV
  | [], _, _ => []
  | _ :: xs, 0, v => v :: xs
  | x :: xs, n + 1, v => x :: setn xs n v
def kill (ls : List AV) (k : Nat) : List AV := match lget ls k with
  | some (.inr (.inl _)) => setn ls k none
  | _ => ls
def stor (ls : List AV) (k : Nat) (v : AV) : List AV := match k with
  | 0 => setn ls 0 v
  | j + 1 => setn (kill ls j) (j + 1) v
def stor2 (ls : List AV) (k : Nat) (v : AV) : List AV := setn (stor ls k v) (k + 1) none
def ents : List AV → List AV
  | [] => []
  | some (.inr (.inl x)) :: vs => some (.inr (.inl x)) :: none :: ents vs
  | v :: vs => v :: ents vs
def pad : List AV → Nat → List AV
  | [], 0 => []
  | [], n + 1 => none :: pad [] n
  | x :: xs, 0 => x :: xs
  | x :: xs, n + 1 => x :: pad xs n
def takeR : Nat → List AV → List AV → List AV
  | 0, acc, _ => acc
  | n + 1, acc, x :: xs => takeR n (x :: acc) xs
  | _ + 1, acc, [] => acc
def dropN : Nat → List AV → List AV
  | 0, xs => xs
  | n + 1, _ :: xs => dropN n xs
  | _ + 1, [] => []
def pushR (r : AV) (st : List AV) : List AV := match r with
  | none => st
  | some v => some v :: st
def lkE (pc : Nat) : List cEn → Option (Instr × Nat × Nat × Int)
  | [] => none
  | e :: es => bif Nat.beq e.1 pc then some e.2 else lkE pc es
def codeAt (m pc : Nat) : Option (Instr × Nat × Nat × Int) := lkE pc (nth [] (nth2 [] cdT m) (pc / 16))
def nAr (m : Nat) : Nat := nth2 0 nAT m
def mLo (m : Nat) : Nat := nth2 0 mLT m
def rBo (m : Nat) : Nat := nth2 9 rBT m
def bInt (x : Int) : Prop := -2147483648 ≤ x ∧ x < 2147483648
def br (c : Prop) (A B : Prop) : Prop := (c → A) ∧ (¬ c → B)
def lcI (x y : Int) : Int := if x < y then -1 else if x = y then 0 else 1
def iAnd (x y : Int) : Int := (Int32.ofInt x &&& Int32.ofInt y).toInt
def iOr (x y : Int) : Int := (Int32.ofInt x ||| Int32.ofInt y).toInt
def iXor (x y : Int) : Int := (Int32.ofInt x ^^^ Int32.ofInt y).toInt
def iShl (x y : Int) : Int := (Int32.ofInt x <<< (Int32.ofInt y &&& 31)).toInt
def iShr (x y : Int) : Int := (Int32.ofInt x >>> (Int32.ofInt y &&& 31)).toInt
def iUshr (x y : Int) : Int := ((Int32.ofInt x).toUInt32 >>> ((Int32.ofInt y).toUInt32 &&& Int32.toUInt32 31)).toInt32.toInt
def iB (x : Int) : Int := (Int32.ofInt x).toInt8.toInt32.toInt
def lOr (x y : Int) : Int := (Int64.ofInt x ||| Int64.ofInt y).toInt
def lShl (x y : Int) : Int := (Int64.ofInt x <<< ((Int32.ofInt y).toInt64 &&& 63)).toInt
def lShr (x y : Int) : Int := (Int64.ofInt x >>> ((Int32.ofInt y).toInt64 &&& 63)).toInt
def xI1 (st : List AV) (f : Int → List AV → Prop) : Prop := match st with
  | some (.inl x) :: r => f x r
  | _ => False
def xI2 (st : List AV) (f : Int → Int → List AV → Prop) : Prop := match st with
  | some (.inl y) :: some (.inl x) :: r => f x y r
  | _ => False
def xL1 (st : List AV) (f : Int → List AV → Prop) : Prop := match st with
  | some (.inr (.inl x)) :: r => f x r
  | _ => False
def xL2 (st : List AV) (f : Int → Int → List AV → Prop) : Prop := match st with
  | some (.inr (.inl y)) :: some (.inr (.inl x)) :: r => f x y r
  | _ => False
def xLI (st : List AV) (f : Int → Int → List AV → Prop) : Prop := match st with
  | some (.inl y) :: some (.inr (.inl x)) :: r => f x y r
  | _ => False
def xA1 (st : List AV) (f : Nat → List AV → Prop) : Prop := match st with
  | some (.inr (.inr (some o))) :: r => f o r
  | _ => False
def xAI (st : List AV) (f : Nat → Int → List AV → Prop) : Prop := match st with
  | some (.inl i) :: some (.inr (.inr (some o))) :: r => f o i r
  | _ => False
def ldI (v : AV) (f : AV → Prop) : Prop := match v with
  | some (.inl x) => f (some (.inl x))
  | _ => False
def ldL (v : AV) (f : AV → Prop) : Prop := match v with
  | some (.inr (.inl x)) => f (some (.inr (.inl x)))
  | _ => False
def ldA (v : AV) (f : AV → Prop) : Prop := match v with
  | some (.inr (.inr x)) => f (some (.inr (.inr x)))
  | _ => False
def sw (x : Int) (f : Nat → Prop) (d : Nat) : List (Int × Nat) → Prop
  | [] => f d
  | (k, t) :: r => br (x = k) (f t) (sw x f d r)
def cndE (x y : Int) (c : Jvm.ClassFile.Cond) (A B : Prop) : Prop := match c with
  | .eq => br (x = y) A B
  | .ne => br (x ≠ y) A B
  | .lt => br (x < y) A B
  | .ge => br (y ≤ x) A B
  | .gt => br (y < x) A B
  | .le => br (x ≤ y) A B
/-- a field's value -/
def fgo (h : Hp) (o ci : Nat) (k : Int) (f : AV → Prop) : Prop := match Nat.beq (shK o) ci with
  | false => False
  | true => match fkOf ci k.toNat with
    | 0 => f (some (.inl (h o k)))
    | 1 => f (some (.inl (h o k)))
    | 2 => f (some (.inr (.inl (h o k))))
    | 3 => match shR o k.toNat with
      | some q => f (some (.inr (.inr (some q))))
      | none => False
    | _ => False
def pgo (h : Hp) (o ci : Nat) (k : Int) (v : AV) (f : Hp → Prop) : Prop := match Nat.beq (shK o) ci with
  | false => False
  | true => match fkOf ci k.toNat, v with
    | 0, some (.inl x) => f (hup h o k x)
    | 1, some (.inl x) => (x = 0 ∨ x = 1) ∧ f (hup h o k x)
    | 2, some (.inr (.inl x)) => f (hup h o k x)
    | _, _ => False
/-- a place of an array of kind t -/
def ago (o t : Nat) (i : Int) (f : Prop) : Prop := match Nat.beq (shK o) t with
  | false => False
  | true => (0 ≤ i ∧ i < (shN o : Int)) ∧ f
/-- bytes or booleans -/
def bgo (o : Nat) (i : Int) (f : Prop) : Prop := match shK o with
  | 101 => (0 ≤ i ∧ i < (shN o : Int)) ∧ f
  | 102 => (0 ≤ i ∧ i < (shN o : Int)) ∧ f
  | _ => False
def bsto (o : Nat) (i x : Int) (f : Prop) : Prop := match shK o with
  | 101 => ((0 ≤ i ∧ i < (shN o : Int)) ∧ (-128 ≤ x ∧ x < 128)) ∧ f
  | 102 => ((0 ≤ i ∧ i < (shN o : Int)) ∧ (x = 0 ∨ x = 1)) ∧ f
  | _ => False
def rgo (o : Nat) (i : Int) (f : AV → Prop) : Prop := match Nat.beq (shK o) 104 with
  | false => False
  | true => (0 ≤ i ∧ i < (shN o : Int)) ∧ (match shR o i.toNat with
    | some q => f (some (.inr (.inr (some q))))
    | none => False)
def lgo (o : Nat) (f : Int → Prop) : Prop := match Nat.ble 100 (shK o) && Nat.ble (shK o) 104 with
  | false => False
  | true => f (shN o : Int)
/-- the text of the words -/
def strB : List Int := [100, 114, 105, 101, 115, 32, 101, 114, 114, 115, 32, 102, 105, 110, 101, 32, 111, 110, 101, 32, 98, 114, 105, 109, 32, 115, 116, 97, 110, 100, 97, 114, 100, 32, 100, 111, 32, 119, 101, 101, 112, 32, 119, 97, 115, 104, 32, 112, 111, 117, 114, 32, 98, 101, 110, 100, 32, 115, 104, 114, 105, 110, 107, 32, 100, 97, 121, 32, 119, 104, 111, 32, 115, 116, 117, 102, 102, 32, 100, 101, 110, 116, 32, 114, 111, 111, 109, 32, 107, 105, 110, 100, 32, 100, 114, 111, 112, 115, 32, 99, 111, 105, 110, 115, 32, 116, 101, 97, 114, 115, 32, 111, 102, 32, 98, 121, 32, 97, 98, 111, 118, 101, 32, 98, 114, 105, 109, 115, 32, 105, 102, 32, 116, 104, 101, 110, 32, 101, 108, 115, 101, 32, 101, 110, 100, 32, 111, 114, 32, 97, 110, 100, 32, 110, 111, 116, 32]
def catS : List AV → Nat
  | [] => 0
  | some (.inr (.inl _)) :: r => 2 + catS r
  | _ :: r => 1 + catS r
def okC (a : Nat) (st : List AV) : Bool := Nat.ble (catS (dropN (nAr a) st)) 8 && (Nat.ble (ents (takeR (nAr a) [] st)).length (mLo a) && Nat.beq (takeR (nAr a) [] st).length (nAr a))
def okR (a : Nat) (st : List AV) : Bool := match takeR (nAr a) [] st with
  | some (.inr (.inr (some o))) :: _ => Nat.beq (shK o) (nth2 99 mCT a)
  | _ => false
def invM (PC : aCA) (go : aGO) (a nxt : Nat) (ls st : List AV) (h : Hp) : Prop := match okC a st with
  | false => False
  | true => PC a (pad (ents (takeR (nAr a) [] st)) (mLo a)) h (fun r h2 => go nxt ls (pushR r (dropN (nAr a) st)) h2)
def copyM (go : aGO) (nxt : Nat) (ls st : List AV) (h : Hp) : Prop := match st with
  | some (.inl n) :: some (.inl dp) :: some (.inr (.inr (some q))) :: some (.inl sp) :: some (.inr (.inr (some o))) :: r =>
    match Nat.beq (shK o) 100 && (Nat.beq (shK q) 100 && Nat.ble (catS r) 8) with
    | false => False
    | true => (0 ≤ sp ∧ 0 ≤ dp ∧ 0 ≤ n ∧ sp + n ≤ (shN o : Int) ∧ dp + n ≤ (shN q : Int)) ∧ go nxt ls r (hcp h o sp q dp n)
  | _ => False
def lenM (go : aGO) (nxt : Nat) (ls st : List AV) (h : Hp) : Prop := match st with
  | some (.inr (.inr (some 96))) :: r => match Nat.ble (catS r) 8 with
    | false => False
    | true => go nxt ls (vI 157 :: r) h
  | _ => False
def chrM (go : aGO) (nxt : Nat) (ls st : List AV) (h : Hp) : Prop := match st with
  | some (.inl i) :: some (.inr (.inr (some 96))) :: r => match Nat.ble (catS r) 8 with
    | false => False
    | true => (0 ≤ i ∧ i < 157) ∧ go nxt ls (vI (nth 0 strB i.toNat) :: r) h
  | _ => False
def maxM (go : aGO) (nxt : Nat) (ls st : List AV) (h : Hp) : Prop := xI2 st (fun x y r => match Nat.ble (catS r) 8 with
  | false => False
  | true => go nxt ls (vI (max x y) :: r) h)
def minM (go : aGO) (nxt : Nat) (ls st : List AV) (h : Hp) : Prop := xI2 st (fun x y r => match Nat.ble (catS r) 8 with
  | false => False
  | true => go nxt ls (vI (min x y) :: r) h)
def absM (go : aGO) (nxt : Nat) (ls st : List AV) (h : Hp) : Prop := xI1 st (fun x r => match Nat.ble (catS r) 8 with
  | false => False
  | true => (x ≠ -2147483648) ∧ go nxt ls (vI (if 0 ≤ x then x else 0 - x) :: r) h)
def invS (PC : aCA) (go : aGO) (a nxt : Nat) (ls st : List AV) (h : Hp) : Prop := match Nat.ble 1000 a with
  | false => invM PC go a nxt ls st h
  | true => match a - 1000 with
    | 0 => copyM go nxt ls st h
    | 3 => maxM go nxt ls st h
    | 4 => minM go nxt ls st h
    | 5 => absM go nxt ls st h
    | _ => False
def invV (PC : aCA) (go : aGO) (a nxt : Nat) (ls st : List AV) (h : Hp) : Prop := match Nat.beq a 1001 with
  | true => lenM go nxt ls st h
  | false => match Nat.beq a 1002 with
    | true => chrM go nxt ls st h
    | false => match okR a st with
      | false => False
      | true => invM PC go a nxt ls st h
def semI (PC : aCA) (go : aGO) (ins : Instr) (nxt a : Nat) (b : Int) (m : Nat) (ls st : List AV) (h : Hp) (Q : aPO) : Prop := match ins with
  | .iconst n => go nxt ls (vI n :: st) h
  | .bipush n => go nxt ls (vI n :: st) h
  | .sipush n => go nxt ls (vI n :: st) h
  | .lconst n => go nxt ls (vL (n.val : Int) :: st) h
  | .ldc _ => match a with
    | 0 => go nxt ls (vI b :: st) h
    | _ => go nxt ls (vA 96 :: st) h
  | .ldc_w _ => go nxt ls (vI b :: st) h
  | .ldc2_w _ => go nxt ls (vL b :: st) h
  | .iload_n k => ldI (lget ls k.val) (fun v => go nxt ls (v :: st) h)
  | .iload k => ldI (lget ls k) (fun v => go nxt ls (v :: st) h)
  | .lload_n k => ldL (lget ls k.val) (fun v => go nxt ls (v :: st) h)
  | .lload k => ldL (lget ls k) (fun v => go nxt ls (v :: st) h)
  | .aload_n k => ldA (lget ls k.val) (fun v => go nxt ls (v :: st) h)
  | .aload k => ldA (lget ls k) (fun v => go nxt ls (v :: st) h)
  | .istore_n k => xI1 st (fun x r => go nxt (stor ls k.val (vI x)) r h)
  | .istore k => xI1 st (fun x r => go nxt (stor ls k (vI x)) r h)
  | .lstore_n k => xL1 st (fun x r => go nxt (stor2 ls k.val (vL x)) r h)
  | .lstore k => xL1 st (fun x r => go nxt (stor2 ls k (vL x)) r h)
  | .astore_n k => xA1 st (fun x r => go nxt (stor ls k.val (vA x)) r h)
  | .astore k => xA1 st (fun x r => go nxt (stor ls k (vA x)) r h)
  | .iinc k n => match lget ls k with
    | some (.inl x) => (-2147483648 ≤ x + n ∧ x + n < 2147483648) ∧ go nxt (stor ls k (vI (x + n))) st h
    | _ => False
  | .iadd => xI2 st (fun x y r => (-2147483648 ≤ x + y ∧ x + y < 2147483648) ∧ go nxt ls (vI (x + y) :: r) h)
  | .isub => xI2 st (fun x y r => (-2147483648 ≤ x - y ∧ x - y < 2147483648) ∧ go nxt ls (vI (x - y) :: r) h)
  | .imul => xI2 st (fun x y r => (-2147483648 ≤ x * y ∧ x * y < 2147483648) ∧ go nxt ls (vI (x * y) :: r) h)
  | .idiv => xI2 st (fun x y r => (y ≠ 0 ∧ (0 ≤ x ∨ 0 ≤ y)) ∧ go nxt ls (vI (x.tdiv y) :: r) h)
  | .irem => xI2 st (fun x y r => (y ≠ 0 ∧ (0 ≤ x ∨ 0 ≤ y)) ∧ go nxt ls (vI (x.tmod y) :: r) h)
  | .ineg => xI1 st (fun x r => (x ≠ -2147483648) ∧ go nxt ls (vI (-x) :: r) h)
  | .iand => xI2 st (fun x y r => go nxt ls (vI (iAnd x y) :: r) h)
  | .ior => xI2 st (fun x y r => go nxt ls (vI (iOr x y) :: r) h)
  | .ixor => xI2 st (fun x y r => go nxt ls (vI (iXor x y) :: r) h)
  | .ishl => xI2 st (fun x y r => go nxt ls (vI (iShl x y) :: r) h)
  | .ishr => xI2 st (fun x y r => go nxt ls (vI (iShr x y) :: r) h)
  | .iushr => xI2 st (fun x y r => go nxt ls (vI (iUshr x y) :: r) h)
  | .ladd => xL2 st (fun x y r => (-9223372036854775808 ≤ x + y ∧ x + y < 9223372036854775808) ∧ go nxt ls (vL (x + y) :: r) h)
  | .lsub => xL2 st (fun x y r => (-9223372036854775808 ≤ x - y ∧ x - y < 9223372036854775808) ∧ go nxt ls (vL (x - y) :: r) h)
  | .lmul => xL2 st (fun x y r => (-9223372036854775808 ≤ x * y ∧ x * y < 9223372036854775808) ∧ go nxt ls (vL (x * y) :: r) h)
  | .ldiv => xL2 st (fun x y r => (y ≠ 0 ∧ (0 ≤ x ∨ 0 ≤ y)) ∧ go nxt ls (vL (x.tdiv y) :: r) h)
  | .lrem => xL2 st (fun x y r => (y ≠ 0 ∧ (0 ≤ x ∨ 0 ≤ y)) ∧ go nxt ls (vL (x.tmod y) :: r) h)
  | .lneg => xL1 st (fun x r => (x ≠ -9223372036854775808) ∧ go nxt ls (vL (-x) :: r) h)
  | .lor => xL2 st (fun x y r => go nxt ls (vL (lOr x y) :: r) h)
  | .lshl => xLI st (fun x y r => go nxt ls (vL (lShl x y) :: r) h)
  | .lshr => xLI st (fun x y r => go nxt ls (vL (lShr x y) :: r) h)
  | .lcmp => xL2 st (fun x y r => go nxt ls (vI (lcI x y) :: r) h)
  | .i2l => xI1 st (fun x r => go nxt ls (vL x :: r) h)
  | .l2i => xL1 st (fun x r => (-2147483648 ≤ x ∧ x < 2147483648) ∧ go nxt ls (vI x :: r) h)
  | .i2b => xI1 st (fun x r => go nxt ls (vI (iB x) :: r) h)
  | .dup => match st with
    | some (.inl x) :: r => go nxt ls (vI x :: vI x :: r) h
    | some (.inr (.inr x)) :: r => go nxt ls (some (.inr (.inr x)) :: some (.inr (.inr x)) :: r) h
    | _ => False
  | .dup2 => match st with
    | some (.inl x) :: some (.inr (.inr y)) :: r => go nxt ls (vI x :: some (.inr (.inr y)) :: vI x :: some (.inr (.inr y)) :: r) h
    | _ => False
  | .pop => xI1 st (fun _ r => go nxt ls r h)
  | .aconst_null => go nxt ls (vN :: st) h
  | .ifCond c _ => xI1 st (fun x r => cndE x 0 c (go a ls r h) (go nxt ls r h))
  | .if_icmp c _ => xI2 st (fun x y r => cndE x y c (go a ls r h) (go nxt ls r h))
  | .ifnull _ => match st with
    | some (.inr (.inr none)) :: r => go a ls r h
    | some (.inr (.inr (some _))) :: r => go nxt ls r h
    | _ => False
  | .goto _ => go a ls st h
  | .tableswitch _ _ _ _ => xI1 st (fun x r => sw x (fun t => go t ls r h) (nth (0, []) swT a).1 (nth (0, []) swT a).2)
  | .lookupswitch _ _ => xI1 st (fun x r => sw x (fun t => go t ls r h) (nth (0, []) swT a).1 (nth (0, []) swT a).2)
  | .getfield _ => xA1 st (fun o r => fgo h o a b (fun v => go nxt ls (v :: r) h))
  | .putfield _ => match st with
    | v :: some (.inr (.inr (some o))) :: r => pgo h o a b v (fun h2 => go nxt ls r h2)
    | _ => False
  | .iaload => xAI st (fun o i r => ago o 100 i (go nxt ls (vI (h o i) :: r) h))
  | .baload => xAI st (fun o i r => bgo o i (go nxt ls (vI (h o i) :: r) h))
  | .laload => xAI st (fun o i r => ago o 103 i (go nxt ls (vL (h o i) :: r) h))
  | .aaload => xAI st (fun o i r => rgo o i (fun v => go nxt ls (v :: r) h))
  | .iastore => xI1 st (fun x r => xAI r (fun o i r2 => ago o 100 i (go nxt ls r2 (hup h o i x))))
  | .bastore => xI1 st (fun x r => xAI r (fun o i r2 => bsto o i x (go nxt ls r2 (hup h o i x))))
  | .lastore => xL1 st (fun x r => xAI r (fun o i r2 => ago o 103 i (go nxt ls r2 (hup h o i x))))
  | .arraylength => xA1 st (fun o r => lgo o (fun n => go nxt ls (vI n :: r) h))
  | .invokestatic _ => invS PC go a nxt ls st h
  | .invokevirtual _ => invV PC go a nxt ls st h
  | .ireturn => match st with
    | [some (.inl x)] => match rBo m with
      | 1 => Q (vI x) h
      | 2 => (x = 0 ∨ x = 1) ∧ Q (vI x) h
      | _ => False
    | _ => False
  | .lreturn => match st with
    | [some (.inr (.inl x))] => match rBo m with
      | 3 => Q (vL x) h
      | _ => False
    | _ => False
  | .areturn => match st with
    | [some (.inr (.inr x))] => match rBo m with
      | 4 => Q (some (.inr (.inr x))) h
      | _ => False
    | _ => False
  | .return_ => match st with
    | [] => match rBo m with
      | 0 => Q none h
      | _ => False
    | _ => False
  | _ => False
def semM (PC : aCA) (go : aGO) (m pc : Nat) (ls st : List AV) (h : Hp) (Q : aPO) : Prop := match codeAt m pc with
  | some (ins, nxt, a, b) => semI PC go ins nxt a b m ls st h Q
  | none => False
abbrev aRL : Type := Nat → Nat → Nat → List AV → List AV → Hp → aPO → Prop
def inCall (X : aRL) (d : Nat) : aCA := match d with
  | 0 => fun _ _ _ _ => False
  | e + 1 => fun a ls h Q => X e a 0 ls [] h Q
def aShut (X : aRL) : Prop := (∀ d m pc ls st h Q Q', (∀ r h2, Q r h2 → Q' r h2) → X d m pc ls st h Q → X d m pc ls st h Q') ∧
  ∀ d m pc ls st h Q, semM (inCall X d) (fun pc ls st h => X d m pc ls st h Q) m pc ls st h Q → X d m pc ls st h Q
/-- from this frame the machine comes to its end, with an answer and a heap of Q -/
def Runs (d m pc : Nat) (ls st : List AV) (h : Hp) (Q : aPO) : Prop := ∀ X : aRL, aShut X → X d m pc ls st h Q
end
section
theorem br.mono {c A B A' B' : Prop} (hA : A → A') (hB : B → B') (h : br c A B) : br c A' B' := ⟨fun x => hA (h.1 x), fun x => hB (h.2 x)⟩
theorem xI1.mono {st : List AV} {f g : Int → List AV → Prop} (hf : ∀ x r, f x r → g x r) (h : xI1 st f) : xI1 st g := by
  unfold xI1 at h ⊢; split at h
  · exact hf _ _ h
  · exact h.elim
theorem xI2.mono {st : List AV} {f g : Int → Int → List AV → Prop} (hf : ∀ x y r, f x y r → g x y r) (h : xI2 st f) : xI2 st g := by
  unfold xI2 at h ⊢; split at h
  · exact hf _ _ _ h
  · exact h.elim
theorem xL1.mono {st : List AV} {f g : Int → List AV → Prop} (hf : ∀ x r, f x r → g x r) (h : xL1 st f) : xL1 st g := by
  unfold xL1 at h ⊢; split at h
  · exact hf _ _ h
  · exact h.elim
theorem xL2.mono {st : List AV} {f g : Int → Int → List AV → Prop} (hf : ∀ x y r, f x y r → g x y r) (h : xL2 st f) : xL2 st g := by
  unfold xL2 at h ⊢; split at h
  · exact hf _ _ _ h
  · exact h.elim
theorem xLI.mono {st : List AV} {f g : Int → Int → List AV → Prop} (hf : ∀ x y r, f x y r → g x y r) (h : xLI st f) : xLI st g := by
  unfold xLI at h ⊢; split at h
  · exact hf _ _ _ h
  · exact h.elim
theorem xA1.mono {st : List AV} {f g : Nat → List AV → Prop} (hf : ∀ x r, f x r → g x r) (h : xA1 st f) : xA1 st g := by
  unfold xA1 at h ⊢; split at h
  · exact hf _ _ h
  · exact h.elim
theorem xAI.mono {st : List AV} {f g : Nat → Int → List AV → Prop} (hf : ∀ x y r, f x y r → g x y r) (h : xAI st f) : xAI st g := by
  unfold xAI at h ⊢; split at h
  · exact hf _ _ _ h
  · exact h.elim
theorem ldI.mono {v : AV} {f g : AV → Prop} (hf : ∀ x, f x → g x) (h : ldI v f) : ldI v g := by
  unfold ldI at h ⊢; split at h
  · exact hf _ h
  · exact h.elim
theorem ldL.mono {v : AV} {f g : AV → Prop} (hf : ∀ x, f x → g x) (h : ldL v f) : ldL v g := by
  unfold ldL at h ⊢; split at h
  · exact hf _ h
  · exact h.elim
theorem ldA.mono {v : AV} {f g : AV → Prop} (hf : ∀ x, f x → g x) (h : ldA v f) : ldA v g := by
  unfold ldA at h ⊢; split at h
  · exact hf _ h
  · exact h.elim
theorem sw.mono {x : Int} {f g : Nat → Prop} {d : Nat} (hf : ∀ t, f t → g t) : ∀ {l : List (Int × Nat)}, sw x f d l → sw x g d l
  | [], h => hf _ h
  | (k, t) :: r, h => br.mono (hf t) (sw.mono hf) h
theorem cndE.mono {x y : Int} {c : Jvm.ClassFile.Cond} {A B A' B' : Prop} (hA : A → A') (hB : B → B') (h : cndE x y c A B) : cndE x y c A' B' := by
  cases c <;> exact br.mono hA hB h
theorem fgo.mono {h : Hp} {o ci : Nat} {k : Int} {f g : AV → Prop} (hf : ∀ v, f v → g v) (hh : fgo h o ci k f) : fgo h o ci k g := by
  unfold fgo at hh ⊢
  split at hh
  · exact hh.elim
  · split at hh
    · exact hf _ hh
    · exact hf _ hh
    · exact hf _ hh
    · split at hh
      · exact hf _ hh
      · exact hh.elim
    · exact hh.elim
theorem pgo.mono {h : Hp} {o ci : Nat} {k : Int} {v : AV} {f g : Hp → Prop} (hf : ∀ v, f v → g v) (hh : pgo h o ci k v f) : pgo h o ci k v g := by
  unfold pgo at hh ⊢
  split at hh
  · exact hh.elim
  · split at hh
    · exact hf _ hh
    · exact ⟨hh.1, hf _ hh.2⟩
    · exact hf _ hh
    · exact hh.elim
theorem ago.mono {o t : Nat} {i : Int} {f g : Prop} (hf : f → g) (hh : ago o t i f) : ago o t i g := by
  unfold ago at hh ⊢
  split at hh
  · exact hh.elim
  · exact ⟨hh.1, hf hh.2⟩
theorem bgo.mono {o : Nat} {i : Int} {f g : Prop} (hf : f → g) (hh : bgo o i f) : bgo o i g := by
  unfold bgo at hh ⊢
  split at hh
  · exact ⟨hh.1, hf hh.2⟩
  · exact ⟨hh.1, hf hh.2⟩
  · exact hh.elim
theorem bsto.mono {o : Nat} {i x : Int} {f g : Prop} (hf : f → g) (hh : bsto o i x f) : bsto o i x g := by
  unfold bsto at hh ⊢
  split at hh
  · exact ⟨hh.1, hf hh.2⟩
  · exact ⟨hh.1, hf hh.2⟩
  · exact hh.elim
theorem rgo.mono {o : Nat} {i : Int} {f g : AV → Prop} (hf : ∀ v, f v → g v) (hh : rgo o i f) : rgo o i g := by
  unfold rgo at hh ⊢
  split at hh
  · exact hh.elim
  · refine ⟨hh.1, ?_⟩
    have h2 := hh.2
    split at h2
    · exact hf _ h2
    · exact h2.elim
theorem lgo.mono {o : Nat} {f g : Int → Prop} (hf : ∀ v, f v → g v) (hh : lgo o f) : lgo o g := by
  unfold lgo at hh ⊢
  split at hh
  · exact hh.elim
  · exact hf _ hh
theorem and.mono {A B C : Prop} (hf : B → C) (h : A ∧ B) : A ∧ C := ⟨h.1, hf h.2⟩
theorem copyM.mono {go go' : aGO} {nxt : Nat} {ls st : List AV} {h : Hp} (hf : ∀ a b c d, go a b c d → go' a b c d) (hh : copyM go nxt ls st h) : copyM go' nxt ls st h := by
  unfold copyM at hh ⊢
  split at hh
  · split at hh
    · exact hh.elim
    · exact ⟨hh.1, hf _ _ _ _ hh.2⟩
  · exact hh.elim
theorem lenM.mono {go go' : aGO} {nxt : Nat} {ls st : List AV} {h : Hp} (hf : ∀ a b c d, go a b c d → go' a b c d) (hh : lenM go nxt ls st h) : lenM go' nxt ls st h := by
  unfold lenM at hh ⊢
  split at hh
  · split at hh
    · exact hh.elim
    · exact hf _ _ _ _ hh
  · exact hh.elim
theorem chrM.mono {go go' : aGO} {nxt : Nat} {ls st : List AV} {h : Hp} (hf : ∀ a b c d, go a b c d → go' a b c d) (hh : chrM go nxt ls st h) : chrM go' nxt ls st h := by
  unfold chrM at hh ⊢
  split at hh
  · split at hh
    · exact hh.elim
    · exact ⟨hh.1, hf _ _ _ _ hh.2⟩
  · exact hh.elim
theorem invM.mono {PC PC' : aCA} {go go' : aGO} {a nxt : Nat} {ls st : List AV} {h : Hp} (hf : ∀ a b c d, go a b c d → go' a b c d) (hP : ∀ a ls h Q1 Q2, (∀ r h2, Q1 r h2 → Q2 r h2) → PC a ls h Q1 → PC' a ls h Q2) (hh : invM PC go a nxt ls st h) : invM PC' go' a nxt ls st h := by
  unfold invM at hh ⊢
  split at hh
  · exact hh.elim
  · exact hP _ _ _ _ _ (fun _ _ q => hf _ _ _ _ q) hh
theorem invS.mono {PC PC' : aCA} {go go' : aGO} {a nxt : Nat} {ls st : List AV} {h : Hp} (hf : ∀ a b c d, go a b c d → go' a b c d) (hP : ∀ a ls h Q1 Q2, (∀ r h2, Q1 r h2 → Q2 r h2) → PC a ls h Q1 → PC' a ls h Q2) (hh : invS PC go a nxt ls st h) : invS PC' go' a nxt ls st h := by
  unfold invS at hh ⊢
  split at hh
  · exact invM.mono hf hP hh
  · split at hh
    · exact copyM.mono hf hh
    · refine xI2.mono (fun _ _ _ q => ?_) hh
      split at q
      · exact q
      · exact hf _ _ _ _ q
    · refine xI2.mono (fun _ _ _ q => ?_) hh
      split at q
      · exact q
      · exact hf _ _ _ _ q
    · refine xI1.mono (fun _ _ q => ?_) hh
      split at q
      · exact q
      · exact ⟨q.1, hf _ _ _ _ q.2⟩
    · exact hh
theorem invV.mono {PC PC' : aCA} {go go' : aGO} {a nxt : Nat} {ls st : List AV} {h : Hp} (hf : ∀ a b c d, go a b c d → go' a b c d) (hP : ∀ a ls h Q1 Q2, (∀ r h2, Q1 r h2 → Q2 r h2) → PC a ls h Q1 → PC' a ls h Q2) (hh : invV PC go a nxt ls st h) : invV PC' go' a nxt ls st h := by
  unfold invV at hh ⊢
  split at hh
  · exact lenM.mono hf hh
  · split at hh
    · exact chrM.mono hf hh
    · split at hh
      · exact hh.elim
      · exact invM.mono hf hP hh
set_option maxHeartbeats 4000000 in
theorem semI.mono {PC PC' : aCA} {go go' : aGO} {ins : Instr} {nxt a : Nat} {b : Int} {m : Nat} {ls st : List AV} {h : Hp} {Q Q' : aPO} (hf : ∀ a b c d, go a b c d → go' a b c d) (hP : ∀ a ls h Q1 Q2, (∀ r h2, Q1 r h2 → Q2 r h2) → PC a ls h Q1 → PC' a ls h Q2) (hQ : ∀ r h2, Q r h2 → Q' r h2)
    (hs : semI PC go ins nxt a b m ls st h Q) : semI PC' go' ins nxt a b m ls st h Q' := by
  cases ins <;> dsimp only [semI] at hs ⊢ <;> first
    | exact hs.elim
    | exact hf _ _ _ _ hs
    | exact ldI.mono (fun _ q => hf _ _ _ _ q) hs
    | exact ldL.mono (fun _ q => hf _ _ _ _ q) hs
    | exact ldA.mono (fun _ q => hf _ _ _ _ q) hs
    | exact xI1.mono (fun _ _ q => hf _ _ _ _ q) hs
    | exact xL1.mono (fun _ _ q => hf _ _ _ _ q) hs
    | exact xA1.mono (fun _ _ q => hf _ _ _ _ q) hs
    | exact xI2.mono (fun _ _ _ q => ⟨q.1, hf _ _ _ _ q.2⟩) hs
    | exact xI2.mono (fun _ _ _ q => hf _ _ _ _ q) hs
    | exact xL2.mono (fun _ _ _ q => ⟨q.1, hf _ _ _ _ q.2⟩) hs
    | exact xL2.mono (fun _ _ _ q => hf _ _ _ _ q) hs
    | exact xLI.mono (fun _ _ _ q => hf _ _ _ _ q) hs
    | exact xI1.mono (fun _ _ q => ⟨q.1, hf _ _ _ _ q.2⟩) hs
    | exact xL1.mono (fun _ _ q => ⟨q.1, hf _ _ _ _ q.2⟩) hs
    | exact xI1.mono (fun _ _ q => cndE.mono (hf _ _ _ _) (hf _ _ _ _) q) hs
    | exact xI2.mono (fun _ _ _ q => cndE.mono (hf _ _ _ _) (hf _ _ _ _) q) hs
    | exact xI1.mono (fun _ _ q => sw.mono (fun _ => hf _ _ _ _) q) hs
    | exact xA1.mono (fun _ _ q => fgo.mono (fun _ => hf _ _ _ _) q) hs
    | exact xA1.mono (fun _ _ q => lgo.mono (fun _ => hf _ _ _ _) q) hs
    | exact xAI.mono (fun _ _ _ q => ago.mono (hf _ _ _ _) q) hs
    | exact xAI.mono (fun _ _ _ q => bgo.mono (hf _ _ _ _) q) hs
    | exact xAI.mono (fun _ _ _ q => rgo.mono (fun _ => hf _ _ _ _) q) hs
    | exact xI1.mono (fun _ _ q => xAI.mono (fun _ _ _ q => ago.mono (hf _ _ _ _) q) q) hs
    | exact xL1.mono (fun _ _ q => xAI.mono (fun _ _ _ q => ago.mono (hf _ _ _ _) q) q) hs
    | exact xI1.mono (fun _ _ q => xAI.mono (fun _ _ _ q => bsto.mono (hf _ _ _ _) q) q) hs
    | exact invS.mono hf hP hs
    | exact invV.mono hf hP hs
    | (split at hs <;> first | exact hf _ _ _ _ hs | exact ⟨hs.1, hf _ _ _ _ hs.2⟩ | exact pgo.mono (fun _ => hf _ _ _ _) hs | exact hs.elim | (split at hs <;> first | exact hQ _ _ hs | exact ⟨hs.1, hQ _ _ hs.2⟩ | exact hs.elim))
theorem semM.mono {PC PC' : aCA} {go go' : aGO} {m pc : Nat} {ls st : List AV} {h : Hp} {Q Q' : aPO} (hf : ∀ a b c d, go a b c d → go' a b c d) (hP : ∀ a ls h Q1 Q2, (∀ r h2, Q1 r h2 → Q2 r h2) → PC a ls h Q1 → PC' a ls h Q2) (hQ : ∀ r h2, Q r h2 → Q' r h2)
    (hs : semM PC go m pc ls st h Q) : semM PC' go' m pc ls st h Q' := by
  unfold semM at hs ⊢
  split at hs
  · exact semI.mono hf hP hQ hs
  · exact hs.elim
theorem Runs.mono {d m pc : Nat} {ls st : List AV} {h : Hp} {Q Q' : aPO} (hQ : ∀ r h2, Q r h2 → Q' r h2) (hr : Runs d m pc ls st h Q) : Runs d m pc ls st h Q' :=
  fun X hX => hX.1 _ _ _ _ _ _ _ _ hQ (hr X hX)
theorem inCall.mono {X Y : aRL} {d : Nat} (hY : ∀ d m pc ls st h Q Q', (∀ r h2, Q r h2 → Q' r h2) → Y d m pc ls st h Q → Y d m pc ls st h Q') (hXY : ∀ d m pc ls st h Q, X d m pc ls st h Q → Y d m pc ls st h Q) : ∀ a ls h Q1 Q2, (∀ r h2, Q1 r h2 → Q2 r h2) → inCall X d a ls h Q1 → inCall Y d a ls h Q2 := by
  intro a ls h Q1 Q2 hQ hs
  cases d with
  | zero => exact hs
  | succ e => exact hY _ _ _ _ _ _ _ _ hQ (hXY _ _ _ _ _ _ _ hs)
theorem Runs.step {d m pc : Nat} {ls st : List AV} {h : Hp} {Q : aPO} (hs : semM (inCall Runs d) (fun pc ls st h => Runs d m pc ls st h Q) m pc ls st h Q) : Runs d m pc ls st h Q := by
  intro X hX
  refine hX.2 _ _ _ _ _ _ _ (semM.mono (fun a b c d q => q X hX) (inCall.mono hX.1 (fun _ _ _ _ _ _ _ q => q X hX)) (fun _ _ q => q) hs)
/-- n steps at once, up to the places of cuts -/
def wps (cuts : List Nat) (d m : Nat) (Q : aPO) : Nat → aGO
  | 0 => fun pc ls st h => Runs d m pc ls st h Q
  | n + 1 => fun pc ls st h => semM (inCall Runs d) (fun pc2 ls2 st2 h2 => bif cuts.any (Nat.beq pc2) then Runs d m pc2 ls2 st2 h2 Q else wps cuts d m Q n pc2 ls2 st2 h2) m pc ls st h Q
theorem Runs.go (n : Nat) (cuts : List Nat) {d m pc : Nat} {ls st : List AV} {h : Hp} {Q : aPO} (hs : wps cuts d m Q n pc ls st h) : Runs d m pc ls st h Q := by
  induction n generalizing pc ls st h with
  | zero => exact hs
  | succ n ih =>
    refine Runs.step (semM.mono (fun a b c e q => ?_) (inCall.mono (fun _ _ _ _ _ _ _ _ => Runs.mono) (fun _ _ _ _ _ _ _ q => q)) (fun _ _ q => q) hs)
    cases hc : cuts.any (Nat.beq a) with
    | true => rw [hc] at q; exact q
    | false => rw [hc] at q; exact ih q
end
section
theorem i32 {x : Int} (h1 : -2147483648 ≤ x) (h2 : x < 2147483648) : (Int32.ofInt x).toInt = x := by
  rw [Int32.toInt_ofInt]
  show Int.bmod x 4294967296 = x
  exact Int.bmod_eq_of_le (by omega) (by omega)
theorem i64 {x : Int} (h1 : -9223372036854775808 ≤ x) (h2 : x < 9223372036854775808) : (Int64.ofInt x).toInt = x := by
  rw [Int64.toInt_ofInt]
  show Int.bmod x 18446744073709551616 = x
  exact Int.bmod_eq_of_le (by omega) (by omega)
theorem i32r (x : Int32) : -2147483648 ≤ x.toInt ∧ x.toInt < 2147483648 := ⟨by have := Int32.minValue_le_toInt x; simpa using this, by have := Int32.toInt_lt x; simpa using this⟩
theorem i64r (x : Int64) : -9223372036854775808 ≤ x.toInt ∧ x.toInt < 9223372036854775808 := ⟨by have := Int64.le_toInt x; simpa using this, by have := Int64.toInt_lt x; simpa using this⟩
theorem i32back (x : Int32) : Int32.ofInt x.toInt = x := Int32.ofInt_toInt x
theorem i64back (x : Int64) : Int64.ofInt x.toInt = x := Int64.ofInt_toInt x
theorem i32eq {x y : Int} (hx : -2147483648 ≤ x ∧ x < 2147483648) (hy : -2147483648 ≤ y ∧ y < 2147483648) : Int32.ofInt x = Int32.ofInt y ↔ x = y := by
  rw [← Int32.toInt_inj, i32 hx.1 hx.2, i32 hy.1 hy.2]
theorem i32lt {x y : Int} (hx : -2147483648 ≤ x ∧ x < 2147483648) (hy : -2147483648 ≤ y ∧ y < 2147483648) : Int32.ofInt x < Int32.ofInt y ↔ x < y := by
  rw [Int32.lt_iff_toInt_lt, i32 hx.1 hx.2, i32 hy.1 hy.2]
theorem i32le {x y : Int} (hx : -2147483648 ≤ x ∧ x < 2147483648) (hy : -2147483648 ≤ y ∧ y < 2147483648) : Int32.ofInt x ≤ Int32.ofInt y ↔ x ≤ y := by
  rw [Int32.le_iff_toInt_le, i32 hx.1 hx.2, i32 hy.1 hy.2]
theorem i64eq {x y : Int} (hx : -9223372036854775808 ≤ x ∧ x < 9223372036854775808) (hy : -9223372036854775808 ≤ y ∧ y < 9223372036854775808) : Int64.ofInt x = Int64.ofInt y ↔ x = y := by
  rw [← Int64.toInt_inj, i64 hx.1 hx.2, i64 hy.1 hy.2]
theorem i64lt {x y : Int} (hx : -9223372036854775808 ≤ x ∧ x < 9223372036854775808) (hy : -9223372036854775808 ≤ y ∧ y < 9223372036854775808) : Int64.ofInt x < Int64.ofInt y ↔ x < y := by
  rw [Int64.lt_iff_toInt_lt, i64 hx.1 hx.2, i64 hy.1 hy.2]
theorem tdivR {x y M : Int} (hx : -M ≤ x ∧ x < M) (h : y ≠ 0 ∧ (0 ≤ x ∨ 0 ≤ y)) : -M ≤ x.tdiv y ∧ x.tdiv y < M := by
  have h1 : (x.tdiv y).natAbs ≤ x.natAbs := by rw [Int.natAbs_tdiv]; exact Nat.div_le_self _ _
  rcases h.2 with g | g
  · constructor <;> omega
  · have : 0 < y := by omega
    by_cases hz : 0 ≤ x
    · constructor <;> omega
    · have h3 : 0 ≤ (-x).tdiv y := Int.tdiv_nonneg (by omega) (by omega)
      rw [Int.neg_tdiv] at h3
      have h2 : x.tdiv y ≤ 0 := by omega
      constructor <;> omega
theorem i32div {x y : Int} (hx : -2147483648 ≤ x ∧ x < 2147483648) (hy : -2147483648 ≤ y ∧ y < 2147483648) (h : y ≠ 0 ∧ (0 ≤ x ∨ 0 ≤ y)) : Int32.ofInt x / Int32.ofInt y = Int32.ofInt (x.tdiv y) := by
  apply Int32.toInt_inj.mp
  have g := tdivR (M := 2147483648) hx h
  rw [Int32.toInt_div, i32 hx.1 hx.2, i32 hy.1 hy.2, i32 g.1 g.2]
  exact Int.bmod_eq_of_le (by omega) (by omega)
theorem i64div {x y : Int} (hx : -9223372036854775808 ≤ x ∧ x < 9223372036854775808) (hy : -9223372036854775808 ≤ y ∧ y < 9223372036854775808) (h : y ≠ 0 ∧ (0 ≤ x ∨ 0 ≤ y)) : Int64.ofInt x / Int64.ofInt y = Int64.ofInt (x.tdiv y) := by
  apply Int64.toInt_inj.mp
  have g := tdivR (M := 9223372036854775808) hx h
  rw [Int64.toInt_div, i64 hx.1 hx.2, i64 hy.1 hy.2, i64 g.1 g.2]
  exact Int.bmod_eq_of_le (by omega) (by omega)
theorem i32rem {x y : Int} (hx : -2147483648 ≤ x ∧ x < 2147483648) (hy : -2147483648 ≤ y ∧ y < 2147483648) (h : y ≠ 0 ∧ (0 ≤ x ∨ 0 ≤ y)) : Int32.ofInt x - Int32.ofInt x / Int32.ofInt y * Int32.ofInt y = Int32.ofInt (x.tmod y) := by
  rw [i32div hx hy h, ← Int32.ofInt_mul, ← Int32.ofInt_sub]
  congr 1
  have := Int.tmod_add_mul_tdiv x y
  have e : x.tdiv y * y = y * x.tdiv y := Int.mul_comm _ _
  omega
theorem i64rem {x y : Int} (hx : -9223372036854775808 ≤ x ∧ x < 9223372036854775808) (hy : -9223372036854775808 ≤ y ∧ y < 9223372036854775808) (h : y ≠ 0 ∧ (0 ≤ x ∨ 0 ≤ y)) : Int64.ofInt x - Int64.ofInt x / Int64.ofInt y * Int64.ofInt y = Int64.ofInt (x.tmod y) := by
  rw [i64div hx hy h, ← Int64.ofInt_mul, ← Int64.ofInt_sub]
  congr 1
  have := Int.tmod_add_mul_tdiv x y
  have e : x.tdiv y * y = y * x.tdiv y := Int.mul_comm _ _
  omega
theorem tmodR {x y M : Int} (hx : -M ≤ x ∧ x < M) (h : y ≠ 0 ∧ (0 ≤ x ∨ 0 ≤ y)) : -M ≤ x.tmod y ∧ x.tmod y < M := by
  have h1 : (x.tmod y).natAbs ≤ x.natAbs := by rw [Int.natAbs_tmod]; exact Nat.mod_le _ _
  by_cases hz : 0 ≤ x
  · constructor <;> omega
  · have h3 : 0 ≤ (-x).tmod y := Int.tmod_nonneg _ (by omega)
    rw [Int.neg_tmod] at h3
    have h2 : x.tmod y ≤ 0 := by omega
    constructor <;> omega
theorem i32to64 {x : Int} (hx : -2147483648 ≤ x ∧ x < 2147483648) : (Int32.ofInt x).toInt64 = Int64.ofInt x := by
  apply Int64.toInt_inj.mp
  rw [Int32.toInt_toInt64, i32 hx.1 hx.2, i64 (by omega) (by omega)]
theorem i64to32 {x : Int} (hx : -2147483648 ≤ x ∧ x < 2147483648) : (Int64.ofInt x).toInt32 = Int32.ofInt x := by
  apply Int32.toInt_inj.mp
  rw [Int64.toInt_toInt32, i32 hx.1 hx.2, i64 (by omega) (by omega)]
  exact Int.bmod_eq_of_le (by omega) (by omega)
theorem i32neg {x : Int} : -(Int32.ofInt x) = Int32.ofInt (-x) := (Int32.ofInt_neg x).symm
theorem i64neg {x : Int} : -(Int64.ofInt x) = Int64.ofInt (-x) := (Int64.ofInt_neg x).symm
theorem i64cmp {x y : Int} (hx : -9223372036854775808 ≤ x ∧ x < 9223372036854775808) (hy : -9223372036854775808 ≤ y ∧ y < 9223372036854775808) : lg_cmp (Int64.ofInt x) (Int64.ofInt y) = Int32.ofInt (lcI x y) := by
  unfold lg_cmp lcI
  simp only [gt_iff_lt, i64lt hy hx, i64eq hx hy]
  by_cases h1 : x < y
  · rw [if_neg (by omega), if_neg (by omega), if_pos h1]; rfl
  · rw [if_neg h1]
    by_cases h2 : x = y
    · rw [if_neg (by omega), if_pos h2, if_pos h2]; rfl
    · rw [if_pos (by omega), if_neg h2]; rfl
theorem i32clamp {i : Int} (h0 : 0 ≤ i) (h1 : i < 2147483648) : (Int32.ofInt i).toNatClampNeg = i.toNat := by
  show (Int32.ofInt i).toInt.toNat = _
  rw [i32 (by omega) h1]
theorem i32in {i : Int} {n : Nat} (h0 : 0 ≤ i) (h1 : i < (n : Int)) (hn : n < 2147483648) : vp_in (Int32.ofInt i) n := by
  unfold vp_in
  rw [i32clamp h0 (by omega)]
  have e : (0 : Int32) = Int32.ofInt 0 := rfl
  rw [e, i32lt (by omega) (by omega)]
  omega
end
section
def mi (m : Nat) : cMi := nth2 (⟨"", "", ""⟩, ⟨#[]⟩, 0, none, false, []) mtT m
def mNm (m : Nat) : MethodName := (mi m).1
def mBy (m : Nat) : ByteArray := (mi m).2.1
def mRt (m : Nat) : Option FieldType := (mi m).2.2.2.1
def mSt (m : Nat) : Bool := (mi m).2.2.2.2.1
def mOw (m : Nat) : Nat := nth2 99 mOT m
def mCi (m : Nat) : Nat := nth2 99 mCT m
def ownN (w : Nat) : String := nth "" ownT w
def clN (c : Nat) : String := (nth ("", (fun _ => ("", "", "", false)), 0) fcs c).1
def clT (c : Nat) : u_T := (nth ("", (fun _ => ("", "", "", false)), 0) fcs c).2.1
def clM (c : Nat) : Nat := (nth ("", (fun _ => ("", "", "", false)), 0) fcs c).2.2
def clY (c : Nat) : Nat → FieldType := nth (fun _ => .int) fys c
/-- the words by their parts -/
def tpW (k : Nat) : List Cond := match k with
  | 0 => k2_sels lw_privs
  | 1 => tables_1_1
  | 2 => tables_1_2
  | 3 => tables_1_3
  | 4 => tables_1_4
  | 5 => tables_1_5
  | 6 => tables_1_6
  | 7 => tables_1_7
  | 8 => tables_1_8
  | _ => []
theorem tpW_in {k : Nat} {w : Cond} (h : w ∈ tpW k) : w ∈ lw_tbl := by
  unfold tpW at h
  show w ∈ k2_sels lw_privs ++ (tables_1_1 ++ (tables_1_2 ++ (tables_1_3 ++ (tables_1_4 ++ (tables_1_5 ++ (tables_1_6 ++ (tables_1_7 ++ tables_1_8)))))))
  simp only [List.mem_append]
  split at h <;> first | (simp only [h, true_or, or_true]; done) | cases h
def tpA (q : Nat × Nat) : Option Cond := (tpW q.1)[q.2]?
theorem tpA_in {q : Nat × Nat} {w : Cond} (h : tpA q = some w) : w ∈ lw_tbl := tpW_in (List.mem_of_getElem? h)
def flL (w : Nat) : List (Nat × Nat × Nat) := (nth [] flW w).map (fun e => e.1)
def mlL (w : Nat) : List (Nat × Nat) := (nth [] mlW w).map (fun e => e.1)
def mnL (w : Nat) : List (Nat × Nat) := (nth [] mnW w).map (fun e => e.1)
def acL : List (Nat × Nat) := acW.map (fun e => e.1)
def kcL : List (Nat × Nat × Int) := kcW.map (fun e => e.1)
def klL : List (Nat × Nat × Int) := klW.map (fun e => e.1)
def miC (m : Nat) (q : cMi) : Cond := .code q.1 q.2.1 q.2.2.1 q.2.2.2.1
def miH (q : cMi) (i : Nat) : Option Cond := tpA (nth (99, 0) q.2.2.2.2.2 i)
def miO (q : cMi) : List (Option Cond) := match q.2.2.2.2.1 with
  | true => [miH q 0, miH q 1, miH q 2]
  | false => [miH q 0, miH q 1, miH q 2, miH q 3]
def miR (q : cMi) : List (Option Cond) := match q.2.2.2.2.1 with
  | true => [some (.code q.1 q.2.1 q.2.2.1 q.2.2.2.1), some (.initialized q.1.cls), some (.static q.1)]
  | false => [some (.code q.1 q.2.1 q.2.2.1 q.2.2.2.1), some (.initialized q.1.cls), some (.instanceMethod q.1), some (.selects q.1.cls q.1 q.1)]
set_option maxRecDepth 100000 in
theorem ckC0 : (nth [] mtT 0).map miO = (nth [] mtT 0).map miR := rfl
set_option maxRecDepth 100000 in
theorem ckC1 : (nth [] mtT 1).map miO = (nth [] mtT 1).map miR := rfl
set_option maxRecDepth 100000 in
theorem ckC2 : (nth [] mtT 2).map miO = (nth [] mtT 2).map miR := rfl
set_option maxRecDepth 100000 in
theorem ckC3 : (nth [] mtT 3).map miO = (nth [] mtT 3).map miR := rfl
set_option maxRecDepth 100000 in
theorem ckC4 : (nth [] mtT 4).map miO = (nth [] mtT 4).map miR := rfl
set_option maxRecDepth 100000 in
theorem ckC5 : (nth [] mtT 5).map miO = (nth [] mtT 5).map miR := rfl
set_option maxRecDepth 100000 in
theorem ckC6 : (nth [] mtT 6).map miO = (nth [] mtT 6).map miR := rfl
set_option maxRecDepth 100000 in
theorem ckC7 : (nth [] mtT 7).map miO = (nth [] mtT 7).map miR := rfl
set_option maxRecDepth 100000 in
theorem ckC8 : (nth [] mtT 8).map miO = (nth [] mtT 8).map miR := rfl
set_option maxRecDepth 100000 in
theorem ckC9 : (nth [] mtT 9).map miO = (nth [] mtT 9).map miR := rfl
set_option maxRecDepth 100000 in
theorem ckC10 : (nth [] mtT 10).map miO = (nth [] mtT 10).map miR := rfl
set_option maxRecDepth 100000 in
theorem ckC11 : (nth [] mtT 11).map miO = (nth [] mtT 11).map miR := rfl
set_option maxRecDepth 100000 in
theorem ckC12 : (nth [] mtT 12).map miO = (nth [] mtT 12).map miR := rfl
set_option maxRecDepth 100000 in
theorem ckC13 : (nth [] mtT 13).map miO = (nth [] mtT 13).map miR := rfl
set_option maxRecDepth 100000 in
theorem ckC14 : (nth [] mtT 14).map miO = (nth [] mtT 14).map miR := rfl
set_option maxRecDepth 100000 in
theorem ckC15 : (nth [] mtT 15).map miO = (nth [] mtT 15).map miR := rfl
set_option maxRecDepth 100000 in
theorem ckC16 : (nth [] mtT 16).map miO = (nth [] mtT 16).map miR := rfl
set_option maxRecDepth 100000 in
theorem ckC17 : (nth [] mtT 17).map miO = (nth [] mtT 17).map miR := rfl
set_option maxRecDepth 100000 in
theorem ckC18 : (nth [] mtT 18).map miO = (nth [] mtT 18).map miR := rfl
set_option maxRecDepth 100000 in
theorem ckC19 : (nth [] mtT 19).map miO = (nth [] mtT 19).map miR := rfl
set_option maxRecDepth 100000 in
theorem ckF0 : (nth [] flW 0).map (fun e => tpA e.2) = (nth [] flW 0).map (fun e => some (Cond.fieldLink (ownN 0) e.1.1 (clN e.1.2.1) ((clT e.1.2.1) e.1.2.2).2.1 ((clT e.1.2.1) e.1.2.2).2.2.1)) := rfl
set_option maxRecDepth 100000 in
theorem ckL0 : (nth [] mlW 0).map (fun e => tpA e.2) = (nth [] mlW 0).map (fun e => some (Cond.methodLink (ownN 0) e.1.1 (mNm e.1.2))) := rfl
set_option maxRecDepth 100000 in
theorem ckN0 : (nth [] mnW 0).map (fun e => tpA e.2) = (nth [] mnW 0).map (fun e => some (Cond.methodLinkNest (ownN 0) e.1.1 (mNm e.1.2) "ThimbleLaw")) := rfl
set_option maxRecDepth 100000 in
theorem ckF1 : (nth [] flW 1).map (fun e => tpA e.2) = (nth [] flW 1).map (fun e => some (Cond.fieldLink (ownN 1) e.1.1 (clN e.1.2.1) ((clT e.1.2.1) e.1.2.2).2.1 ((clT e.1.2.1) e.1.2.2).2.2.1)) := rfl
set_option maxRecDepth 100000 in
theorem ckL1 : (nth [] mlW 1).map (fun e => tpA e.2) = (nth [] mlW 1).map (fun e => some (Cond.methodLink (ownN 1) e.1.1 (mNm e.1.2))) := rfl
set_option maxRecDepth 100000 in
theorem ckN1 : (nth [] mnW 1).map (fun e => tpA e.2) = (nth [] mnW 1).map (fun e => some (Cond.methodLinkNest (ownN 1) e.1.1 (mNm e.1.2) "ThimbleLaw")) := rfl
set_option maxRecDepth 100000 in
theorem ckF2 : (nth [] flW 2).map (fun e => tpA e.2) = (nth [] flW 2).map (fun e => some (Cond.fieldLink (ownN 2) e.1.1 (clN e.1.2.1) ((clT e.1.2.1) e.1.2.2).2.1 ((clT e.1.2.1) e.1.2.2).2.2.1)) := rfl
set_option maxRecDepth 100000 in
theorem ckL2 : (nth [] mlW 2).map (fun e => tpA e.2) = (nth [] mlW 2).map (fun e => some (Cond.methodLink (ownN 2) e.1.1 (mNm e.1.2))) := rfl
set_option maxRecDepth 100000 in
theorem ckN2 : (nth [] mnW 2).map (fun e => tpA e.2) = (nth [] mnW 2).map (fun e => some (Cond.methodLinkNest (ownN 2) e.1.1 (mNm e.1.2) "ThimbleLaw")) := rfl
set_option maxRecDepth 100000 in
theorem ckF3 : (nth [] flW 3).map (fun e => tpA e.2) = (nth [] flW 3).map (fun e => some (Cond.fieldLink (ownN 3) e.1.1 (clN e.1.2.1) ((clT e.1.2.1) e.1.2.2).2.1 ((clT e.1.2.1) e.1.2.2).2.2.1)) := rfl
set_option maxRecDepth 100000 in
theorem ckL3 : (nth [] mlW 3).map (fun e => tpA e.2) = (nth [] mlW 3).map (fun e => some (Cond.methodLink (ownN 3) e.1.1 (mNm e.1.2))) := rfl
set_option maxRecDepth 100000 in
theorem ckN3 : (nth [] mnW 3).map (fun e => tpA e.2) = (nth [] mnW 3).map (fun e => some (Cond.methodLinkNest (ownN 3) e.1.1 (mNm e.1.2) "ThimbleLaw")) := rfl
set_option maxRecDepth 100000 in
theorem ckF4 : (nth [] flW 4).map (fun e => tpA e.2) = (nth [] flW 4).map (fun e => some (Cond.fieldLink (ownN 4) e.1.1 (clN e.1.2.1) ((clT e.1.2.1) e.1.2.2).2.1 ((clT e.1.2.1) e.1.2.2).2.2.1)) := rfl
set_option maxRecDepth 100000 in
theorem ckL4 : (nth [] mlW 4).map (fun e => tpA e.2) = (nth [] mlW 4).map (fun e => some (Cond.methodLink (ownN 4) e.1.1 (mNm e.1.2))) := rfl
set_option maxRecDepth 100000 in
theorem ckN4 : (nth [] mnW 4).map (fun e => tpA e.2) = (nth [] mnW 4).map (fun e => some (Cond.methodLinkNest (ownN 4) e.1.1 (mNm e.1.2) "ThimbleLaw")) := rfl
set_option maxRecDepth 100000 in
theorem ckF5 : (nth [] flW 5).map (fun e => tpA e.2) = (nth [] flW 5).map (fun e => some (Cond.fieldLink (ownN 5) e.1.1 (clN e.1.2.1) ((clT e.1.2.1) e.1.2.2).2.1 ((clT e.1.2.1) e.1.2.2).2.2.1)) := rfl
set_option maxRecDepth 100000 in
theorem ckL5 : (nth [] mlW 5).map (fun e => tpA e.2) = (nth [] mlW 5).map (fun e => some (Cond.methodLink (ownN 5) e.1.1 (mNm e.1.2))) := rfl
set_option maxRecDepth 100000 in
theorem ckN5 : (nth [] mnW 5).map (fun e => tpA e.2) = (nth [] mnW 5).map (fun e => some (Cond.methodLinkNest (ownN 5) e.1.1 (mNm e.1.2) "ThimbleLaw")) := rfl
set_option maxRecDepth 100000 in
theorem ckF6 : (nth [] flW 6).map (fun e => tpA e.2) = (nth [] flW 6).map (fun e => some (Cond.fieldLink (ownN 6) e.1.1 (clN e.1.2.1) ((clT e.1.2.1) e.1.2.2).2.1 ((clT e.1.2.1) e.1.2.2).2.2.1)) := rfl
set_option maxRecDepth 100000 in
theorem ckL6 : (nth [] mlW 6).map (fun e => tpA e.2) = (nth [] mlW 6).map (fun e => some (Cond.methodLink (ownN 6) e.1.1 (mNm e.1.2))) := rfl
set_option maxRecDepth 100000 in
theorem ckN6 : (nth [] mnW 6).map (fun e => tpA e.2) = (nth [] mnW 6).map (fun e => some (Cond.methodLinkNest (ownN 6) e.1.1 (mNm e.1.2) "ThimbleLaw")) := rfl
set_option maxRecDepth 100000 in
theorem ckF7 : (nth [] flW 7).map (fun e => tpA e.2) = (nth [] flW 7).map (fun e => some (Cond.fieldLink (ownN 7) e.1.1 (clN e.1.2.1) ((clT e.1.2.1) e.1.2.2).2.1 ((clT e.1.2.1) e.1.2.2).2.2.1)) := rfl
set_option maxRecDepth 100000 in
theorem ckL7 : (nth [] mlW 7).map (fun e => tpA e.2) = (nth [] mlW 7).map (fun e => some (Cond.methodLink (ownN 7) e.1.1 (mNm e.1.2))) := rfl
set_option maxRecDepth 100000 in
theorem ckN7 : (nth [] mnW 7).map (fun e => tpA e.2) = (nth [] mnW 7).map (fun e => some (Cond.methodLinkNest (ownN 7) e.1.1 (mNm e.1.2) "ThimbleLaw")) := rfl
set_option maxRecDepth 100000 in
theorem ckF8 : (nth [] flW 8).map (fun e => tpA e.2) = (nth [] flW 8).map (fun e => some (Cond.fieldLink (ownN 8) e.1.1 (clN e.1.2.1) ((clT e.1.2.1) e.1.2.2).2.1 ((clT e.1.2.1) e.1.2.2).2.2.1)) := rfl
set_option maxRecDepth 100000 in
theorem ckL8 : (nth [] mlW 8).map (fun e => tpA e.2) = (nth [] mlW 8).map (fun e => some (Cond.methodLink (ownN 8) e.1.1 (mNm e.1.2))) := rfl
set_option maxRecDepth 100000 in
theorem ckN8 : (nth [] mnW 8).map (fun e => tpA e.2) = (nth [] mnW 8).map (fun e => some (Cond.methodLinkNest (ownN 8) e.1.1 (mNm e.1.2) "ThimbleLaw")) := rfl
set_option maxRecDepth 100000 in
theorem ckF9 : (nth [] flW 9).map (fun e => tpA e.2) = (nth [] flW 9).map (fun e => some (Cond.fieldLink (ownN 9) e.1.1 (clN e.1.2.1) ((clT e.1.2.1) e.1.2.2).2.1 ((clT e.1.2.1) e.1.2.2).2.2.1)) := rfl
set_option maxRecDepth 100000 in
theorem ckL9 : (nth [] mlW 9).map (fun e => tpA e.2) = (nth [] mlW 9).map (fun e => some (Cond.methodLink (ownN 9) e.1.1 (mNm e.1.2))) := rfl
set_option maxRecDepth 100000 in
theorem ckN9 : (nth [] mnW 9).map (fun e => tpA e.2) = (nth [] mnW 9).map (fun e => some (Cond.methodLinkNest (ownN 9) e.1.1 (mNm e.1.2) "ThimbleLaw")) := rfl
set_option maxRecDepth 100000 in
theorem ckF10 : (nth [] flW 10).map (fun e => tpA e.2) = (nth [] flW 10).map (fun e => some (Cond.fieldLink (ownN 10) e.1.1 (clN e.1.2.1) ((clT e.1.2.1) e.1.2.2).2.1 ((clT e.1.2.1) e.1.2.2).2.2.1)) := rfl
set_option maxRecDepth 100000 in
theorem ckL10 : (nth [] mlW 10).map (fun e => tpA e.2) = (nth [] mlW 10).map (fun e => some (Cond.methodLink (ownN 10) e.1.1 (mNm e.1.2))) := rfl
set_option maxRecDepth 100000 in
theorem ckN10 : (nth [] mnW 10).map (fun e => tpA e.2) = (nth [] mnW 10).map (fun e => some (Cond.methodLinkNest (ownN 10) e.1.1 (mNm e.1.2) "ThimbleLaw")) := rfl
set_option maxRecDepth 100000 in
theorem ckF11 : (nth [] flW 11).map (fun e => tpA e.2) = (nth [] flW 11).map (fun e => some (Cond.fieldLink (ownN 11) e.1.1 (clN e.1.2.1) ((clT e.1.2.1) e.1.2.2).2.1 ((clT e.1.2.1) e.1.2.2).2.2.1)) := rfl
set_option maxRecDepth 100000 in
theorem ckL11 : (nth [] mlW 11).map (fun e => tpA e.2) = (nth [] mlW 11).map (fun e => some (Cond.methodLink (ownN 11) e.1.1 (mNm e.1.2))) := rfl
set_option maxRecDepth 100000 in
theorem ckN11 : (nth [] mnW 11).map (fun e => tpA e.2) = (nth [] mnW 11).map (fun e => some (Cond.methodLinkNest (ownN 11) e.1.1 (mNm e.1.2) "ThimbleLaw")) := rfl
set_option maxRecDepth 100000 in
theorem ckF12 : (nth [] flW 12).map (fun e => tpA e.2) = (nth [] flW 12).map (fun e => some (Cond.fieldLink (ownN 12) e.1.1 (clN e.1.2.1) ((clT e.1.2.1) e.1.2.2).2.1 ((clT e.1.2.1) e.1.2.2).2.2.1)) := rfl
set_option maxRecDepth 100000 in
theorem ckL12 : (nth [] mlW 12).map (fun e => tpA e.2) = (nth [] mlW 12).map (fun e => some (Cond.methodLink (ownN 12) e.1.1 (mNm e.1.2))) := rfl
set_option maxRecDepth 100000 in
theorem ckN12 : (nth [] mnW 12).map (fun e => tpA e.2) = (nth [] mnW 12).map (fun e => some (Cond.methodLinkNest (ownN 12) e.1.1 (mNm e.1.2) "ThimbleLaw")) := rfl
theorem ckA : acW.map (fun e => tpA e.2) = acW.map (fun e => some (Cond.methodLink (ownN e.1.1) e.1.2 arraycopyName)) := rfl
def maN (i : Nat) : MethodName := match i with
  | 0 => Lib.Math.max.name
  | 1 => Lib.Math.min.name
  | _ => Lib.Math.abs.name
theorem ckMa : maW.map (fun e => tpA e.2) = maW.map (fun e => some (Cond.methodLink (ownN e.1.1) e.1.2.1 (maN e.1.2.2))) := rfl
theorem ckMa2 : maH.map tpA = [some (Cond.initialized "java/lang/Math"), some (Cond.static Lib.Math.max.name), some (Cond.static Lib.Math.min.name), some (Cond.static Lib.Math.abs.name), some (Cond.code Lib.Math.max.name Lib.Math.max.code 2 (some .int)), some (Cond.code Lib.Math.min.name Lib.Math.min.code 2 (some .int)), some (Cond.code Lib.Math.abs.name Lib.Math.abs.code 1 (some .int))] := rfl
def maL : List (Nat × Nat × Nat) := maW.map (fun e => e.1)
theorem ckA2 : acH.map tpA = [some (Cond.native arraycopyName), some (Cond.static arraycopyName), some (Cond.initialized "java/lang/System")] := rfl
theorem ckK : kcW.map (fun e => tpA e.2) = kcW.map (fun e => some (Cond.constant (ownN e.1.1) e.1.2.1 (Int32.ofInt e.1.2.2))) := by decide +kernel
theorem ckJ : klW.map (fun e => tpA e.2) = klW.map (fun e => some (Cond.constantLong (ownN e.1.1) e.1.2.1 (Int64.ofInt e.1.2.2))) := by decide +kernel
theorem ckK2 : kcW.all (fun e => decide (-2147483648 ≤ e.1.2.2 ∧ e.1.2.2 < 2147483648)) = true := by decide +kernel
theorem ckJ2 : klW.all (fun e => decide (-9223372036854775808 ≤ e.1.2.2 ∧ e.1.2.2 < 9223372036854775808)) = true := by decide +kernel
set_option maxRecDepth 100000 in
theorem ckW0 : (nth [] uwH 0).map tpA = (u_ws (clN 0) (clT 0) (clM 0)).map some := rfl
set_option maxRecDepth 100000 in
theorem ckW1 : (nth [] uwH 1).map tpA = (u_ws (clN 1) (clT 1) (clM 1)).map some := rfl
set_option maxRecDepth 100000 in
theorem ckW2 : (nth [] uwH 2).map tpA = (u_ws (clN 2) (clT 2) (clM 2)).map some := rfl
set_option maxRecDepth 100000 in
theorem ckW3 : (nth [] uwH 3).map tpA = (u_ws (clN 3) (clT 3) (clM 3)).map some := rfl
set_option maxRecDepth 100000 in
theorem ckW4 : (nth [] uwH 4).map tpA = (u_ws (clN 4) (clT 4) (clM 4)).map some := rfl
set_option maxRecDepth 100000 in
theorem ckW5 : (nth [] uwH 5).map tpA = (u_ws (clN 5) (clT 5) (clM 5)).map some := rfl
set_option maxRecDepth 100000 in
theorem ckW6 : (nth [] uwH 6).map tpA = (u_ws (clN 6) (clT 6) (clM 6)).map some := rfl
set_option maxRecDepth 100000 in
theorem ckW7 : (nth [] uwH 7).map tpA = (u_ws (clN 7) (clT 7) (clM 7)).map some := rfl
set_option maxRecDepth 100000 in
theorem ckW8 : (nth [] uwH 8).map tpA = (u_ws (clN 8) (clT 8) (clM 8)).map some := rfl
set_option maxRecDepth 100000 in
theorem ckW9 : (nth [] uwH 9).map tpA = (u_ws (clN 9) (clT 9) (clM 9)).map some := rfl
theorem ckY : ∀ c, c < 10 → ∀ k, k < clM c → parseFieldDescriptor ((clT c) k).2.2.1 = some (clY c k) := by decide +kernel
theorem ckX : ∀ c, c < 10 → ∀ a, a < clM c → ∀ b, b < clM c → a ≠ b → ((clT c) a).2.1 ≠ ((clT c) b).2.1 := by decide +kernel
theorem ckD : ∀ c, c < 10 → ∀ k, k < clM c → ((clT c) k).1 = clN c := by decide +kernel
theorem ckFb : ∀ w, w < 13 → (flL w).all (fun e => decide (e.2.1 < 10 ∧ e.2.2 < clM e.2.1)) = true := by decide +kernel
theorem ckLb : ∀ w, w < 13 → (mlL w).all (fun e => decide (e.2 < nMe)) = true := by decide +kernel
theorem ckNb : ∀ w, w < 13 → (mnL w).all (fun e => decide (e.2 < nMe)) = true := by decide +kernel
def rtOK (m : Nat) : Bool := match rBo m with
  | 0 => decide (mRt m = none)
  | 1 => decide (mRt m = some .int)
  | 2 => decide (mRt m = some .boolean)
  | 3 => decide (mRt m = some .long)
  | 4 => decide (mRt m = some (.object "ThimbleLaw$Text"))
  | _ => false
def goodM (m : Nat) : Bool := decide (ownN (mOw m) = (mNm m).cls) && (Jvm.plainName (mNm m).cls && (decide ((mNm m).cls ≠ "java/lang/invoke/MethodHandle" ∧ (mNm m).cls ≠ "java/lang/invoke/VarHandle") && (rtOK m && (decide (mLo m ≤ 12 ∧ mLo m = (mi m).2.2.1 ∧ mOw m < 13) && (match mSt m with
  | true => decide ((parseMethodDescriptor (mNm m).desc).map (fun d => d.parameters.length) = some (nAr m))
  | false => (decide (mCi m < 10 ∧ clN (mCi m) = (mNm m).cls) && decide ((parseMethodDescriptor (mNm m).desc).map (fun d => d.parameters.length + 1) = some (nAr m))))))))
set_option maxRecDepth 100000 in
theorem ckM : (List.range nMe).all goodM = true := by decide +kernel
/-- the kinds of fields: the type, and whether it is final -/
def fkOK (c k : Nat) : Bool := match fkOf c k with
  | 0 => decide (clY c k = .int) && !((clT c) k).2.2.2
  | 1 => decide (clY c k = .boolean) && !((clT c) k).2.2.2
  | 2 => decide (clY c k = .long) && !((clT c) k).2.2.2
  | 3 => true
  | _ => false
theorem ckT : ∀ c, c < 10 → ∀ k, k < clM c → fkOK c k = true := by decide +kernel
/-- the objects: an object has as many fields as its kind -/
theorem ckO : ∀ o, o < nOb → (shK o < 10 ∧ shN o = clM (shK o)) ∨ (100 ≤ shK o ∧ shK o ≤ 104 ∧ shN o < 2147483648) := by decide +kernel
def swOK (pc : Nat) (a : Nat) (d lo hi : Int) (offs : List Int) : Bool :=
  decide (((nth (0, []) swT a).1 : Int) = (pc : Int) + d ∧ (nth (0, []) swT a).2.map (fun q => (q.1, (q.2 : Int))) = offs.zipIdx.map (fun q => (lo + (q.2 : Int), (pc : Int) + q.1)) ∧ hi + 1 = lo + (offs.length : Int))
def lkOK (pc : Nat) (a : Nat) (d : Int) (ps : List (Int × Int)) : Bool :=
  decide (((nth (0, []) swT a).1 : Int) = (pc : Int) + d ∧ (nth (0, []) swT a).2.map (fun q => (q.1, (q.2 : Int))) = ps.map (fun q => (q.1, (pc : Int) + q.2))) && (ps.zip (ps.drop 1)).all (fun (x, y) => x.1 < y.1)
def goodI (m pc : Nat) (ins : Instr) (nxt a : Nat) (b : Int) : Bool := match ins with
  | .iconst n => decide (nxt = pc + 1 ∧ -2147483648 ≤ n ∧ n < 2147483648)
  | .bipush n => decide (nxt = pc + 2 ∧ (-2147483648 ≤ n ∧ n < 2147483648) ∧ (Int8.ofInt n).toInt32 = Int32.ofInt n)
  | .sipush n => decide (nxt = pc + 3 ∧ (-2147483648 ≤ n ∧ n < 2147483648) ∧ (Int16.ofInt n).toInt32 = Int32.ofInt n)
  | .ldc i => decide (nxt = pc + 2) && (match a with
    | 0 => kcL.contains (mOw m, i, b)
    | _ => decide (mOw m = 5 ∧ i = 88))
  | .ldc_w i => decide (nxt = pc + 3) && kcL.contains (mOw m, i, b)
  | .ldc2_w i => decide (nxt = pc + 3) && klL.contains (mOw m, i, b)
  | .iload _ | .lload _ | .aload _ => decide (nxt = pc + 2)
  | .istore_n k => decide (nxt = pc + 1 ∧ k.val < mLo m)
  | .astore_n k => decide (nxt = pc + 1 ∧ k.val < mLo m)
  | .istore k => decide (nxt = pc + 2 ∧ k < mLo m)
  | .astore k => decide (nxt = pc + 2 ∧ k < mLo m)
  | .lstore_n k => decide (nxt = pc + 1 ∧ k.val + 1 < mLo m)
  | .lstore k => decide (nxt = pc + 2 ∧ k + 1 < mLo m)
  | .iinc k _ => decide (nxt = pc + 3 ∧ k < mLo m)
  | .ifCond _ o => decide (nxt = pc + 3 ∧ (pc : Int) + o = (a : Int))
  | .if_icmp _ o => decide (nxt = pc + 3 ∧ (pc : Int) + o = (a : Int))
  | .ifnull o => decide (nxt = pc + 3 ∧ (pc : Int) + o = (a : Int))
  | .goto o => decide (nxt = pc + 3 ∧ (pc : Int) + o = (a : Int))
  | .tableswitch d lo hi offs => swOK pc a d lo hi offs.toList
  | .lookupswitch d ps => lkOK pc a d ps.toList
  | .getfield i => decide (nxt = pc + 3 ∧ 0 ≤ b) && (flL (mOw m)).contains (i, a, b.toNat)
  | .putfield i => decide (nxt = pc + 3 ∧ 0 ≤ b) && (flL (mOw m)).contains (i, a, b.toNat)
  | .invokestatic i => decide (nxt = pc + 3) && (bif Nat.ble 1000 a then (match a - 1000 with | 0 => acL.contains (mOw m, i) | 3 => maL.contains (mOw m, i, 0) | 4 => maL.contains (mOw m, i, 1) | 5 => maL.contains (mOw m, i, 2) | _ => false) else mSt a && ((mlL (mOw m)).contains (i, a) || (mnL (mOw m)).contains (i, a)))
  | .invokevirtual i => decide (nxt = pc + 3) && (bif Nat.beq a 1001 then decide (mOw m = 5 ∧ i = 90) else bif Nat.beq a 1002 then decide (mOw m = 5 ∧ i = 95) else !mSt a && (mlL (mOw m)).contains (i, a))
  | _ => decide (nxt = pc + 1)
def goodE (m : Nat) (e : cEn) : Bool := decide (decode (mBy m) e.1 = .ok (e.2.1, e.2.2.1 - e.1)) && goodI m e.1 e.2.1 e.2.2.1 e.2.2.2.1 e.2.2.2.2
def goodC (m : Nat) : Bool := (nth2 [] cdT m).all (fun c => c.all (goodE m))
end
section
set_option maxRecDepth 100000 in
theorem ckE0 : (List.range' 0 5).all goodC = true := by decide +kernel
set_option maxRecDepth 100000 in
theorem ckE1 : (List.range' 5 15).all goodC = true := by decide +kernel
set_option maxRecDepth 100000 in
theorem ckE2 : (List.range' 20 6).all goodC = true := by decide +kernel
set_option maxRecDepth 100000 in
theorem ckE3 : (List.range' 26 7).all goodC = true := by decide +kernel
set_option maxRecDepth 100000 in
theorem ckE4 : (List.range' 33 7).all goodC = true := by decide +kernel
set_option maxRecDepth 100000 in
theorem ckE5 : (List.range' 40 10).all goodC = true := by decide +kernel
set_option maxRecDepth 100000 in
theorem ckE6 : (List.range' 50 5).all goodC = true := by decide +kernel
end
section
set_option maxRecDepth 100000 in
theorem ckE7 : (List.range' 55 4).all goodC = true := by decide +kernel
set_option maxRecDepth 100000 in
theorem ckE8 : (List.range' 59 6).all goodC = true := by decide +kernel
set_option maxRecDepth 100000 in
theorem ckE9 : (List.range' 65 1).all goodC = true := by decide +kernel
set_option maxRecDepth 100000 in
theorem ckE10 : (List.range' 66 4).all goodC = true := by decide +kernel
set_option maxRecDepth 100000 in
theorem ckE11 : (List.range' 70 5).all goodC = true := by decide +kernel
set_option maxRecDepth 100000 in
theorem ckE12 : (List.range' 75 9).all goodC = true := by decide +kernel
set_option maxRecDepth 100000 in
theorem ckE13 : (List.range' 84 1).all goodC = true := by decide +kernel
set_option maxRecDepth 100000 in
theorem ckE14 : (List.range' 85 6).all goodC = true := by decide +kernel
end
section
set_option maxRecDepth 100000 in
theorem ckE15 : (List.range' 91 4).all goodC = true := by decide +kernel
set_option maxRecDepth 100000 in
theorem ckE16 : (List.range' 95 3).all goodC = true := by decide +kernel
set_option maxRecDepth 100000 in
theorem ckE17 : (List.range' 98 1).all goodC = true := by decide +kernel
set_option maxRecDepth 100000 in
theorem ckE18 : (List.range' 99 8).all goodC = true := by decide +kernel
set_option maxRecDepth 100000 in
theorem ckE19 : (List.range' 107 19).all goodC = true := by decide +kernel
set_option maxRecDepth 100000 in
theorem ckE20 : (List.range' 126 9).all goodC = true := by decide +kernel
set_option maxRecDepth 100000 in
theorem ckE21 : (List.range' 135 7).all goodC = true := by decide +kernel
set_option maxRecDepth 100000 in
theorem ckE22 : (List.range' 142 13).all goodC = true := by decide +kernel
end
section
set_option maxRecDepth 100000 in
theorem ckE23 : (List.range' 155 21).all goodC = true := by decide +kernel
set_option maxRecDepth 100000 in
theorem ckE24 : (List.range' 176 12).all goodC = true := by decide +kernel
set_option maxRecDepth 100000 in
theorem ckE25 : (List.range' 188 1).all goodC = true := by decide +kernel
set_option maxRecDepth 100000 in
theorem ckE26 : (List.range' 189 8).all goodC = true := by decide +kernel
set_option maxRecDepth 100000 in
theorem ckE27 : (List.range' 197 7).all goodC = true := by decide +kernel
set_option maxRecDepth 100000 in
theorem ckE28 : (List.range' 204 2).all goodC = true := by decide +kernel
set_option maxRecDepth 100000 in
theorem ckE29 : (List.range' 206 3).all goodC = true := by decide +kernel
set_option maxRecDepth 100000 in
theorem ckE30 : (List.range' 209 7).all goodC = true := by decide +kernel
end
section
set_option maxRecDepth 100000 in
theorem ckE31 : (List.range' 216 1).all goodC = true := by decide +kernel
set_option maxRecDepth 100000 in
theorem ckE32 : (List.range' 217 1).all goodC = true := by decide +kernel
set_option maxRecDepth 100000 in
theorem ckE33 : (List.range' 218 1).all goodC = true := by decide +kernel
set_option maxRecDepth 100000 in
theorem ckE34 : (List.range' 219 7).all goodC = true := by decide +kernel
set_option maxRecDepth 100000 in
theorem ckE35 : (List.range' 226 4).all goodC = true := by decide +kernel
set_option maxRecDepth 100000 in
theorem ckE36 : (List.range' 230 1).all goodC = true := by decide +kernel
set_option maxRecDepth 100000 in
theorem ckE37 : (List.range' 231 7).all goodC = true := by decide +kernel
set_option maxRecDepth 100000 in
theorem ckE38 : (List.range' 238 1).all goodC = true := by decide +kernel
set_option maxRecDepth 100000 in
theorem ckE39 : (List.range' 239 7).all goodC = true := by decide +kernel
set_option maxRecDepth 100000 in
theorem ckE40 : (List.range' 246 7).all goodC = true := by decide +kernel
end
section
set_option maxRecDepth 100000 in
theorem ckE41 : (List.range' 253 2).all goodC = true := by decide +kernel
set_option maxRecDepth 100000 in
theorem ckE42 : (List.range' 255 3).all goodC = true := by decide +kernel
set_option maxRecDepth 100000 in
theorem ckE43 : (List.range' 258 7).all goodC = true := by decide +kernel
set_option maxRecDepth 100000 in
theorem ckE44 : (List.range' 265 7).all goodC = true := by decide +kernel
set_option maxRecDepth 100000 in
theorem ckE45 : (List.range' 272 5).all goodC = true := by decide +kernel
set_option maxRecDepth 100000 in
theorem ckE46 : (List.range' 277 7).all goodC = true := by decide +kernel
set_option maxRecDepth 100000 in
theorem ckE47 : (List.range' 284 4).all goodC = true := by decide +kernel
set_option maxRecDepth 100000 in
theorem ckE48 : (List.range' 288 5).all goodC = true := by decide +kernel
end
section
set_option maxRecDepth 100000 in
theorem ckE49 : (List.range' 293 6).all goodC = true := by decide +kernel
set_option maxRecDepth 100000 in
theorem ckE50 : (List.range' 299 4).all goodC = true := by decide +kernel
set_option maxRecDepth 100000 in
theorem ckE51 : (List.range' 303 5).all goodC = true := by decide +kernel
theorem ckE {m : Nat} (h : m < nMe) : goodC m = true := by
  have h : m < 308 := h
  by_cases c0 : m < 5
  · exact List.all_eq_true.mp ckE0 m (List.mem_range'_1.mpr ⟨by omega, by omega⟩)
  by_cases c1 : m < 20
  · exact List.all_eq_true.mp ckE1 m (List.mem_range'_1.mpr ⟨by omega, by omega⟩)
  by_cases c2 : m < 26
  · exact List.all_eq_true.mp ckE2 m (List.mem_range'_1.mpr ⟨by omega, by omega⟩)
  by_cases c3 : m < 33
  · exact List.all_eq_true.mp ckE3 m (List.mem_range'_1.mpr ⟨by omega, by omega⟩)
  by_cases c4 : m < 40
  · exact List.all_eq_true.mp ckE4 m (List.mem_range'_1.mpr ⟨by omega, by omega⟩)
  by_cases c5 : m < 50
  · exact List.all_eq_true.mp ckE5 m (List.mem_range'_1.mpr ⟨by omega, by omega⟩)
  by_cases c6 : m < 55
  · exact List.all_eq_true.mp ckE6 m (List.mem_range'_1.mpr ⟨by omega, by omega⟩)
  by_cases c7 : m < 59
  · exact List.all_eq_true.mp ckE7 m (List.mem_range'_1.mpr ⟨by omega, by omega⟩)
  by_cases c8 : m < 65
  · exact List.all_eq_true.mp ckE8 m (List.mem_range'_1.mpr ⟨by omega, by omega⟩)
  by_cases c9 : m < 66
  · exact List.all_eq_true.mp ckE9 m (List.mem_range'_1.mpr ⟨by omega, by omega⟩)
  by_cases c10 : m < 70
  · exact List.all_eq_true.mp ckE10 m (List.mem_range'_1.mpr ⟨by omega, by omega⟩)
  by_cases c11 : m < 75
  · exact List.all_eq_true.mp ckE11 m (List.mem_range'_1.mpr ⟨by omega, by omega⟩)
  by_cases c12 : m < 84
  · exact List.all_eq_true.mp ckE12 m (List.mem_range'_1.mpr ⟨by omega, by omega⟩)
  by_cases c13 : m < 85
  · exact List.all_eq_true.mp ckE13 m (List.mem_range'_1.mpr ⟨by omega, by omega⟩)
  by_cases c14 : m < 91
  · exact List.all_eq_true.mp ckE14 m (List.mem_range'_1.mpr ⟨by omega, by omega⟩)
  by_cases c15 : m < 95
  · exact List.all_eq_true.mp ckE15 m (List.mem_range'_1.mpr ⟨by omega, by omega⟩)
  by_cases c16 : m < 98
  · exact List.all_eq_true.mp ckE16 m (List.mem_range'_1.mpr ⟨by omega, by omega⟩)
  by_cases c17 : m < 99
  · exact List.all_eq_true.mp ckE17 m (List.mem_range'_1.mpr ⟨by omega, by omega⟩)
  by_cases c18 : m < 107
  · exact List.all_eq_true.mp ckE18 m (List.mem_range'_1.mpr ⟨by omega, by omega⟩)
  by_cases c19 : m < 126
  · exact List.all_eq_true.mp ckE19 m (List.mem_range'_1.mpr ⟨by omega, by omega⟩)
  by_cases c20 : m < 135
  · exact List.all_eq_true.mp ckE20 m (List.mem_range'_1.mpr ⟨by omega, by omega⟩)
  by_cases c21 : m < 142
  · exact List.all_eq_true.mp ckE21 m (List.mem_range'_1.mpr ⟨by omega, by omega⟩)
  by_cases c22 : m < 155
  · exact List.all_eq_true.mp ckE22 m (List.mem_range'_1.mpr ⟨by omega, by omega⟩)
  by_cases c23 : m < 176
  · exact List.all_eq_true.mp ckE23 m (List.mem_range'_1.mpr ⟨by omega, by omega⟩)
  by_cases c24 : m < 188
  · exact List.all_eq_true.mp ckE24 m (List.mem_range'_1.mpr ⟨by omega, by omega⟩)
  by_cases c25 : m < 189
  · exact List.all_eq_true.mp ckE25 m (List.mem_range'_1.mpr ⟨by omega, by omega⟩)
  by_cases c26 : m < 197
  · exact List.all_eq_true.mp ckE26 m (List.mem_range'_1.mpr ⟨by omega, by omega⟩)
  by_cases c27 : m < 204
  · exact List.all_eq_true.mp ckE27 m (List.mem_range'_1.mpr ⟨by omega, by omega⟩)
  by_cases c28 : m < 206
  · exact List.all_eq_true.mp ckE28 m (List.mem_range'_1.mpr ⟨by omega, by omega⟩)
  by_cases c29 : m < 209
  · exact List.all_eq_true.mp ckE29 m (List.mem_range'_1.mpr ⟨by omega, by omega⟩)
  by_cases c30 : m < 216
  · exact List.all_eq_true.mp ckE30 m (List.mem_range'_1.mpr ⟨by omega, by omega⟩)
  by_cases c31 : m < 217
  · exact List.all_eq_true.mp ckE31 m (List.mem_range'_1.mpr ⟨by omega, by omega⟩)
  by_cases c32 : m < 218
  · exact List.all_eq_true.mp ckE32 m (List.mem_range'_1.mpr ⟨by omega, by omega⟩)
  by_cases c33 : m < 219
  · exact List.all_eq_true.mp ckE33 m (List.mem_range'_1.mpr ⟨by omega, by omega⟩)
  by_cases c34 : m < 226
  · exact List.all_eq_true.mp ckE34 m (List.mem_range'_1.mpr ⟨by omega, by omega⟩)
  by_cases c35 : m < 230
  · exact List.all_eq_true.mp ckE35 m (List.mem_range'_1.mpr ⟨by omega, by omega⟩)
  by_cases c36 : m < 231
  · exact List.all_eq_true.mp ckE36 m (List.mem_range'_1.mpr ⟨by omega, by omega⟩)
  by_cases c37 : m < 238
  · exact List.all_eq_true.mp ckE37 m (List.mem_range'_1.mpr ⟨by omega, by omega⟩)
  by_cases c38 : m < 239
  · exact List.all_eq_true.mp ckE38 m (List.mem_range'_1.mpr ⟨by omega, by omega⟩)
  by_cases c39 : m < 246
  · exact List.all_eq_true.mp ckE39 m (List.mem_range'_1.mpr ⟨by omega, by omega⟩)
  by_cases c40 : m < 253
  · exact List.all_eq_true.mp ckE40 m (List.mem_range'_1.mpr ⟨by omega, by omega⟩)
  by_cases c41 : m < 255
  · exact List.all_eq_true.mp ckE41 m (List.mem_range'_1.mpr ⟨by omega, by omega⟩)
  by_cases c42 : m < 258
  · exact List.all_eq_true.mp ckE42 m (List.mem_range'_1.mpr ⟨by omega, by omega⟩)
  by_cases c43 : m < 265
  · exact List.all_eq_true.mp ckE43 m (List.mem_range'_1.mpr ⟨by omega, by omega⟩)
  by_cases c44 : m < 272
  · exact List.all_eq_true.mp ckE44 m (List.mem_range'_1.mpr ⟨by omega, by omega⟩)
  by_cases c45 : m < 277
  · exact List.all_eq_true.mp ckE45 m (List.mem_range'_1.mpr ⟨by omega, by omega⟩)
  by_cases c46 : m < 284
  · exact List.all_eq_true.mp ckE46 m (List.mem_range'_1.mpr ⟨by omega, by omega⟩)
  by_cases c47 : m < 288
  · exact List.all_eq_true.mp ckE47 m (List.mem_range'_1.mpr ⟨by omega, by omega⟩)
  by_cases c48 : m < 293
  · exact List.all_eq_true.mp ckE48 m (List.mem_range'_1.mpr ⟨by omega, by omega⟩)
  by_cases c49 : m < 299
  · exact List.all_eq_true.mp ckE49 m (List.mem_range'_1.mpr ⟨by omega, by omega⟩)
  by_cases c50 : m < 303
  · exact List.all_eq_true.mp ckE50 m (List.mem_range'_1.mpr ⟨by omega, by omega⟩)
  by_cases c51 : m < 308
  · exact List.all_eq_true.mp ckE51 m (List.mem_range'_1.mpr ⟨by omega, by omega⟩)
  omega
end
section
/-! THE SMALL MACHINE AND THE LARGE ONE: values, locals, the world -/
def cvv (ads : Nat → Nat) : (Int ⊕ (Int ⊕ Option Nat)) → Value
  | .inl x => .int (Int32.ofInt x)
  | .inr (.inl x) => .long (Int64.ofInt x)
  | .inr (.inr none) => .null
  | .inr (.inr (some o)) => .ref (ads o)
def cv (ads : Nat → Nat) : AV → Value
  | none => .null
  | some v => cvv ads v
def okv : AV → Prop
  | some (.inl x) => -2147483648 ≤ x ∧ x < 2147483648
  | some (.inr (.inl x)) => -9223372036854775808 ≤ x ∧ x < 9223372036854775808
  | _ => True
def okl (l : List AV) : Prop := ∀ v ∈ l, okv v
theorem okl.hd {v : AV} {l : List AV} (h : okl (v :: l)) : okv v := h v List.mem_cons_self
theorem okl.tl {v : AV} {l : List AV} (h : okl (v :: l)) : okl l := fun w hw => h w (List.mem_cons_of_mem _ hw)
theorem okl.cons {v : AV} {l : List AV} (hv : okv v) (h : okl l) : okl (v :: l) := fun w hw => by
  rcases List.mem_cons.mp hw with rfl | hw
  · exact hv
  · exact h w hw
def isLc (o : Nat) (i : Int) : Bool := Nat.beq (shK o) 103 || Nat.beq (fkOf (shK o) i.toNat) 2
def okh (h : Hp) : Prop := ∀ o i, (isLc o i = false → -2147483648 ≤ h o i ∧ h o i < 2147483648) ∧ (-9223372036854775808 ≤ h o i ∧ h o i < 9223372036854775808)
theorem okh.up {h : Hp} {o : Nat} {i v : Int} (hh : okh h) (hv : isLc o i = false → -2147483648 ≤ v ∧ v < 2147483648) (hv2 : -9223372036854775808 ≤ v ∧ v < 9223372036854775808) : okh (hup h o i v) := by
  intro a j
  unfold hup
  by_cases hc : a = o ∧ j = i
  · rw [if_pos hc, hc.1, hc.2]; exact ⟨hv, hv2⟩
  · rw [if_neg hc]; exact hh a j
theorem nth_lt {α : Type} {d : α} : ∀ {l : List α} {n : Nat}, n < l.length → l[n]? = some (nth d l n)
  | x :: xs, 0, _ => rfl
  | x :: xs, n + 1, h => by
    rw [List.getElem?_cons_succ]
    exact nth_lt (Nat.lt_of_succ_lt_succ h)
  | [], _, h => absurd h (Nat.not_lt_zero _)
theorem nth_ge {α : Type} {d : α} : ∀ {l : List α} {n : Nat}, l.length ≤ n → nth d l n = d
  | [], _, _ => rfl
  | x :: xs, 0, h => absurd h (by simp)
  | x :: xs, n + 1, h => nth_ge (l := xs) (Nat.le_of_succ_le_succ h)
theorem nth_mem {α : Type} {d : α} {l : List α} {n : Nat} (h : n < l.length) : nth d l n ∈ l := List.mem_of_getElem? (nth_lt h)
theorem shK_lt {o : Nat} (h : shK o ≠ 999) : o < nOb := by
  rcases Nat.lt_or_ge o 96 with q | q
  · exact q
  · refine absurd ?_ h
    unfold shK nth2
    rw [nth_ge (l := shKT) (d := []) (n := o / 16) (by show 6 ≤ o / 16; omega)]
    rfl
def fvl (ads : Nat → Nat) (h : Hp) (o k : Nat) : Value := match fkOf (shK o) k with
  | 0 => .int (Int32.ofInt (h o k))
  | 1 => .int (Int32.ofInt (h o k))
  | 2 => .long (Int64.ofInt (h o k))
  | _ => va_rf ((shR o k).map ads)
def celE (ads : Nat → Nat) (cA : Nat → ClassId) (h : Hp) (o : Nat) : va_E := match shK o with
  | 100 => .inl (cA 0, shN o, .inl (fun j => Int32.ofInt (h o j)))
  | 101 => .inl (cA 1, shN o, .inl (fun j => Int32.ofInt (h o j)))
  | 102 => .inl (cA 2, shN o, .inl (fun j => Int32.ofInt (h o j)))
  | 103 => .inl (cA 3, shN o, .inr (.inl (fun j => Int64.ofInt (h o j))))
  | 104 => .inl (cA 4, shN o, .inr (.inr (.inr (.inr (fun j => (shR o j).map ads)))))
  | c => .inr (c, (List.range (shN o)).map (fvl ads h o))
theorem celE_0 {ads : Nat → Nat} {cA : Nat → ClassId} {h : Hp} {o : Nat} (hk : shK o = 100) : celE ads cA h o = .inl (cA 0, shN o, .inl (fun j => Int32.ofInt (h o j))) := by
  unfold celE
  rw [hk]
  rfl
theorem celE_1 {ads : Nat → Nat} {cA : Nat → ClassId} {h : Hp} {o : Nat} (hk : shK o = 101) : celE ads cA h o = .inl (cA 1, shN o, .inl (fun j => Int32.ofInt (h o j))) := by
  unfold celE
  rw [hk]
  rfl
theorem celE_2 {ads : Nat → Nat} {cA : Nat → ClassId} {h : Hp} {o : Nat} (hk : shK o = 102) : celE ads cA h o = .inl (cA 2, shN o, .inl (fun j => Int32.ofInt (h o j))) := by
  unfold celE
  rw [hk]
  rfl
theorem celE_3 {ads : Nat → Nat} {cA : Nat → ClassId} {h : Hp} {o : Nat} (hk : shK o = 103) : celE ads cA h o = .inl (cA 3, shN o, .inr (.inl (fun j => Int64.ofInt (h o j)))) := by
  unfold celE
  rw [hk]
  rfl
theorem celE_4 {ads : Nat → Nat} {cA : Nat → ClassId} {h : Hp} {o : Nat} (hk : shK o = 104) : celE ads cA h o = .inl (cA 4, shN o, .inr (.inr (.inr (.inr (fun j => (shR o j).map ads))))) := by
  unfold celE
  rw [hk]
  rfl
theorem celE_c {ads : Nat → Nat} {cA : Nat → ClassId} {h : Hp} {o c : Nat} (hk : shK o = c) (hc : c < 10) : celE ads cA h o = .inr (c, (List.range (shN o)).map (fvl ads h o)) := by
  unfold celE
  rw [hk]
  split <;> first | omega | rfl
theorem fvl_cong {ads : Nat → Nat} {h h2 : Hp} {o : Nat} (he : ∀ j, h2 o j = h o j) : fvl ads h2 o = fvl ads h o := by
  funext k
  unfold fvl
  rw [he]
theorem celE_cong {ads : Nat → Nat} {cA : Nat → ClassId} {h h2 : Hp} {o : Nat} (he : ∀ j, h2 o j = h o j) : celE ads cA h2 o = celE ads cA h o := by
  unfold celE
  rw [fvl_cong he]
  simp only [he]
def wld (ads : Nat → Nat) (cA : Nat → ClassId) (h : Hp) : va_W := (List.range nOb).map (fun o => (ads o, celE ads cA h o))
theorem wld_at {ads : Nat → Nat} {cA : Nat → ClassId} {h : Hp} {o : Nat} (ho : o < nOb) : (wld ads cA h)[o]? = some (ads o, celE ads cA h o) := by
  unfold wld
  rw [List.getElem?_map, List.getElem?_range ho]
  rfl
theorem wld_inv {ads : Nat → Nat} {cA : Nat → ClassId} {h : Hp} {o : Nat} {q : Nat × va_E} (hq : (wld ads cA h)[o]? = some q) : o < nOb ∧ q = (ads o, celE ads cA h o) := by
  have ho : o < nOb := by
    have := (List.getElem?_eq_some_iff.mp hq).1
    simpa [wld] using this
  rw [wld_at ho] at hq
  exact ⟨ho, (Option.some.inj hq).symm⟩
theorem wld_set {ads : Nat → Nat} {cA : Nat → ClassId} {h h2 : Hp} {o : Nat} {E : va_E} (hne : ∀ a, a ≠ o → ∀ j, h2 a j = h a j) (hE : celE ads cA h2 o = E) : (wld ads cA h).set o (ads o, E) = wld ads cA h2 := by
  apply List.ext_getElem?
  intro i
  rw [List.getElem?_set]
  by_cases hi : i < nOb
  · by_cases e : o = i
    · subst e
      rw [if_pos rfl, if_pos (by simpa [wld] using hi), wld_at hi, hE]
    · rw [if_neg e, wld_at hi, wld_at hi, celE_cong (hne i (fun q => e q.symm))]
  · have e1 : (wld ads cA h2)[i]? = none := by rw [List.getElem?_eq_none_iff]; simp [wld]; omega
    have e2 : (wld ads cA h)[i]? = none := by rw [List.getElem?_eq_none_iff]; simp [wld]; omega
    by_cases e : o = i
    · subst e
      rw [if_pos rfl, if_neg (by simpa [wld] using hi), e1]
    · rw [if_neg e, e1, e2]
theorem hup_ne {h : Hp} {o a : Nat} {i v : Int} (q : a ≠ o) (j : Int) : hup h o i v a j = h a j := if_neg (fun z => q z.1)
theorem range_set {N k : Nat} {f g : Nat → Value} {v : Value} (hk : g k = v) (hn : ∀ j, j ≠ k → g j = f j) : ((List.range N).map f).set k v = (List.range N).map g := by
  apply List.ext_getElem?
  intro i
  rw [List.getElem?_set, List.getElem?_map, List.getElem?_map]
  by_cases hi : i < N
  · by_cases e : k = i
    · subst e
      rw [if_pos rfl, if_pos (by simpa using hi), List.getElem?_range hi, ← hk]
      rfl
    · rw [if_neg e, List.getElem?_range hi]
      simp only [Option.map_some, hn i (fun q => e q.symm)]
  · have e1 : (List.range N)[i]? = none := by rw [List.getElem?_eq_none_iff]; simp; omega
    rw [e1]
    by_cases e : k = i
    · subst e
      rw [if_pos rfl, if_neg (by simpa using hi)]
      rfl
    · rw [if_neg e]
      rfl
def inA (ads : Nat → Nat) : Nat → Prop := fun q => ∃ o, o < nOb ∧ q = ads o
def apA (ads : Nat → Nat) : Prop := ∀ i j, i < nOb → j < nOb → ads i = ads j → i = j
theorem wldD {ads : Nat → Nat} {cA : Nat → ClassId} {h : Hp} (ha : apA ads) : va_D (inA ads) (wld ads cA h) := by
  refine ⟨fun i j p q hp hq e => ?_, fun k q hq => ?_⟩
  · obtain ⟨h1, rfl⟩ := wld_inv hp
    obtain ⟨h2, rfl⟩ := wld_inv hq
    exact ha i j h1 h2 e
  · obtain ⟨h1, rfl⟩ := wld_inv hq
    exact ⟨k, h1, rfl⟩
def tysL (cA : Nat → ClassId) : List (ClassId × FieldType) := [(cA 0, .int), (cA 1, .byte), (cA 2, .boolean), (cA 3, .long), (cA 4, .object "ThimbleLaw$Text")]
/-- the locals -/
def LR (ads : Nat → Nat) (C : Array Slot) (nL : Nat) (ls : List AV) : Prop := ∃ l, lv_has C nL l ∧ ∀ k v, lget ls k = some v → (k, cvv ads v) ∈ l
theorem LR.at {ads : Nat → Nat} {C : Array Slot} {nL : Nat} {ls : List AV} (h : LR ads C nL ls) {k : Nat} {v : Int ⊕ (Int ⊕ Option Nat)} (hk : lget ls k = some v) : C[k]? = some (.val (cvv ads v)) := by
  obtain ⟨l, h1, h2⟩ := h
  exact h1.2.2 _ (h2 k v hk)
theorem LR.size {ads : Nat → Nat} {C : Array Slot} {nL : Nat} {ls : List AV} (h : LR ads C nL ls) : C.size = nL := by
  obtain ⟨l, h1, -⟩ := h
  exact h1.1
theorem lget_set {ls : List AV} {k j : Nat} {v : AV} : lget (setn ls k v) j = if j = k ∧ k < ls.length then v else lget ls j := by
  induction ls generalizing k j with
  | nil => simp [setn, lget, nth]
  | cons x xs ih =>
    cases k with
    | zero =>
      cases j with
      | zero => simp [setn, lget, nth]
      | succ j => simp [setn, lget, nth]
    | succ k =>
      cases j with
      | zero => simp [setn, lget, nth]
      | succ j =>
        show lget (setn xs k v) j = if j + 1 = k + 1 ∧ k + 1 < xs.length + 1 then v else lget xs j
        rw [ih]
        simp
theorem lget_kill {ls : List AV} {k j : Nat} {w : Int ⊕ (Int ⊕ Option Nat)} (h : lget (kill ls k) j = some w) : lget ls j = some w ∧ (j = k → ∀ x, w ≠ .inr (.inl x)) := by
  unfold kill at h
  split at h
  · rename_i y hy
    rw [lget_set] at h
    split at h
    · cases h
    · rename_i hc
      refine ⟨h, fun e x hx => ?_⟩
      subst e
      by_cases hl : j < ls.length
      · exact hc ⟨rfl, hl⟩
      · have : lget ls j = none := nth_ge (by omega)
        rw [this] at h; cases h
  · rename_i hy
    refine ⟨h, fun e x hx => ?_⟩
    subst e; subst hx
    exact hy x h
theorem cat_cvv {ads : Nat → Nat} {w : Int ⊕ (Int ⊕ Option Nat)} (h : (cvv ads w).category = 2) : ∃ x, w = .inr (.inl x) := by
  rcases w with x | x | x | x
  · cases h
  · exact ⟨x, rfl⟩
  · cases h
  · cases h
theorem stor_get {ls : List AV} {k j : Nat} {v : AV} {w : Int ⊕ (Int ⊕ Option Nat)} (h : lget (stor ls k v) j = some w) : (j = k ∧ v = some w) ∨ (j ≠ k ∧ lget ls j = some w ∧ (j + 1 = k → ∀ x, w ≠ .inr (.inl x))) := by
  cases k with
  | zero =>
    have h : lget (setn ls 0 v) j = some w := h
    rw [lget_set] at h
    split at h
    · rename_i hc; exact Or.inl ⟨hc.1, h⟩
    · rename_i hc
      refine Or.inr ⟨fun e => ?_, h, fun e => by omega⟩
      subst e
      have : lget ls 0 = none := nth_ge (by omega)
      rw [this] at h; cases h
  | succ k =>
    have h : lget (setn (kill ls k) (k + 1) v) j = some w := h
    rw [lget_set] at h
    split at h
    · rename_i hc; exact Or.inl ⟨hc.1, h⟩
    · rename_i hc
      obtain ⟨h1, h2⟩ := lget_kill h
      refine Or.inr ⟨fun e => ?_, h1, fun e => h2 (by omega)⟩
      subst e
      have : lget (kill ls k) (k + 1) = none := nth_ge (by omega)
      rw [this] at h; cases h
theorem LR.sto {ads : Nat → Nat} {C : Array Slot} {nL : Nat} {ls : List AV} {lv : List (Nat × Value)} {k : Nat} {w : Int ⊕ (Int ⊕ Option Nat)} (h2 : ∀ j v, lget ls j = some v → (j, cvv ads v) ∈ lv)
    (h : lv_has C nL ((k, cvv ads w) :: lv.filter (fun q => !(q.1 == k) && !(q.1 + 1 == k && q.2.category == 2)))) : LR ads C nL (stor ls k (some w)) := by
  refine ⟨_, h, fun j v hj => ?_⟩
  rcases stor_get hj with ⟨rfl, e⟩ | ⟨hne, h3, h4⟩
  · cases e; exact List.mem_cons_self
  · refine List.mem_cons_of_mem _ (List.mem_filter.mpr ⟨h2 j v h3, ?_⟩)
    simp only [Bool.and_eq_true, Bool.not_eq_true', beq_eq_false_iff_ne, ne_eq, Bool.and_eq_false_iff]
    refine ⟨hne, ?_⟩
    by_cases e : j + 1 = k
    · right
      intro hc
      obtain ⟨x, hx⟩ := cat_cvv hc
      exact h4 e x hx
    · left; exact e
theorem LR.sto2 {ads : Nat → Nat} {C : Array Slot} {nL : Nat} {ls : List AV} {lv : List (Nat × Value)} {k : Nat} {w : Int ⊕ (Int ⊕ Option Nat)} (h2 : ∀ j v, lget ls j = some v → (j, cvv ads v) ∈ lv)
    (h : lv_has C nL ((k, cvv ads w) :: lv.filter (fun q => !(q.1 == k) && (!(q.1 == k + 1) && !(q.1 + 1 == k && q.2.category == 2))))) : LR ads C nL (stor2 ls k (some w)) := by
  refine ⟨_, h, fun j v hj => ?_⟩
  unfold stor2 at hj
  rw [lget_set] at hj
  split at hj
  · cases hj
  · rename_i hc
    have hk1 : j ≠ k + 1 := by
      intro e
      subst e
      have : lget (stor ls k (some w)) (k + 1) = none := nth_ge (by omega)
      rw [this] at hj; cases hj
    rcases stor_get hj with ⟨rfl, e⟩ | ⟨hne, h3, h4⟩
    · cases e; exact List.mem_cons_self
    · refine List.mem_cons_of_mem _ (List.mem_filter.mpr ⟨h2 j v h3, ?_⟩)
      simp only [Bool.and_eq_true, Bool.not_eq_true', beq_eq_false_iff_ne, ne_eq, Bool.and_eq_false_iff]
      refine ⟨hne, hk1, ?_⟩
      by_cases e : j + 1 = k
      · right
        intro hc
        obtain ⟨x, hx⟩ := cat_cvv hc
        exact h4 e x hx
      · left; exact e
theorem pad_get : ∀ (xs : List AV) (n k : Nat), lget (pad xs n) k = lget xs k
  | [], 0, k => rfl
  | [], n + 1, 0 => rfl
  | [], n + 1, k + 1 => (pad_get [] n k).trans rfl
  | x :: xs, 0, k => rfl
  | x :: xs, n + 1, 0 => rfl
  | x :: xs, n + 1, k + 1 => pad_get xs n k
theorem ents_get {ads : Nat → Nat} : ∀ (av : List AV) (j k : Nat) (v : Int ⊕ (Int ⊕ Option Nat)), lget (ents av) k = some v → (j + k, cvv ads v) ∈ lv_args j (av.map (cv ads))
  | [], j, k, v, h => by
    have : lget (ents []) k = none := rfl
    rw [this] at h; cases h
  | some (.inr (.inl x)) :: vs, j, k, v, h => by
    show _ ∈ (j, _) :: lv_args (if (2 : Nat) = 2 then j + 2 else j + 1) (vs.map (cv ads))
    match k, h with
    | 0, h =>
      have h : (some (.inr (.inl x)) : AV) = some v := h
      cases h; exact List.mem_cons_self
    | 1, h =>
      have h : (none : AV) = some v := h
      cases h
    | k + 2, h =>
      have := ents_get (ads := ads) vs (j + 2) k v h
      rw [show j + 2 + k = j + (k + 2) by omega] at this
      exact List.mem_cons_of_mem _ this
  | some (.inl x) :: vs, j, k, v, h => by
    show _ ∈ (j, _) :: lv_args (if (1 : Nat) = 2 then j + 2 else j + 1) (vs.map (cv ads))
    match k, h with
    | 0, h =>
      have h : (some (.inl x) : AV) = some v := h
      cases h; exact List.mem_cons_self
    | k + 1, h =>
      have := ents_get (ads := ads) vs (j + 1) k v h
      rw [show j + 1 + k = j + (k + 1) by omega] at this
      exact List.mem_cons_of_mem _ this
  | some (.inr (.inr none)) :: vs, j, k, v, h => by
    show _ ∈ (j, _) :: lv_args (if (1 : Nat) = 2 then j + 2 else j + 1) (vs.map (cv ads))
    match k, h with
    | 0, h =>
      have h : (some (.inr (.inr none)) : AV) = some v := h
      cases h; exact List.mem_cons_self
    | k + 1, h =>
      have := ents_get (ads := ads) vs (j + 1) k v h
      rw [show j + 1 + k = j + (k + 1) by omega] at this
      exact List.mem_cons_of_mem _ this
  | some (.inr (.inr (some o))) :: vs, j, k, v, h => by
    show _ ∈ (j, _) :: lv_args (if (1 : Nat) = 2 then j + 2 else j + 1) (vs.map (cv ads))
    match k, h with
    | 0, h =>
      have h : (some (.inr (.inr (some o))) : AV) = some v := h
      cases h; exact List.mem_cons_self
    | k + 1, h =>
      have := ents_get (ads := ads) vs (j + 1) k v h
      rw [show j + 1 + k = j + (k + 1) by omega] at this
      exact List.mem_cons_of_mem _ this
  | none :: vs, j, k, v, h => by
    show _ ∈ (j, _) :: lv_args (if (1 : Nat) = 2 then j + 2 else j + 1) (vs.map (cv ads))
    match k, h with
    | 0, h =>
      have h : (none : AV) = some v := h
      cases h
    | k + 1, h =>
      have := ents_get (ads := ads) vs (j + 1) k v h
      rw [show j + 1 + k = j + (k + 1) by omega] at this
      exact List.mem_cons_of_mem _ this
theorem ents_len {ads : Nat → Nat} : ∀ (av : List AV), (lg_sl (av.map (cv ads))).length = (ents av).length
  | [] => rfl
  | some (.inr (.inl x)) :: vs => by
    have := ents_len (ads := ads) vs
    show ([Slot.val _, Slot.second] ++ lg_sl (vs.map (cv ads))).length = (some (.inr (.inl x)) :: none :: ents vs).length
    simp [this]
  | some (.inl x) :: vs => by
    have := ents_len (ads := ads) vs
    show ([Slot.val _] ++ lg_sl (vs.map (cv ads))).length = (some (.inl x) :: ents vs).length
    simp [this]
  | some (.inr (.inr none)) :: vs => by
    have := ents_len (ads := ads) vs
    show ([Slot.val _] ++ lg_sl (vs.map (cv ads))).length = (some (.inr (.inr none)) :: ents vs).length
    simp [this]
  | some (.inr (.inr (some o))) :: vs => by
    have := ents_len (ads := ads) vs
    show ([Slot.val _] ++ lg_sl (vs.map (cv ads))).length = (some (.inr (.inr (some o))) :: ents vs).length
    simp [this]
  | none :: vs => by
    have := ents_len (ads := ads) vs
    show ([Slot.val _] ++ lg_sl (vs.map (cv ads))).length = (none :: ents vs).length
    simp [this]
theorem LR.entry {ads : Nat → Nat} {av : List AV} {n : Nat} (h : (ents av).length ≤ n) : LR ads ((lg_sl (av.map (cv ads)) ++ List.replicate (n - (lg_sl (av.map (cv ads))).length) Slot.unset).toArray) n (pad (ents av) n) := by
  refine ⟨lv_args 0 (av.map (cv ads)), lv_entry _ (by rw [ents_len]; exact h), fun k v hk => ?_⟩
  rw [pad_get] at hk
  have := ents_get (ads := ads) av 0 k v hk
  rwa [Nat.zero_add] at this
theorem okl_ents : ∀ {av : List AV}, okl av → okl (ents av)
  | [], h => h
  | some (.inr (.inl x)) :: vs, h => okl.cons h.hd (okl.cons trivial (okl_ents h.tl))
  | some (.inl x) :: vs, h => okl.cons h.hd (okl_ents h.tl)
  | some (.inr (.inr none)) :: vs, h => okl.cons h.hd (okl_ents h.tl)
  | some (.inr (.inr (some o))) :: vs, h => okl.cons h.hd (okl_ents h.tl)
  | none :: vs, h => okl.cons h.hd (okl_ents h.tl)
theorem okl_pad : ∀ {xs : List AV} {n : Nat}, okl xs → okl (pad xs n)
  | [], 0, h => h
  | [], n + 1, h => okl.cons trivial (okl_pad h)
  | x :: xs, 0, h => h
  | x :: xs, n + 1, h => okl.cons h.hd (okl_pad h.tl)
theorem okl_set : ∀ {ls : List AV} {k : Nat} {v : AV}, okl ls → okv v → okl (setn ls k v)
  | [], _, _, h, _ => h
  | _ :: xs, 0, v, h, hv => okl.cons hv h.tl
  | x :: xs, k + 1, v, h, hv => okl.cons h.hd (okl_set h.tl hv)
theorem okl_kill {ls : List AV} {k : Nat} (h : okl ls) : okl (kill ls k) := by
  unfold kill
  split
  · exact okl_set h trivial
  · exact h
theorem okl_stor {ls : List AV} {k : Nat} {v : AV} (h : okl ls) (hv : okv v) : okl (stor ls k v) := by
  cases k with
  | zero => exact okl_set h hv
  | succ k => exact okl_set (okl_kill h) hv
theorem okl_stor2 {ls : List AV} {k : Nat} {v : AV} (h : okl ls) (hv : okv v) : okl (stor2 ls k v) := okl_set (okl_stor h hv) trivial
theorem okl_get {ls : List AV} {k : Nat} (h : okl ls) : okv (lget ls k) := by
  unfold lget
  rcases Nat.lt_or_ge k ls.length with q | q
  · exact h _ (nth_mem q)
  · rw [nth_ge q]; trivial
theorem takeR_spec : ∀ (n : Nat) (acc st : List AV), (takeR n acc st).length = acc.length + n → st = (takeR n [] st).reverse ++ dropN n st ∧ takeR n acc st = takeR n [] st ++ acc
  | 0, acc, st, _ => ⟨rfl, rfl⟩
  | n + 1, acc, [], h => by
    have h : acc.length = acc.length + (n + 1) := h
    omega
  | n + 1, acc, x :: xs, h => by
    have h : (takeR n (x :: acc) xs).length = acc.length + (n + 1) := h
    have h1 := takeR_spec n (x :: acc) xs (by rw [h]; simp; omega)
    have hl : (takeR n [] xs).length = n := by
      have := congrArg List.length h1.2
      rw [h] at this
      simp at this
      omega
    have h2 := takeR_spec n [x] xs (by
      have e : ∀ (n : Nat) (acc st : List AV), (takeR n acc st).length = (takeR n [] st).length + acc.length := by
        intro n
        induction n with
        | zero => intro acc st; simp [takeR]
        | succ n ih =>
          intro acc st
          cases st with
          | nil => simp [takeR]
          | cons y ys =>
            show (takeR n (y :: acc) ys).length = (takeR n [y] ys).length + acc.length
            rw [ih (y :: acc) ys, ih [y] ys]
            simp; omega
      rw [e]; simp; omega)
    refine ⟨?_, ?_⟩
    · show x :: xs = (takeR n [x] xs).reverse ++ dropN n xs
      rw [h2.2, List.reverse_append]
      show x :: xs = x :: ((takeR n [] xs).reverse ++ dropN n xs)
      rw [← h2.1]
    · show takeR n (x :: acc) xs = takeR n [x] xs ++ acc
      rw [h1.2, h2.2]
      simp
end
section
def BIG : List Cond := lw_tbl.filter goodWord
theorem big_of {w : Cond} (h : w ∈ lw_tbl) (hg : goodWord w = true) : w ∈ BIG := List.mem_filter.mpr ⟨h, hg⟩
theorem big_ok : GoodIn BIG BIG := fun w h => ⟨h, good_of_word (List.mem_filter.mp h).2⟩
def wsM (m : Nat) : List Cond := .code (mNm m) (mBy m) (mLo m) (mRt m) :: BIG
theorem mtT_len : ∀ m, m < nMe → m / 16 < mtT.length ∧ m % 16 < (nth [] mtT (m / 16)).length := by decide +kernel
theorem ckCs : ∀ i, i < 20 → (nth [] mtT i).map miO = (nth [] mtT i).map miR := by
  intro i h
  match i, h with
  | 0, _ => exact ckC0
  | 1, _ => exact ckC1
  | 2, _ => exact ckC2
  | 3, _ => exact ckC3
  | 4, _ => exact ckC4
  | 5, _ => exact ckC5
  | 6, _ => exact ckC6
  | 7, _ => exact ckC7
  | 8, _ => exact ckC8
  | 9, _ => exact ckC9
  | 10, _ => exact ckC10
  | 11, _ => exact ckC11
  | 12, _ => exact ckC12
  | 13, _ => exact ckC13
  | 14, _ => exact ckC14
  | 15, _ => exact ckC15
  | 16, _ => exact ckC16
  | 17, _ => exact ckC17
  | 18, _ => exact ckC18
  | 19, _ => exact ckC19
  | i + 20, h => exact absurd h (by omega)
theorem ckFs : ∀ w, w < 13 → (nth [] flW w).map (fun e => tpA e.2) = (nth [] flW w).map (fun e => some (Cond.fieldLink (ownN w) e.1.1 (clN e.1.2.1) ((clT e.1.2.1) e.1.2.2).2.1 ((clT e.1.2.1) e.1.2.2).2.2.1)) := by
  intro w h
  match w, h with
  | 0, _ => exact ckF0
  | 1, _ => exact ckF1
  | 2, _ => exact ckF2
  | 3, _ => exact ckF3
  | 4, _ => exact ckF4
  | 5, _ => exact ckF5
  | 6, _ => exact ckF6
  | 7, _ => exact ckF7
  | 8, _ => exact ckF8
  | 9, _ => exact ckF9
  | 10, _ => exact ckF10
  | 11, _ => exact ckF11
  | 12, _ => exact ckF12
  | w + 13, h => exact absurd h (by omega)
theorem ckLs : ∀ w, w < 13 → (nth [] mlW w).map (fun e => tpA e.2) = (nth [] mlW w).map (fun e => some (Cond.methodLink (ownN w) e.1.1 (mNm e.1.2))) := by
  intro w h
  match w, h with
  | 0, _ => exact ckL0
  | 1, _ => exact ckL1
  | 2, _ => exact ckL2
  | 3, _ => exact ckL3
  | 4, _ => exact ckL4
  | 5, _ => exact ckL5
  | 6, _ => exact ckL6
  | 7, _ => exact ckL7
  | 8, _ => exact ckL8
  | 9, _ => exact ckL9
  | 10, _ => exact ckL10
  | 11, _ => exact ckL11
  | 12, _ => exact ckL12
  | w + 13, h => exact absurd h (by omega)
theorem ckNs : ∀ w, w < 13 → (nth [] mnW w).map (fun e => tpA e.2) = (nth [] mnW w).map (fun e => some (Cond.methodLinkNest (ownN w) e.1.1 (mNm e.1.2) "ThimbleLaw")) := by
  intro w h
  match w, h with
  | 0, _ => exact ckN0
  | 1, _ => exact ckN1
  | 2, _ => exact ckN2
  | 3, _ => exact ckN3
  | 4, _ => exact ckN4
  | 5, _ => exact ckN5
  | 6, _ => exact ckN6
  | 7, _ => exact ckN7
  | 8, _ => exact ckN8
  | 9, _ => exact ckN9
  | 10, _ => exact ckN10
  | 11, _ => exact ckN11
  | 12, _ => exact ckN12
  | w + 13, h => exact absurd h (by omega)
theorem ckWs : ∀ c, c < 10 → (nth [] uwH c).map tpA = (u_ws (clN c) (clT c) (clM c)).map some := by
  intro c h
  match c, h with
  | 0, _ => exact ckW0
  | 1, _ => exact ckW1
  | 2, _ => exact ckW2
  | 3, _ => exact ckW3
  | 4, _ => exact ckW4
  | 5, _ => exact ckW5
  | 6, _ => exact ckW6
  | 7, _ => exact ckW7
  | 8, _ => exact ckW8
  | 9, _ => exact ckW9
  | c + 10, h => exact absurd h (by omega)
theorem map_at {α β : Type} {f g : α → β} {l : List α} (h : l.map f = l.map g) {x : α} (hx : x ∈ l) : f x = g x := List.map_inj_left.mp h x hx
theorem mi_at {m : Nat} (h : m < nMe) : miO (mi m) = miR (mi m) := by
  obtain ⟨h1, h2⟩ := mtT_len m h
  have h1 : m / 16 < 20 := h1
  exact map_at (ckCs _ h1) (nth_mem h2)
theorem gM {m : Nat} (h : m < nMe) : goodM m = true := List.all_eq_true.mp ckM m (List.mem_range.mpr h)
theorem gM_own {m : Nat} (h : m < nMe) : ownN (mOw m) = (mNm m).cls := by
  have g := gM h
  unfold goodM at g
  simp only [Bool.and_eq_true, decide_eq_true_eq] at g
  exact g.1
theorem gM_plain {m : Nat} (h : m < nMe) : Jvm.plainName (mNm m).cls = true := by
  have g := gM h
  unfold goodM at g
  simp only [Bool.and_eq_true, decide_eq_true_eq] at g
  exact g.2.1
theorem gM_mh {m : Nat} (h : m < nMe) : (mNm m).cls ≠ "java/lang/invoke/MethodHandle" ∧ (mNm m).cls ≠ "java/lang/invoke/VarHandle" := by
  have g := gM h
  unfold goodM at g
  simp only [Bool.and_eq_true, decide_eq_true_eq] at g
  exact g.2.2.1
theorem gM_rt {m : Nat} (h : m < nMe) : rtOK m = true := by
  have g := gM h
  unfold goodM at g
  simp only [Bool.and_eq_true, decide_eq_true_eq] at g
  exact g.2.2.2.1
theorem gM_lo {m : Nat} (h : m < nMe) : mLo m ≤ 12 ∧ mLo m = (mi m).2.2.1 ∧ mOw m < 13 := by
  have g := gM h
  unfold goodM at g
  simp only [Bool.and_eq_true, decide_eq_true_eq] at g
  exact g.2.2.2.2.1
theorem gM_st {m : Nat} (h : m < nMe) (hs : mSt m = true) : (parseMethodDescriptor (mNm m).desc).map (fun d => d.parameters.length) = some (nAr m) := by
  have g := gM h
  unfold goodM at g
  simp only [Bool.and_eq_true, decide_eq_true_eq, hs] at g
  exact g.2.2.2.2.2
theorem gM_vi {m : Nat} (h : m < nMe) (hs : mSt m = false) : (mCi m < 10 ∧ clN (mCi m) = (mNm m).cls) ∧ (parseMethodDescriptor (mNm m).desc).map (fun d => d.parameters.length + 1) = some (nAr m) := by
  have g := gM h
  unfold goodM at g
  simp only [Bool.and_eq_true, decide_eq_true_eq, hs] at g
  exact ⟨g.2.2.2.2.2.1, g.2.2.2.2.2.2⟩
theorem code_in {m : Nat} (h : m < nMe) : Cond.code (mNm m) (mBy m) (mLo m) (mRt m) ∈ BIG := by
  have g := mi_at h
  refine big_of (tpA_in (q := nth (99, 0) (mi m).2.2.2.2.2 0) ?_) rfl
  rw [(gM_lo h).2.1]
  unfold miO miR at g
  split at g
  · exact (List.cons.inj g).1
  · exact (List.cons.inj g).1
theorem init_in {m : Nat} (h : m < nMe) : Cond.initialized (mNm m).cls ∈ BIG := by
  have g := mi_at h
  refine big_of (tpA_in (q := nth (99, 0) (mi m).2.2.2.2.2 1) ?_) rfl
  unfold miO miR at g
  split at g
  · exact (List.cons.inj (List.cons.inj g).2).1
  · exact (List.cons.inj (List.cons.inj g).2).1
theorem stat_in {m : Nat} (h : m < nMe) (hs : mSt m = true) : Cond.static (mNm m) ∈ BIG := by
  have g := mi_at h
  refine big_of (tpA_in (q := nth (99, 0) (mi m).2.2.2.2.2 2) ?_) rfl
  have hs : (mi m).2.2.2.2.1 = true := hs
  unfold miO miR at g
  rw [hs] at g
  exact (List.cons.inj (List.cons.inj (List.cons.inj g).2).2).1
theorem inst_in {m : Nat} (h : m < nMe) (hs : mSt m = false) : Cond.instanceMethod (mNm m) ∈ BIG := by
  have g := mi_at h
  refine big_of (tpA_in (q := nth (99, 0) (mi m).2.2.2.2.2 2) ?_) rfl
  have hs : (mi m).2.2.2.2.1 = false := hs
  unfold miO miR at g
  rw [hs] at g
  exact (List.cons.inj (List.cons.inj (List.cons.inj g).2).2).1
theorem sel_in {m : Nat} (h : m < nMe) (hs : mSt m = false) : Cond.selects (mNm m).cls (mNm m) (mNm m) ∈ BIG := by
  have g := mi_at h
  refine big_of (tpA_in (q := nth (99, 0) (mi m).2.2.2.2.2 3) ?_) rfl
  have hs : (mi m).2.2.2.2.1 = false := hs
  unfold miO miR at g
  rw [hs] at g
  exact (List.cons.inj (List.cons.inj (List.cons.inj (List.cons.inj g).2).2).2).1
theorem mem_of_contains {α : Type} [BEq α] [LawfulBEq α] {l : List α} {x : α} (h : l.contains x = true) : x ∈ l := by
  simpa using h
theorem fl_in {w i c k : Nat} (hw : w < 13) (h : (flL w).contains (i, c, k) = true) : Cond.fieldLink (ownN w) i (clN c) ((clT c) k).2.1 ((clT c) k).2.2.1 ∈ BIG ∧ c < 10 ∧ k < clM c := by
  have h := mem_of_contains h
  have g := List.all_eq_true.mp (ckFb w hw) _ h
  simp only [decide_eq_true_eq] at g
  obtain ⟨e, he, hx⟩ := List.mem_map.mp h
  have q := map_at (ckFs w hw) he
  try dsimp only at q
  rw [hx] at q
  exact ⟨big_of (tpA_in q) rfl, g⟩
theorem ml_in {w i a : Nat} (hw : w < 13) (h : (mlL w).contains (i, a) = true) : Cond.methodLink (ownN w) i (mNm a) ∈ BIG ∧ a < nMe := by
  have h := mem_of_contains h
  have g := List.all_eq_true.mp (ckLb w hw) _ h
  simp only [decide_eq_true_eq] at g
  obtain ⟨e, he, hx⟩ := List.mem_map.mp h
  have q := map_at (ckLs w hw) he
  try dsimp only at q
  rw [hx] at q
  exact ⟨big_of (tpA_in q) rfl, g⟩
theorem mn_in {w i a : Nat} (hw : w < 13) (h : (mnL w).contains (i, a) = true) : Cond.methodLinkNest (ownN w) i (mNm a) "ThimbleLaw" ∈ lw_tbl ∧ a < nMe := by
  have h := mem_of_contains h
  have g := List.all_eq_true.mp (ckNb w hw) _ h
  simp only [decide_eq_true_eq] at g
  obtain ⟨e, he, hx⟩ := List.mem_map.mp h
  have q := map_at (ckNs w hw) he
  try dsimp only at q
  rw [hx] at q
  exact ⟨tpA_in q, g⟩
theorem ac_in {w i : Nat} (h : acL.contains (w, i) = true) : Cond.methodLink (ownN w) i arraycopyName ∈ BIG := by
  have h := mem_of_contains h
  obtain ⟨e, he, hx⟩ := List.mem_map.mp h
  have q := map_at ckA he
  try dsimp only at q
  rw [hx] at q
  exact big_of (tpA_in q) rfl
theorem ma_in {w i t : Nat} (h : maL.contains (w, i, t) = true) : Cond.methodLink (ownN w) i (maN t) ∈ BIG := by
  have h := mem_of_contains h
  obtain ⟨e, he, hx⟩ := List.mem_map.mp h
  have q := map_at ckMa he
  try dsimp only at q
  rw [hx] at q
  exact big_of (tpA_in q) rfl
theorem ac2_in : Cond.native arraycopyName ∈ BIG ∧ Cond.static arraycopyName ∈ BIG ∧ Cond.initialized "java/lang/System" ∈ BIG :=
  ⟨big_of (tpA_in (List.cons.inj ckA2).1) rfl, big_of (tpA_in (List.cons.inj (List.cons.inj ckA2).2).1) rfl, big_of (tpA_in (List.cons.inj (List.cons.inj (List.cons.inj ckA2).2).2).1) rfl⟩
theorem ma2_in : Cond.initialized "java/lang/Math" ∈ BIG ∧ Cond.static Lib.Math.max.name ∈ BIG ∧ Cond.static Lib.Math.min.name ∈ BIG ∧ Cond.static Lib.Math.abs.name ∈ BIG ∧ Cond.code Lib.Math.max.name Lib.Math.max.code 2 (some .int) ∈ BIG ∧ Cond.code Lib.Math.min.name Lib.Math.min.code 2 (some .int) ∈ BIG ∧ Cond.code Lib.Math.abs.name Lib.Math.abs.code 1 (some .int) ∈ BIG := by
  have h := ckMa2
  simp only [maH, List.map_cons, List.cons.injEq] at h
  obtain ⟨a, b, c, d, e, f, g, -⟩ := h
  exact ⟨big_of (tpA_in a) rfl, big_of (tpA_in b) rfl, big_of (tpA_in c) rfl, big_of (tpA_in d) rfl, big_of (tpA_in e) rfl, big_of (tpA_in f) rfl, big_of (tpA_in g) rfl⟩
theorem kc_in {w i : Nat} {b : Int} (h : kcL.contains (w, i, b) = true) : Cond.constant (ownN w) i (Int32.ofInt b) ∈ BIG ∧ -2147483648 ≤ b ∧ b < 2147483648 := by
  have h := mem_of_contains h
  obtain ⟨e, he, hx⟩ := List.mem_map.mp h
  have q := map_at ckK he
  have g := List.all_eq_true.mp ckK2 e he
  simp only [decide_eq_true_eq] at g
  try dsimp only at q
  rw [hx] at q g
  exact ⟨big_of (tpA_in q) rfl, g⟩
theorem kl_in {w i : Nat} {b : Int} (h : klL.contains (w, i, b) = true) : Cond.constantLong (ownN w) i (Int64.ofInt b) ∈ BIG ∧ -9223372036854775808 ≤ b ∧ b < 9223372036854775808 := by
  have h := mem_of_contains h
  obtain ⟨e, he, hx⟩ := List.mem_map.mp h
  have q := map_at ckJ he
  have g := List.all_eq_true.mp ckJ2 e he
  simp only [decide_eq_true_eq] at g
  try dsimp only at q
  rw [hx] at q g
  exact ⟨big_of (tpA_in q) rfl, g⟩
theorem uw_in {c : Nat} (hc : c < 10) : ∀ w ∈ u_ws (clN c) (clT c) (clM c), w ∈ BIG := by
  intro w hw
  have h1 : some w ∈ (nth [] uwH c).map tpA := by rw [ckWs c hc]; exact List.mem_map.mpr ⟨w, hw, rfl⟩
  obtain ⟨q, -, hq⟩ := List.mem_map.mp h1
  refine big_of (tpA_in hq) ?_
  obtain ⟨k, -, rfl⟩ := List.mem_map.mp hw
  unfold u_lay
  split <;> rfl
theorem fcs_at {c : Nat} (hc : c < 10) : fcs[c]? = some (clN c, clT c, clM c) := nth_lt (d := ("", (fun _ => ("", "", "", false)), 0)) hc
theorem lkE_mem {pc : Nat} : ∀ {l : List cEn} {e : Instr × Nat × Nat × Int}, lkE pc l = some e → (pc, e) ∈ l
  | [], e, h => by cases h
  | x :: xs, e, h => by
    unfold lkE at h
    cases hb : Nat.beq x.1 pc with
    | true =>
      rw [hb] at h
      have h : some x.2 = some e := h
      have e1 : x.1 = pc := Nat.eq_of_beq_eq_true hb
      cases h
      rw [← e1]
      exact List.mem_cons_self
    | false =>
      rw [hb] at h
      exact List.mem_cons_of_mem _ (lkE_mem h)
theorem good_at {m pc nxt a : Nat} {ins : Instr} {b : Int} (hm : m < nMe) (h : codeAt m pc = some (ins, nxt, a, b)) : decode (mBy m) pc = .ok (ins, nxt - pc) ∧ goodI m pc ins nxt a b = true := by
  have h1 := lkE_mem h
  have h2 := List.all_eq_true.mp (ckE hm)
  rcases Nat.lt_or_ge (pc / 16) (nth2 [] cdT m).length with q | q
  · have h3 := List.all_eq_true.mp (h2 _ (nth_mem (d := []) q)) _ h1
    unfold goodE at h3
    simp only [Bool.and_eq_true, decide_eq_true_eq] at h3
    exact h3
  · rw [nth_ge q] at h1
    cases h1
end
section
theorem xI1.inv {st : List AV} {f : Int → List AV → Prop} (h : xI1 st f) : ∃ x r, st = vI x :: r ∧ f x r := by
  unfold xI1 at h; split at h
  · exact ⟨_, _, rfl, h⟩
  · exact h.elim
theorem xI2.inv {st : List AV} {f : Int → Int → List AV → Prop} (h : xI2 st f) : ∃ x y r, st = vI y :: vI x :: r ∧ f x y r := by
  unfold xI2 at h; split at h
  · exact ⟨_, _, _, rfl, h⟩
  · exact h.elim
theorem xL1.inv {st : List AV} {f : Int → List AV → Prop} (h : xL1 st f) : ∃ x r, st = vL x :: r ∧ f x r := by
  unfold xL1 at h; split at h
  · exact ⟨_, _, rfl, h⟩
  · exact h.elim
theorem xL2.inv {st : List AV} {f : Int → Int → List AV → Prop} (h : xL2 st f) : ∃ x y r, st = vL y :: vL x :: r ∧ f x y r := by
  unfold xL2 at h; split at h
  · exact ⟨_, _, _, rfl, h⟩
  · exact h.elim
theorem xLI.inv {st : List AV} {f : Int → Int → List AV → Prop} (h : xLI st f) : ∃ x y r, st = vI y :: vL x :: r ∧ f x y r := by
  unfold xLI at h; split at h
  · exact ⟨_, _, _, rfl, h⟩
  · exact h.elim
theorem xA1.inv {st : List AV} {f : Nat → List AV → Prop} (h : xA1 st f) : ∃ x r, st = vA x :: r ∧ f x r := by
  unfold xA1 at h; split at h
  · exact ⟨_, _, rfl, h⟩
  · exact h.elim
theorem xAI.inv {st : List AV} {f : Nat → Int → List AV → Prop} (h : xAI st f) : ∃ o i r, st = vI i :: vA o :: r ∧ f o i r := by
  unfold xAI at h; split at h
  · exact ⟨_, _, _, rfl, h⟩
  · exact h.elim
theorem ldI.inv {v : AV} {f : AV → Prop} (h : ldI v f) : ∃ x, v = vI x ∧ f (vI x) := by
  unfold ldI at h; split at h
  · exact ⟨_, rfl, h⟩
  · exact h.elim
theorem ldL.inv {v : AV} {f : AV → Prop} (h : ldL v f) : ∃ x, v = vL x ∧ f (vL x) := by
  unfold ldL at h; split at h
  · exact ⟨_, rfl, h⟩
  · exact h.elim
theorem ldA.inv {v : AV} {f : AV → Prop} (h : ldA v f) : ∃ x, v = some (.inr (.inr x)) ∧ f (some (.inr (.inr x))) := by
  unfold ldA at h; split at h
  · exact ⟨_, rfl, h⟩
  · exact h.elim
theorem ago.inv {o t : Nat} {i : Int} {f : Prop} (h : ago o t i f) : shK o = t ∧ (0 ≤ i ∧ i < (shN o : Int)) ∧ f := by
  unfold ago at h; split at h
  · exact h.elim
  · rename_i e; exact ⟨Nat.eq_of_beq_eq_true e, h⟩
theorem fgo.inv {ads : Nat → Nat} {h : Hp} {o ci : Nat} {k : Int} {f : AV → Prop} (hk : 0 ≤ k) (hh : okh h) (hf : fgo h o ci k f) : shK o = ci ∧ ∃ v, f (some v) ∧ cvv ads v = fvl ads h o k.toNat ∧ okv (some v) := by
  have ek : ((k.toNat : Nat) : Int) = k := by omega
  unfold fgo at hf; split at hf
  · exact hf.elim
  · rename_i e
    have e := Nat.eq_of_beq_eq_true e
    refine ⟨e, ?_⟩
    have hlc : fkOf ci k.toNat ≠ 2 → ci ≠ 103 → -2147483648 ≤ h o k ∧ h o k < 2147483648 := by
      intro q q2
      refine (hh o k).1 ?_
      unfold isLc
      rw [e]
      have a : Nat.beq ci 103 = false := by
        cases hb : Nat.beq ci 103 with
        | true => exact absurd (Nat.eq_of_beq_eq_true hb) q2
        | false => rfl
      have b : Nat.beq (fkOf ci k.toNat) 2 = false := by
        cases hb : Nat.beq (fkOf ci k.toNat) 2 with
        | true => exact absurd (Nat.eq_of_beq_eq_true hb) q
        | false => rfl
      rw [a, b]; rfl
    have hci : fkOf ci k.toNat ≠ 9 → ci ≠ 103 := by
      intro q q2
      rw [q2] at q
      exact q rfl
    split at hf
    · rename_i g
      refine ⟨_, hf, ?_, hlc (by omega) (hci (by omega))⟩
      unfold fvl; rw [e, g, ek]; rfl
    · rename_i g
      refine ⟨_, hf, ?_, hlc (by omega) (hci (by omega))⟩
      unfold fvl; rw [e, g, ek]; rfl
    · rename_i g
      refine ⟨_, hf, ?_, (hh o k).2⟩
      unfold fvl; rw [e, g, ek]; rfl
    · rename_i g
      split at hf
      · rename_i q hq
        refine ⟨_, hf, ?_, trivial⟩
        unfold fvl; rw [e, g, hq]; rfl
      · exact hf.elim
    · exact hf.elim
/-- what is held of the launch: the kinds of objects, the nest's words -/
def NX (U : State) : Prop := ∀ w i a, w < 13 → (mnL w).contains (i, a) = true → va_Nw (.methodLinkNest (ownN w) i (mNm a) "ThimbleLaw") U
def strT : String := "dries errs fine one brim standard do weep wash pour bend shrink day who stuff dent room kind drops coins tears of by above brims if then else end or and not "
def SX (ads : Nat → Nat) (U : State) : Prop := vk_R "ThimbleLaw$Reader" 88 strT (ads 96) U ∧ (∃ adV : Nat, vk_S 1 [157] [strB.map Int32.ofInt] (fun _ => ads 96) (fun _ => adV) (inA ads) U U.heap) ∧ va_Z "java/lang/String" "COMPACT_STRINGS" "Z" (.int 1) (inA ads) U U.heap ∧ va_Zq "jdk/internal/util/Preconditions" "SIOOBE_FORMATTER" "Ljava/util/function/BiFunction;" (inA ads) U U.heap
def Cxt (p : Program) (s : State) (mid : MethodId) (args : Array Value) (meth : Method) (c : Code) (m : Nat) : Prop :=
  p.tables.exec = Jvm.exec ∧ c.code = mBy m ∧ meth.sig.returnType = mRt m ∧ c.maxLocals = mLo m ∧ s.vm.findClass (mNm m).cls = some mid.cls ∧ (∀ w ∈ BIG, w.before args s = true) ∧ meth.locks = false
def QcM (ads : Nat → Nat) (cA : Nat → ClassId) (D : va_G) (Q : aPO) : Array Value → State → Outcome → State → Prop := fun _ st oc t =>
  (∃ (r : AV) (h : Hp), oc = .returned (r.map (cvv ads)) ∧ Q r h ∧ va_P D fcs (wld ads cA h) t.heap ∧ okh h ∧ okv r) ∧ va_F (inA ads) st t
def PW (l : Launch) (ads : Nat → Nat) (cA : Nat → ClassId) (D : va_G) : aRL := fun d m pc ls st h Q =>
  ∀ (p : Program) (e : Env) (R : Room) (s : State) (mid : MethodId) (args : Array Value) (below : List Frame) (meth : Method) (c : Code) (H : Heap) (locs : List Loc) (lsC : Array Slot),
    m < nMe → Cxt p s mid args meth c m → (d + 4 ≤ R.frames ∧ 40 * d + 200 ≤ R.locals) → va_K D fcs (tysL cA) s → NX s → SX ads s → okl ls → okl st → okh h → LR ads lsC (mLo m) ls → va_P D fcs (wld ads cA h) H → va_S (inA ads) s.heap H locs →
    W p l e R s mid args below meth c H locs 0 0 (MQ below (QcM ads cA D Q) args s 0 0 (inA ads)) (F0 mid pc lsC (st.map (cv ads)))
def rmD (d : Nat) : Room := { frames := d + 4, cells := 0, slots := 0, locals := 40 * d + 200 }
theorem W.imp {p : Program} {l : Launch} {e : Env} {R : Room} {s : State} {m : MethodId} {args : Array Value} {below : List Frame} {meth : Method} {c : Code} {H : Heap} {locs : List Loc} {cells slots : Nat} {Q Q' : State → Prop} {g : JFrame} (hQ : ∀ t, Q t → Q' t) (h : W p l e R s m args below meth c H locs cells slots Q g) : W p l e R s m args below meth c H locs cells slots Q' g := by
  intro T hT X
  obtain ⟨t, a, b⟩ := h T hT X
  exact ⟨t, a, hQ t b⟩
theorem PW.mono (l : Launch) (ads : Nat → Nat) (cA : Nat → ClassId) (D : va_G) : ∀ d m pc ls st h Q Q', (∀ r h2, Q r h2 → Q' r h2) → PW l ads cA D d m pc ls st h Q → PW l ads cA D d m pc ls st h Q' := by
  intro d m pc ls st h Q Q' hQ hp p e R s mid args below meth c H locs lsC a1 a2 a3 a4 a5 a6 a7 a8 a9 a10 a11 a12
  refine W.imp ?_ (hp p e R s mid args below meth c H locs lsC a1 a2 a3 a4 a5 a6 a7 a8 a9 a10 a11 a12)
  rintro t ⟨o, h1, h2, ⟨⟨r, h', e1, e2, e3⟩, h4⟩, h5⟩
  exact ⟨o, h1, h2, ⟨⟨r, h', e1, hQ _ _ e2, e3⟩, h4⟩, h5⟩
def PcM (ads : Nat → Nat) (cA : Nat → ClassId) (D : va_G) (av : List AV) (h : Hp) : Array Value → State → Prop := va_Pc (av.map (cv ads)) (fun U => va_P D fcs (wld ads cA h) U.heap ∧ va_K D fcs (tysL cA) U ∧ NX U ∧ SX ads U)
theorem met_in {l : Launch} {ads : Nat → Nat} {cA : Nat → ClassId} {D : va_G} {d a : Nat} {av : List AV} {h : Hp} {Q : aPO} (ha : a < nMe) (hX : PW l ads cA D d a 0 (pad (ents av) (mLo a)) [] h Q) (hlen : (ents av).length ≤ mLo a) (hokv : okl av) (hokh : okh h) :
    Met l (mNm a) (wsM a) (rmD d) (PcM ads cA D av h) (QcM ads cA D Q) 0 0 (inA ads) := by
  refine Met.ofW (cc := mBy a) (maxL := mLo a) (ret := mRt a) (gM_plain ha) rfl ?_
  intro p e s m args below meth c s₁ B hml hv
  obtain ⟨rfl, hP, hK, hN, hS0⟩ := hv
  rw [lg_entry_eq]
  exact hX p e (rmD d) s m _ below meth c s.heap [] _ ha ⟨B.exec, B.bytes, B.returns, hml, findClass_of_methodNamed B.named, fun w hw => atoms_spec (ws := wsM a) B.pre w (List.mem_cons_of_mem _ hw), B.notSynchronized⟩
    ⟨Nat.le_refl _, Nat.le_refl _⟩ hK hN hS0 (okl_pad (okl_ents hokv)) (fun _ h => absurd h List.not_mem_nil) hokh (LR.entry hlen) hP va_S.rf
theorem SX.kept {ads : Nat → Nat} {s U : State} {H : Heap} {locs : List Loc} (h : SX ads s) (hS : va_S (inA ads) s.heap H locs) (hU : U.heap = H) (hW : s.WarmedH U.vm) : SX ads U := by
  obtain ⟨h1, ⟨adV, h2⟩, h3, h4⟩ := h
  refine ⟨h1.warm hW, ⟨adV, ?_⟩, ?_, ?_⟩
  · rw [hU]; exact vk_S.moved hW.alike (vk_S.kept h2 hS.2.1)
  · rw [hU]; exact va_Z.moved hW.alike (va_Z.kept h3 hS.2.1)
  · rw [hU]; exact va_Zq.moved hW.alike (va_Zq.kept h4 hS.2.1)
theorem NX.kept {s U : State} (h : NX s) (hW : s.WarmedH U.vm) : NX U := fun w i a hw hc => (h w i a hw hc).warmM hW
theorem SX.same {ads : Nat → Nat} {U V : State} (h : SX ads U) (hv : V.vm = U.vm) (hh : V.heap = U.heap) : SX ads V := by
  obtain ⟨h1, ⟨adV, h2⟩, h3, h4⟩ := h
  have ha : U.vm.Alike V.vm := by rw [hv]; exact Vm.Alike.refl U.vm
  exact ⟨vk_R.same hv h1, ⟨adV, by rw [hh]; exact vk_S.moved ha h2⟩, by rw [hh]; exact va_Z.moved ha h3, by rw [hh]; exact va_Zq.moved ha h4⟩
theorem PcM.blind {ads : Nat → Nat} {cA : Nat → ClassId} {D : va_G} {av : List AV} {h : Hp} : FrameBlind (PcM ads cA D av h) := by
  intro a U g mk q
  obtain ⟨q0, qP, qK, qN, qS⟩ := q
  refine ⟨q0, qP, va_K.moved (u := U) (U := U.calling g mk a) (Vm.Alike.refl U.vm) qK, fun w i b hw hc => va_Nw.same rfl rfl (qN w i b hw hc), qS.same rfl rfl⟩
/-- behind a call -/
theorem call_on {p : Program} {l : Launch} {e : Env} {R : Room} {s : State} {mid : MethodId} {args : Array Value} {below : List Frame} {meth : Method} {c : Code} {H : Heap} {locs : List Loc} {QQ : State → Prop} {pc : Nat} {lsC : Array Slot} {st0 rest : List Value} {av : Array Value}
    {ads : Nat → Nat} {cA : Nat → ClassId} {D : va_G} {Q : aPO} (hr : va_Run p l e R s mid args below meth c H locs 0 0 0 0 (F0 mid pc lsC st0) rest (QcM ads cA D Q av) (inA ads)) (hS : va_S (inA ads) s.heap H locs)
    (kk : ∀ (r : AV) (h : Hp) (H1 : Heap) (locs1 : List Loc), Q r h → va_P D fcs (wld ads cA h) H1 → okh h → okv r → va_S (inA ads) s.heap H1 locs1 → W p l e R s mid args below meth c H1 locs1 0 0 QQ (F0 mid (pc + 3) lsC ((r.map (cvv ads)).toList ++ rest))) :
    W p l e R s mid args below meth c H locs 0 0 QQ (F0 mid pc lsC st0) := by
  intro T hT X
  obtain ⟨v, st₀, t, T', L, h0, X', hL, e1, e2, ⟨⟨r, h', hv, hq, hP', hok, hor⟩, hz, hk⟩, st⟩ := hr T hT X
  cases hv
  rw [h0] at hz hk
  obtain ⟨t2, a1, b1⟩ := kk r h' T'.heap (locs ++ L) hq (by rw [e1]; exact hP') hok hor ⟨Nat.le_trans hS.1 (by rw [e1]; exact hz), fun q h1 h2 => by rw [e1, hk q (Nat.lt_of_lt_of_le h1 hS.1) h2]; exact hS.2.1 q h1 h2, fun q hq => by
      rcases List.mem_append.mp hq with h | h
      · exact hS.2.2 q h
      · exact hL q h⟩ T' rfl X'
  exact ⟨t2, st t2 a1, b1⟩
theorem cat_map {ads : Nat → Nat} : ∀ (l : List AV), ((l.map (cv ads)).map fun v => v.category).sum = catS l
  | [] => rfl
  | some (.inr (.inl x)) :: r => by
    have := cat_map (ads := ads) r
    exact congrArg (fun z => 2 + z) this
  | some (.inl x) :: r => by
    have := cat_map (ads := ads) r
    exact congrArg (fun z => 1 + z) this
  | some (.inr (.inr none)) :: r => by
    have := cat_map (ads := ads) r
    exact congrArg (fun z => 1 + z) this
  | some (.inr (.inr (some o))) :: r => by
    have := cat_map (ads := ads) r
    exact congrArg (fun z => 1 + z) this
  | none :: r => by
    have := cat_map (ads := ads) r
    exact congrArg (fun z => 1 + z) this
theorem push_map {ads : Nat → Nat} {r : AV} {st : List AV} : (r.map (cvv ads)).toList ++ st.map (cv ads) = (pushR r st).map (cv ads) := by
  cases r <;> rfl
theorem okl_push {r : AV} {st : List AV} (hr : okv r) (h : okl st) : okl (pushR r st) := by
  cases r with
  | none => exact h
  | some v => exact okl.cons hr h
theorem okl_drop : ∀ {n : Nat} {st : List AV}, okl st → okl (dropN n st)
  | 0, st, h => h
  | n + 1, x :: xs, h => okl_drop (n := n) h.tl
  | n + 1, [], h => h
theorem okl_take {n : Nat} {st : List AV} (hl : (takeR n [] st).length = n) (h : okl st) : okl (takeR n [] st) := by
  have e := (takeR_spec n [] st (by simpa using hl)).1
  intro v hv
  apply h v
  rw [e]
  exact List.mem_append_left _ (List.mem_reverse.mpr hv)
theorem okC.inv {a : Nat} {st : List AV} (h : okC a st = true) : catS (dropN (nAr a) st) ≤ 8 ∧ (ents (takeR (nAr a) [] st)).length ≤ mLo a ∧ (takeR (nAr a) [] st).length = nAr a := by
  unfold okC at h
  simp only [Bool.and_eq_true] at h
  exact ⟨Nat.le_of_ble_eq_true h.1, Nat.le_of_ble_eq_true h.2.1, Nat.eq_of_beq_eq_true h.2.2⟩
end
section
def yJ_len : MethodName := ⟨"java/lang/String", "length", "()I"⟩
abbrev cJ_len : ByteArray := prog_17_method_54_code
theorem sw_code_len : Cond.code yJ_len cJ_len 1 (some .int) ∈ BIG := big_of (tpA_in (q := (2, 190)) rfl) rfl
theorem sw_in_len : Cond.instanceMethod yJ_len ∈ BIG := big_of (tpA_in (q := (2, 188)) rfl) rfl
theorem sw_sel_len : Cond.selects "java/lang/String" yJ_len yJ_len ∈ BIG := big_of (tpA_in (q := (2, 189)) rfl) rfl
theorem dJ_len_0 : decode cJ_len 0 = .ok (.aload_n 0, 1) := by decide +kernel
theorem dJ_len_1 : decode cJ_len 1 = .ok (.getfield 9, 3) := by decide +kernel
theorem dJ_len_4 : decode cJ_len 4 = .ok (.arraylength, 1) := by decide +kernel
theorem dJ_len_5 : decode cJ_len 5 = .ok (.aload_n 0, 1) := by decide +kernel
theorem dJ_len_6 : decode cJ_len 6 = .ok (.invokevirtual 335, 3) := by decide +kernel
theorem dJ_len_9 : decode cJ_len 9 = .ok (.ishr, 1) := by decide +kernel
theorem dJ_len_10 : decode cJ_len 10 = .ok (.ireturn, 1) := by decide +kernel
def yJ_cod : MethodName := ⟨"java/lang/String", "coder", "()B"⟩
abbrev cJ_cod : ByteArray := prog_17_method_152_code
theorem sw_code_cod : Cond.code yJ_cod cJ_cod 1 (some .byte) ∈ BIG := big_of (tpA_in (q := (2, 194)) rfl) rfl
theorem sw_in_cod : Cond.instanceMethod yJ_cod ∈ BIG := big_of (tpA_in (q := (2, 192)) rfl) rfl
theorem sw_sel_cod : Cond.selects "java/lang/String" yJ_cod yJ_cod ∈ BIG := big_of (tpA_in (q := (2, 193)) rfl) rfl
theorem dJ_cod_0 : decode cJ_cod 0 = .ok (.getstatic 38, 3) := by decide +kernel
theorem dJ_cod_3 : decode cJ_cod 3 = .ok (.ifCond .eq 10, 3) := by decide +kernel
theorem dJ_cod_6 : decode cJ_cod 6 = .ok (.aload_n 0, 1) := by decide +kernel
theorem dJ_cod_7 : decode cJ_cod 7 = .ok (.getfield 15, 3) := by decide +kernel
theorem dJ_cod_10 : decode cJ_cod 10 = .ok (.goto 4, 3) := by decide +kernel
theorem dJ_cod_13 : decode cJ_cod 13 = .ok (.iconst 1, 1) := by decide +kernel
theorem dJ_cod_14 : decode cJ_cod 14 = .ok (.ireturn, 1) := by decide +kernel
def yJ_chr : MethodName := ⟨"java/lang/String", "charAt", "(I)C"⟩
abbrev cJ_chr : ByteArray := prog_17_method_56_code
theorem sw_code_chr : Cond.code yJ_chr cJ_chr 2 (some .char) ∈ BIG := big_of (tpA_in (q := (2, 200)) rfl) rfl
theorem sw_in_chr : Cond.instanceMethod yJ_chr ∈ BIG := big_of (tpA_in (q := (2, 198)) rfl) rfl
theorem sw_sel_chr : Cond.selects "java/lang/String" yJ_chr yJ_chr ∈ BIG := big_of (tpA_in (q := (2, 199)) rfl) rfl
theorem dJ_chr_0 : decode cJ_chr 0 = .ok (.aload_n 0, 1) := by decide +kernel
theorem dJ_chr_1 : decode cJ_chr 1 = .ok (.invokevirtual 492, 3) := by decide +kernel
theorem dJ_chr_4 : decode cJ_chr 4 = .ok (.ifCond .eq 12, 3) := by decide +kernel
theorem dJ_chr_7 : decode cJ_chr 7 = .ok (.aload_n 0, 1) := by decide +kernel
theorem dJ_chr_8 : decode cJ_chr 8 = .ok (.getfield 9, 3) := by decide +kernel
theorem dJ_chr_11 : decode cJ_chr 11 = .ok (.iload_n 1, 1) := by decide +kernel
theorem dJ_chr_12 : decode cJ_chr 12 = .ok (.invokestatic 495, 3) := by decide +kernel
theorem dJ_chr_15 : decode cJ_chr 15 = .ok (.ireturn, 1) := by decide +kernel
theorem dJ_chr_16 : decode cJ_chr 16 = .ok (.aload_n 0, 1) := by decide +kernel
theorem dJ_chr_17 : decode cJ_chr 17 = .ok (.getfield 9, 3) := by decide +kernel
theorem dJ_chr_20 : decode cJ_chr 20 = .ok (.iload_n 1, 1) := by decide +kernel
theorem dJ_chr_21 : decode cJ_chr 21 = .ok (.invokestatic 498, 3) := by decide +kernel
theorem dJ_chr_24 : decode cJ_chr 24 = .ok (.ireturn, 1) := by decide +kernel
def yJ_isl : MethodName := ⟨"java/lang/String", "isLatin1", "()Z"⟩
abbrev cJ_isl : ByteArray := prog_17_method_154_code
theorem sw_code_isl : Cond.code yJ_isl cJ_isl 1 (some .boolean) ∈ BIG := big_of (tpA_in (q := (2, 204)) rfl) rfl
theorem sw_in_isl : Cond.instanceMethod yJ_isl ∈ BIG := big_of (tpA_in (q := (2, 202)) rfl) rfl
theorem sw_sel_isl : Cond.selects "java/lang/String" yJ_isl yJ_isl ∈ BIG := big_of (tpA_in (q := (2, 203)) rfl) rfl
theorem dJ_isl_0 : decode cJ_isl 0 = .ok (.getstatic 38, 3) := by decide +kernel
theorem dJ_isl_3 : decode cJ_isl 3 = .ok (.ifCond .eq 14, 3) := by decide +kernel
theorem dJ_isl_6 : decode cJ_isl 6 = .ok (.aload_n 0, 1) := by decide +kernel
theorem dJ_isl_7 : decode cJ_isl 7 = .ok (.getfield 15, 3) := by decide +kernel
theorem dJ_isl_10 : decode cJ_isl 10 = .ok (.ifCond .ne 7, 3) := by decide +kernel
theorem dJ_isl_13 : decode cJ_isl 13 = .ok (.iconst 1, 1) := by decide +kernel
theorem dJ_isl_14 : decode cJ_isl 14 = .ok (.goto 4, 3) := by decide +kernel
theorem dJ_isl_17 : decode cJ_isl 17 = .ok (.iconst 0, 1) := by decide +kernel
theorem dJ_isl_18 : decode cJ_isl 18 = .ok (.ireturn, 1) := by decide +kernel
def yJ_l1c : MethodName := ⟨"java/lang/StringLatin1", "charAt", "([BI)C"⟩
abbrev cJ_l1c : ByteArray := prog_18_method_2_code
theorem sw_code_l1c : Cond.code yJ_l1c cJ_l1c 2 (some .char) ∈ BIG := big_of (tpA_in (q := (2, 207)) rfl) rfl
theorem sw_st_l1c : Cond.static yJ_l1c ∈ BIG := big_of (tpA_in (q := (2, 206)) rfl) rfl
theorem dJ_l1c_0 : decode cJ_l1c 0 = .ok (.iload_n 1, 1) := by decide +kernel
theorem dJ_l1c_1 : decode cJ_l1c 1 = .ok (.aload_n 0, 1) := by decide +kernel
theorem dJ_l1c_2 : decode cJ_l1c 2 = .ok (.arraylength, 1) := by decide +kernel
theorem dJ_l1c_3 : decode cJ_l1c 3 = .ok (.invokestatic 9, 3) := by decide +kernel
theorem dJ_l1c_6 : decode cJ_l1c 6 = .ok (.aload_n 0, 1) := by decide +kernel
theorem dJ_l1c_7 : decode cJ_l1c 7 = .ok (.iload_n 1, 1) := by decide +kernel
theorem dJ_l1c_8 : decode cJ_l1c 8 = .ok (.baload, 1) := by decide +kernel
theorem dJ_l1c_9 : decode cJ_l1c 9 = .ok (.sipush 255, 3) := by decide +kernel
theorem dJ_l1c_12 : decode cJ_l1c 12 = .ok (.iand, 1) := by decide +kernel
theorem dJ_l1c_13 : decode cJ_l1c 13 = .ok (.i2c, 1) := by decide +kernel
theorem dJ_l1c_14 : decode cJ_l1c 14 = .ok (.ireturn, 1) := by decide +kernel
def yJ_sci : MethodName := ⟨"java/lang/String", "checkIndex", "(II)V"⟩
abbrev cJ_sci : ByteArray := prog_17_method_155_code
theorem sw_code_sci : Cond.code yJ_sci cJ_sci 2 none ∈ BIG := big_of (tpA_in (q := (2, 210)) rfl) rfl
theorem sw_st_sci : Cond.static yJ_sci ∈ BIG := big_of (tpA_in (q := (2, 209)) rfl) rfl
theorem dJ_sci_0 : decode cJ_sci 0 = .ok (.iload_n 0, 1) := by decide +kernel
theorem dJ_sci_1 : decode cJ_sci 1 = .ok (.iload_n 1, 1) := by decide +kernel
theorem dJ_sci_2 : decode cJ_sci 2 = .ok (.getstatic 1053, 3) := by decide +kernel
theorem dJ_sci_5 : decode cJ_sci 5 = .ok (.invokestatic 1059, 3) := by decide +kernel
theorem dJ_sci_8 : decode cJ_sci 8 = .ok (.pop, 1) := by decide +kernel
theorem dJ_sci_9 : decode cJ_sci 9 = .ok (.return_, 1) := by decide +kernel
def yJ_pci : MethodName := ⟨"jdk/internal/util/Preconditions", "checkIndex", "(IILjava/util/function/BiFunction;)I"⟩
abbrev cJ_pci : ByteArray := prog_21_method_11_code
theorem sw_code_pci : Cond.code yJ_pci cJ_pci 3 (some .int) ∈ BIG := big_of (tpA_in (q := (2, 215)) rfl) rfl
theorem sw_st_pci : Cond.static yJ_pci ∈ BIG := big_of (tpA_in (q := (2, 214)) rfl) rfl
theorem dJ_pci_0 : decode cJ_pci 0 = .ok (.iload_n 0, 1) := by decide +kernel
theorem dJ_pci_1 : decode cJ_pci 1 = .ok (.ifCond .lt 8, 3) := by decide +kernel
theorem dJ_pci_4 : decode cJ_pci 4 = .ok (.iload_n 0, 1) := by decide +kernel
theorem dJ_pci_5 : decode cJ_pci 5 = .ok (.iload_n 1, 1) := by decide +kernel
theorem dJ_pci_6 : decode cJ_pci 6 = .ok (.if_icmp .lt 10, 3) := by decide +kernel
theorem dJ_pci_9 : decode cJ_pci 9 = .ok (.aload_n 2, 1) := by decide +kernel
theorem dJ_pci_10 : decode cJ_pci 10 = .ok (.iload_n 0, 1) := by decide +kernel
theorem dJ_pci_11 : decode cJ_pci 11 = .ok (.iload_n 1, 1) := by decide +kernel
theorem dJ_pci_12 : decode cJ_pci 12 = .ok (.invokestatic 95, 3) := by decide +kernel
theorem dJ_pci_15 : decode cJ_pci 15 = .ok (.athrow, 1) := by decide +kernel
theorem dJ_pci_16 : decode cJ_pci 16 = .ok (.iload_n 0, 1) := by decide +kernel
theorem dJ_pci_17 : decode cJ_pci 17 = .ok (.ireturn, 1) := by decide +kernel
theorem sw_ini_S : Cond.initialized "java/lang/String" ∈ BIG := big_of (tpA_in (q := (1, 12)) rfl) rfl
theorem sw_ini_L : Cond.initialized "java/lang/StringLatin1" ∈ BIG := big_of (tpA_in (q := (1, 13)) rfl) rfl
theorem sw_ini_P : Cond.initialized "jdk/internal/util/Preconditions" ∈ BIG := big_of (tpA_in (q := (1, 14)) rfl) rfl
theorem sw_fval : Cond.fieldLink "java/lang/String" 9 "java/lang/String" "value" "[B" ∈ BIG := big_of (tpA_in (q := (8, 58)) rfl) rfl
theorem sw_fcod : Cond.fieldLink "java/lang/String" 15 "java/lang/String" "coder" "B" ∈ BIG := big_of (tpA_in (q := (8, 59)) rfl) rfl
theorem sw_fcmp : Cond.fieldLink "java/lang/String" 38 "java/lang/String" "COMPACT_STRINGS" "Z" ∈ BIG := big_of (tpA_in (q := (2, 195)) rfl) rfl
theorem sw_fsio : Cond.fieldLink "java/lang/String" 1053 "jdk/internal/util/Preconditions" "SIOOBE_FORMATTER" "Ljava/util/function/BiFunction;" ∈ BIG := big_of (tpA_in (q := (2, 211)) rfl) rfl
theorem sw_mcod : Cond.methodLink "java/lang/String" 335 yJ_cod ∈ BIG := big_of (tpA_in (q := (2, 191)) rfl) rfl
theorem sw_misl : Cond.methodLink "java/lang/String" 492 yJ_isl ∈ BIG := big_of (tpA_in (q := (2, 201)) rfl) rfl
theorem sw_ml1c : Cond.methodLink "java/lang/String" 495 yJ_l1c ∈ BIG := big_of (tpA_in (q := (2, 205)) rfl) rfl
theorem sw_msci : Cond.methodLink "java/lang/StringLatin1" 9 yJ_sci ∈ BIG := big_of (tpA_in (q := (2, 208)) rfl) rfl
theorem sw_mpci : Cond.methodLink "java/lang/String" 1059 yJ_pci ∈ BIG := big_of (tpA_in (q := (2, 213)) rfl) rfl
theorem sw_mlen : Cond.methodLink "ThimbleLaw$Reader" 90 yJ_len ∈ BIG := big_of (tpA_in (q := (2, 187)) rfl) rfl
theorem sw_mchr : Cond.methodLink "ThimbleLaw$Reader" 95 yJ_chr ∈ BIG := big_of (tpA_in (q := (2, 197)) rfl) rfl
/-! THE JDK's OWN METHODS over the one text: they read, and change nothing -/
def QrM (v : Option Value) : Array Value → State → Outcome → State → Prop := fun _ st oc t => oc = .returned v ∧ t.heap = st.heap
def PrM (ads : Nat → Nat) (av : List Value) : Array Value → State → Prop := va_Pc av (fun U => SX ads U)
theorem PrM.blind {ads : Nat → Nat} {av : List Value} : FrameBlind (PrM ads av) := fun a U g mk q => ⟨q.1, q.2.same rfl rfl⟩
def rmJ (d : Nat) : Room := { frames := d, cells := 0, slots := 0, locals := 40 * d }
theorem call_rd {p : Program} {l : Launch} {e : Env} {R : Room} {s : State} {mid : MethodId} {args : Array Value} {below : List Frame} {meth : Method} {c : Code} {H : Heap} {locs : List Loc} {QQ : State → Prop} {pc : Nat} {lsC : Array Slot} {st0 rest : List Value} {av : Array Value} {v : Option Value}
    (hr : va_Run p l e R s mid args below meth c H locs 0 0 0 0 (F0 mid pc lsC st0) rest (QrM v av) (fun _ => False))
    (kk : W p l e R s mid args below meth c H locs 0 0 QQ (F0 mid (pc + 3) lsC (v.toList ++ rest))) :
    W p l e R s mid args below meth c H locs 0 0 QQ (F0 mid pc lsC st0) := by
  intro T hT X
  obtain ⟨v2, st₀, t, T', L, h0, X', hL, e1, e2, ⟨hv, hh⟩, st⟩ := hr T hT X
  have hv := Outcome.returned.inj hv
  subst hv
  have hL0 : L = [] := by
    cases L with
    | nil => rfl
    | cons q L => exact (hL q List.mem_cons_self).elim
  subst hL0
  rw [List.append_nil] at X'
  obtain ⟨t2, a1, b1⟩ := kk T' (by rw [e1, hh, h0]) X'
  exact ⟨t2, st t2 a1, b1⟩
def wsJ (y : MethodName) (b : ByteArray) (n : Nat) (r : Option FieldType) : List Cond := .code y b n r :: BIG
theorem wsJ_ok {y : MethodName} {b : ByteArray} {n : Nat} {r : Option FieldType} (h : Cond.code y b n r ∈ BIG) : GoodIn BIG (wsJ y b n r) := fun w hw => by
  rcases List.mem_cons.mp hw with rfl | hw
  · exact big_ok _ h
  · exact big_ok _ hw
section STRJ
variable {l : Launch} {ads : Nat → Nat}
set_option maxHeartbeats 4000000 in
theorem met_pci (i : Int) (h0 : 0 ≤ i) (h1 : i < 157) (fv : Value) (hf : fv = .null ∨ ∃ t, fv = .ref t) : Met l yJ_pci (wsJ yJ_pci cJ_pci 3 (some .int)) (rmJ 0) (PrM ads [.int (Int32.ofInt i), .int (Int32.ofInt 157), fv]) (QrM (some (.int (Int32.ofInt i)))) 0 0 (fun _ => False) := by
  refine Met.ofW (cc := cJ_pci) (maxL := 3) (ret := some .int) (by decide) rfl ?_
  intro p e s m args below meth c s₁ B hml hv
  obtain ⟨rfl, hX⟩ := hv
  have hx := B.exec
  have hb := B.bytes
  have hr := B.returns
  have hlocks := B.notSynchronized
  have hl := lv_entry ([.int (Int32.ofInt i), .int (Int32.ofInt 157), fv]) (n := 3) (by rcases hf with rfl | ⟨t, rfl⟩ <;> exact Nat.le_of_ble_eq_true rfl)
  rw [lg_entry_eq]
  generalize (lg_sl ([.int (Int32.ofInt i), .int (Int32.ofInt 157), fv]) ++ List.replicate (3 - (lg_sl ([.int (Int32.ofInt i), .int (Int32.ofInt 157), fv])).length) Slot.unset).toArray = ls at hl ⊢
  have z0 : (0 : Int32) = Int32.ofInt 0 := rfl
  refine lv_iload_n hx hb dJ_pci_0 rfl (lv_at hl 0 rfl) ?_
  refine lv_if_lt (tgt := 9) hx hb dJ_pci_1 (by decide) (fun c1 => ?_) (fun _ => ?_)
  · rw [z0, i32lt (by omega) (by omega)] at c1
    omega
  refine lv_iload_n hx hb dJ_pci_4 rfl (lv_at hl 0 rfl) ?_
  refine lv_iload_n hx hb dJ_pci_5 rfl (lv_at hl 1 rfl) ?_
  refine lv_icmp_lt (tgt := 16) hx hb dJ_pci_6 (by decide) (fun _ => ?_) (fun c1 => ?_)
  · refine lv_iload_n hx hb dJ_pci_16 rfl (lv_at hl 0 rfl) ?_
    exact W.iret hx hb hr (fun t ht hW => ⟨rfl, ht⟩) (fun q hq => by cases hq) dJ_pci_17
  · rw [i32lt (by omega) (by omega)] at c1
    omega
set_option maxHeartbeats 4000000 in
theorem met_sci (i : Int) (h0 : 0 ≤ i) (h1 : i < 157) : Met l yJ_sci (wsJ yJ_sci cJ_sci 2 none) (rmJ 1) (PrM ads [.int (Int32.ofInt i), .int (Int32.ofInt 157)]) (QrM none) 0 0 (fun _ => False) := by
  refine Met.ofW (cc := cJ_sci) (maxL := 2) (ret := none) (by decide) rfl ?_
  intro p e s m args below meth c s₁ B hml hv
  obtain ⟨rfl, hX⟩ := hv
  have hx := B.exec
  have hb := B.bytes
  have hr := B.returns
  have hlocks := B.notSynchronized
  have hown : s.vm.findClass "java/lang/String" = some m.cls := findClass_of_methodNamed B.named
  have hts : ∀ w ∈ BIG, w.before _ s = true := fun w hw => atoms_spec (ws := wsJ yJ_sci cJ_sci 2 none) B.pre w (List.mem_cons_of_mem _ hw)
  have hl := lv_entry ([.int (Int32.ofInt i), .int (Int32.ofInt 157)]) (n := 2) (Nat.le_of_ble_eq_true rfl)
  rw [lg_entry_eq]
  generalize (lg_sl ([.int (Int32.ofInt i), .int (Int32.ofInt 157)]) ++ List.replicate (2 - (lg_sl ([.int (Int32.ofInt i), .int (Int32.ofInt 157)])).length) Slot.unset).toArray = ls at hl ⊢
  refine lv_iload_n hx hb dJ_sci_0 rfl (lv_at hl 0 rfl) ?_
  refine lv_iload_n hx hb dJ_sci_1 rfl (lv_at hl 1 rfl) ?_
  have fin : ∀ fv : Value, (fv = .null ∨ ∃ t, fv = .ref t) → W p l e (headSpec (wsJ yJ_sci cJ_sci 2 none) (rmJ 1)).room s m #[Value.int (Int32.ofInt i), Value.int (Int32.ofInt 157)] below meth c s.heap [] 0 0 (MQ below (QrM none) #[Value.int (Int32.ofInt i), Value.int (Int32.ofInt 157)] s 0 0 (fun _ => False)) (F0 m 5 ls (fv :: .int (Int32.ofInt 157) :: .int (Int32.ofInt i) :: [])) := by
    intro fv hf
    refine call_rd (v := some (.int (Int32.ofInt i))) (rest := []) (va_runS (As := [.int (Int32.ofInt i), .int (Int32.ofInt 157), fv]) ⟨hx, hb, hml, hown, hts⟩ (met_pci (ads := ads) i h0 h1 fv hf) ⟨callB_of 3 hts (wsJ_ok sw_code_pci) rfl rfl rfl (hts _ sw_ini_P) (hts _ sw_mpci) (by decide +kernel) ⟨Nat.le_of_ble_eq_true rfl, Nat.le_of_ble_eq_true rfl⟩, hts _ sw_st_pci⟩ ⟨PrM.blind, fun U hU hW => ⟨rfl, hX.kept va_S.rf hU hW⟩⟩ rfl rfl hl.1 rfl (lv_room (Nat.le_of_ble_eq_true rfl)) dJ_sci_5 ⟨Nat.le_refl _, Nat.le_refl _⟩) ?_
    refine lv_pop hx hb dJ_sci_8 rfl ?_
    exact W.vret hx hb hr (fun t ht hW => ⟨rfl, ht⟩) (fun q hq => by cases hq) dJ_sci_9
  rcases hX.2.2.2 with hz | ⟨t, hz⟩
  · exact va_gets (C := "jdk/internal/util/Preconditions") (own := "java/lang/String") hx hb hz va_S.rf hown (hts _ sw_fsio) (fun _ h9 => h9) dJ_sci_2 (fin .null (Or.inl rfl))
  · exact va_gets (C := "jdk/internal/util/Preconditions") (own := "java/lang/String") hx hb hz va_S.rf hown (hts _ sw_fsio) (fun _ h9 => h9) dJ_sci_2 (fin (.ref t) (Or.inr ⟨t, rfl⟩))
/-- the bytes of the text -/
theorem strB_at : ∀ k, k < 157 → ([strB.map Int32.ofInt].getD 0 []).getD k 0 = Int32.ofInt (nth 0 strB k) := by decide +kernel
theorem strB_ch : ∀ k, k < 157 → ((Int32.ofInt (nth 0 strB k) &&& 255).toUInt32 % 65536).toInt32 = Int32.ofInt (nth 0 strB k) := by decide +kernel
theorem strB_nar : ∀ k, k < 157 → narrow .char (.int (Int32.ofInt (nth 0 strB k))) = .int (Int32.ofInt (nth 0 strB k)) := by decide +kernel
set_option maxHeartbeats 4000000 in
theorem met_l1c (adV : Nat) (i : Int) (h0 : 0 ≤ i) (h1 : i < 157) : Met l yJ_l1c (wsJ yJ_l1c cJ_l1c 2 (some .char)) (rmJ 2) (va_Pc [.ref adV, .int (Int32.ofInt i)] (fun U => SX ads U ∧ vk_S 1 [157] [strB.map Int32.ofInt] (fun _ => ads 96) (fun _ => adV) (inA ads) U U.heap)) (QrM (some (.int (Int32.ofInt (nth 0 strB i.toNat))))) 0 0 (fun _ => False) := by
  refine Met.ofW (cc := cJ_l1c) (maxL := 2) (ret := some .char) (by decide) rfl ?_
  intro p e s m args below meth c s₁ B hml hv
  obtain ⟨rfl, hX, hV⟩ := hv
  have hx := B.exec
  have hb := B.bytes
  have hr := B.returns
  have hlocks := B.notSynchronized
  have hown : s.vm.findClass "java/lang/StringLatin1" = some m.cls := findClass_of_methodNamed B.named
  have hts : ∀ w ∈ BIG, w.before _ s = true := fun w hw => atoms_spec (ws := wsJ yJ_l1c cJ_l1c 2 (some .char)) B.pre w (List.mem_cons_of_mem _ hw)
  have hl := lv_entry ([.ref adV, .int (Int32.ofInt i)]) (n := 2) (Nat.le_of_ble_eq_true rfl)
  rw [lg_entry_eq]
  generalize (lg_sl ([.ref adV, .int (Int32.ofInt i)]) ++ List.replicate (2 - (lg_sl ([.ref adV, .int (Int32.ofInt i)])).length) Slot.unset).toArray = ls at hl ⊢
  have hT := (hV.1 0 (by decide)).2.2.2
  refine lv_iload_n hx hb dJ_l1c_0 rfl (lv_at hl 1 rfl) ?_
  refine lv_aload_n hx hb dJ_l1c_1 rfl (lv_at hl 0 rfl) ?_
  refine va_tlen hx hb hT va_S.rf (v := Int32.ofInt 157) rfl dJ_l1c_2 ?_
  refine call_rd (v := none) (rest := []) (va_runS (As := [.int (Int32.ofInt i), .int (Int32.ofInt 157)]) ⟨hx, hb, hml, hown, hts⟩ (met_sci (ads := ads) i h0 h1) ⟨callB_of 2 hts (wsJ_ok sw_code_sci) rfl rfl rfl (hts _ sw_ini_S) (hts _ sw_msci) (by decide +kernel) ⟨Nat.le_of_ble_eq_true rfl, Nat.le_of_ble_eq_true rfl⟩, hts _ sw_st_sci⟩ ⟨PrM.blind, fun U hU hW => ⟨rfl, hX.kept va_S.rf hU hW⟩⟩ rfl rfl hl.1 rfl (lv_room (Nat.le_of_ble_eq_true rfl)) dJ_l1c_3 ⟨Nat.le_refl _, Nat.le_refl _⟩) ?_
  refine lv_aload_n hx hb dJ_l1c_6 rfl (lv_at hl 0 rfl) ?_
  refine lv_iload_n hx hb dJ_l1c_7 rfl (lv_at hl 1 rfl) ?_
  refine va_tb hx hb hT va_S.rf (i32in (n := 157) h0 h1 (by omega)) (v := .int (Int32.ofInt (nth 0 strB i.toNat))) ?_ dJ_l1c_8 ?_
  · rw [i32clamp h0 (by omega)]
    exact congrArg Value.int (strB_at _ (by omega))
  refine lv_sipush hx hb dJ_l1c_9 (v := 255) (by decide) ?_
  refine lv_iand hx hb dJ_l1c_12 ?_
  refine lv_i2c hx hb dJ_l1c_13 (strB_ch _ (by omega)) ?_
  exact W.zret hx hb hr (strB_nar _ (by omega)) (fun t ht hW => ⟨rfl, ht⟩) (fun q hq => by cases hq) dJ_l1c_14
set_option maxHeartbeats 4000000 in
theorem met_cod : Met l yJ_cod (wsJ yJ_cod cJ_cod 1 (some .byte)) (rmJ 0) (PrM ads [.ref (ads 96)]) (QrM (some (.int 0))) 0 0 (fun _ => False) := by
  refine Met.ofW (cc := cJ_cod) (maxL := 1) (ret := some .byte) (by decide) rfl ?_
  intro p e s m args below meth c s₁ B hml hv
  obtain ⟨rfl, hX⟩ := hv
  have hx := B.exec
  have hb := B.bytes
  have hr := B.returns
  have hlocks := B.notSynchronized
  have hown : s.vm.findClass "java/lang/String" = some m.cls := findClass_of_methodNamed B.named
  have hts : ∀ w ∈ BIG, w.before _ s = true := fun w hw => atoms_spec (ws := wsJ yJ_cod cJ_cod 1 (some .byte)) B.pre w (List.mem_cons_of_mem _ hw)
  have hl := lv_entry ([.ref (ads 96)]) (n := 1) (Nat.le_of_ble_eq_true rfl)
  rw [lg_entry_eq]
  generalize (lg_sl ([.ref (ads 96)]) ++ List.replicate (1 - (lg_sl ([.ref (ads 96)])).length) Slot.unset).toArray = ls at hl ⊢
  obtain ⟨hR, ⟨adV, hV⟩, hZ, hZq⟩ := hX
  refine va_gets (C := "java/lang/String") (own := "java/lang/String") hx hb hZ va_S.rf hown (hts _ sw_fcmp) (fun _ h9 => h9) dJ_cod_0 ?_
  refine lv_if_eq (tgt := 13) hx hb dJ_cod_3 (by decide) (fun c1 => absurd c1 (by decide)) (fun _ => ?_)
  refine lv_aload_n hx hb dJ_cod_6 rfl (lv_at hl 0 rfl) ?_
  refine vk_getf (own := "java/lang/String") hx hb (hV.1 0 (by decide)).2.1 va_S.rf hown (hts _ sw_fcod) (fun _ h9 => h9) dJ_cod_7 ?_
  refine lv_goto (tgt := 14) hx hb dJ_cod_10 (by decide) ?_
  exact W.zret hx hb hr rfl (fun t ht hW => ⟨rfl, ht⟩) (fun q hq => by cases hq) dJ_cod_14
set_option maxHeartbeats 4000000 in
theorem met_isl : Met l yJ_isl (wsJ yJ_isl cJ_isl 1 (some .boolean)) (rmJ 0) (PrM ads [.ref (ads 96)]) (QrM (some (.int 1))) 0 0 (fun _ => False) := by
  refine Met.ofW (cc := cJ_isl) (maxL := 1) (ret := some .boolean) (by decide) rfl ?_
  intro p e s m args below meth c s₁ B hml hv
  obtain ⟨rfl, hX⟩ := hv
  have hx := B.exec
  have hb := B.bytes
  have hr := B.returns
  have hlocks := B.notSynchronized
  have hown : s.vm.findClass "java/lang/String" = some m.cls := findClass_of_methodNamed B.named
  have hts : ∀ w ∈ BIG, w.before _ s = true := fun w hw => atoms_spec (ws := wsJ yJ_isl cJ_isl 1 (some .boolean)) B.pre w (List.mem_cons_of_mem _ hw)
  have hl := lv_entry ([.ref (ads 96)]) (n := 1) (Nat.le_of_ble_eq_true rfl)
  rw [lg_entry_eq]
  generalize (lg_sl ([.ref (ads 96)]) ++ List.replicate (1 - (lg_sl ([.ref (ads 96)])).length) Slot.unset).toArray = ls at hl ⊢
  obtain ⟨hR, ⟨adV, hV⟩, hZ, hZq⟩ := hX
  refine va_gets (C := "java/lang/String") (own := "java/lang/String") hx hb hZ va_S.rf hown (hts _ sw_fcmp) (fun _ h9 => h9) dJ_isl_0 ?_
  refine lv_if_eq (tgt := 17) hx hb dJ_isl_3 (by decide) (fun c1 => absurd c1 (by decide)) (fun _ => ?_)
  refine lv_aload_n hx hb dJ_isl_6 rfl (lv_at hl 0 rfl) ?_
  refine vk_getf (own := "java/lang/String") hx hb (hV.1 0 (by decide)).2.1 va_S.rf hown (hts _ sw_fcod) (fun _ h9 => h9) dJ_isl_7 ?_
  refine lv_if_ne (tgt := 17) hx hb dJ_isl_10 (by decide) (fun c1 => absurd rfl c1) (fun _ => ?_)
  refine lv_iconst (v := 1) hx hb dJ_isl_13 (by decide) ?_
  refine lv_goto (tgt := 18) hx hb dJ_isl_14 (by decide) ?_
  exact W.zret hx hb hr rfl (fun t ht hW => ⟨rfl, ht⟩) (fun q hq => by cases hq) dJ_isl_18
set_option maxHeartbeats 4000000 in
theorem met_len : Met l yJ_len (wsJ yJ_len cJ_len 1 (some .int)) (rmJ 1) (PrM ads [.ref (ads 96)]) (QrM (some (.int (Int32.ofInt 157)))) 0 0 (fun _ => False) := by
  refine Met.ofW (cc := cJ_len) (maxL := 1) (ret := some .int) (by decide) rfl ?_
  intro p e s m args below meth c s₁ B hml hv
  obtain ⟨rfl, hX⟩ := hv
  have hx := B.exec
  have hb := B.bytes
  have hr := B.returns
  have hlocks := B.notSynchronized
  have hown : s.vm.findClass "java/lang/String" = some m.cls := findClass_of_methodNamed B.named
  have hts : ∀ w ∈ BIG, w.before _ s = true := fun w hw => atoms_spec (ws := wsJ yJ_len cJ_len 1 (some .int)) B.pre w (List.mem_cons_of_mem _ hw)
  have hl := lv_entry ([.ref (ads 96)]) (n := 1) (Nat.le_of_ble_eq_true rfl)
  rw [lg_entry_eq]
  generalize (lg_sl ([.ref (ads 96)]) ++ List.replicate (1 - (lg_sl ([.ref (ads 96)])).length) Slot.unset).toArray = ls at hl ⊢
  obtain ⟨hR, ⟨adV, hV⟩, hZ, hZq⟩ := id hX
  refine lv_aload_n hx hb dJ_len_0 rfl (lv_at hl 0 rfl) ?_
  refine vk_getf (own := "java/lang/String") hx hb (hV.1 0 (by decide)).2.2.1 va_S.rf hown (hts _ sw_fval) (fun _ h9 => h9) dJ_len_1 ?_
  refine va_tlen hx hb (hV.1 0 (by decide)).2.2.2 va_S.rf (v := Int32.ofInt 157) rfl dJ_len_4 ?_
  refine lv_aload_n hx hb dJ_len_5 rfl (lv_at hl 0 rfl) ?_
  refine call_rd (v := some (.int 0)) (rest := [.int (Int32.ofInt 157)]) (va_runV (C := "java/lang/String") (As := []) ⟨hx, hb, hml, hown, hts⟩ (met_cod (ads := ads)) ⟨callB_of 0 hts (wsJ_ok sw_code_cod) rfl rfl rfl (hts _ sw_ini_S) (hts _ sw_mcod) (by decide +kernel) ⟨Nat.le_of_ble_eq_true rfl, Nat.le_of_ble_eq_true rfl⟩, hts _ sw_in_cod, hts _ sw_sel_cod⟩ ⟨PrM.blind, vk_recv hV (i := 0) (by decide) va_S.rf, fun U hU hW => ⟨rfl, hX.kept va_S.rf hU hW⟩⟩ rfl rfl hl.1 rfl (lv_room (Nat.le_of_ble_eq_true rfl)) dJ_len_6 ⟨Nat.le_refl _, Nat.le_refl _⟩) ?_
  refine lv_ishr hx hb dJ_len_9 ?_
  exact W.iret (v := Int32.ofInt 157) hx hb hr (fun t ht hW => ⟨rfl, ht⟩) (fun q hq => by cases hq) dJ_len_10
set_option maxHeartbeats 4000000 in
theorem met_chr (i : Int) (h0 : 0 ≤ i) (h1 : i < 157) : Met l yJ_chr (wsJ yJ_chr cJ_chr 2 (some .char)) (rmJ 3) (PrM ads [.ref (ads 96), .int (Int32.ofInt i)]) (QrM (some (.int (Int32.ofInt (nth 0 strB i.toNat))))) 0 0 (fun _ => False) := by
  refine Met.ofW (cc := cJ_chr) (maxL := 2) (ret := some .char) (by decide) rfl ?_
  intro p e s m args below meth c s₁ B hml hv
  obtain ⟨rfl, hX⟩ := hv
  have hx := B.exec
  have hb := B.bytes
  have hr := B.returns
  have hlocks := B.notSynchronized
  have hown : s.vm.findClass "java/lang/String" = some m.cls := findClass_of_methodNamed B.named
  have hts : ∀ w ∈ BIG, w.before _ s = true := fun w hw => atoms_spec (ws := wsJ yJ_chr cJ_chr 2 (some .char)) B.pre w (List.mem_cons_of_mem _ hw)
  have hl := lv_entry ([.ref (ads 96), .int (Int32.ofInt i)]) (n := 2) (Nat.le_of_ble_eq_true rfl)
  rw [lg_entry_eq]
  generalize (lg_sl ([.ref (ads 96), .int (Int32.ofInt i)]) ++ List.replicate (2 - (lg_sl ([.ref (ads 96), .int (Int32.ofInt i)])).length) Slot.unset).toArray = ls at hl ⊢
  obtain ⟨hR, ⟨adV, hV⟩, hZ, hZq⟩ := id hX
  refine lv_aload_n hx hb dJ_chr_0 rfl (lv_at hl 0 rfl) ?_
  refine call_rd (v := some (.int 1)) (rest := []) (va_runV (C := "java/lang/String") (As := []) ⟨hx, hb, hml, hown, hts⟩ (met_isl (ads := ads)) ⟨callB_of 0 hts (wsJ_ok sw_code_isl) rfl rfl rfl (hts _ sw_ini_S) (hts _ sw_misl) (by decide +kernel) ⟨Nat.le_of_ble_eq_true rfl, Nat.le_of_ble_eq_true rfl⟩, hts _ sw_in_isl, hts _ sw_sel_isl⟩ ⟨PrM.blind, vk_recv hV (i := 0) (by decide) va_S.rf, fun U hU hW => ⟨rfl, hX.kept va_S.rf hU hW⟩⟩ rfl rfl hl.1 rfl (lv_room (Nat.le_of_ble_eq_true rfl)) dJ_chr_1 ⟨Nat.le_refl _, Nat.le_refl _⟩) ?_
  refine lv_if_eq (tgt := 16) hx hb dJ_chr_4 (by decide) (fun c1 => absurd c1 (by decide)) (fun _ => ?_)
  refine lv_aload_n hx hb dJ_chr_7 rfl (lv_at hl 0 rfl) ?_
  refine vk_getf (own := "java/lang/String") hx hb (hV.1 0 (by decide)).2.2.1 va_S.rf hown (hts _ sw_fval) (fun _ h9 => h9) dJ_chr_8 ?_
  refine lv_iload_n hx hb dJ_chr_11 rfl (lv_at hl 1 rfl) ?_
  refine call_rd (v := some (.int (Int32.ofInt (nth 0 strB i.toNat)))) (rest := []) (va_runS (As := [.ref adV, .int (Int32.ofInt i)]) ⟨hx, hb, hml, hown, hts⟩ (met_l1c (ads := ads) adV i h0 h1) ⟨callB_of 2 hts (wsJ_ok sw_code_l1c) rfl rfl rfl (hts _ sw_ini_L) (hts _ sw_ml1c) (by decide +kernel) ⟨Nat.le_of_ble_eq_true rfl, Nat.le_of_ble_eq_true rfl⟩, hts _ sw_st_l1c⟩ ⟨fun a U g mk q => ⟨q.1, q.2.1.same rfl rfl, vk_S.moved (Vm.Alike.refl U.vm) q.2.2⟩, fun U hU hW => ⟨rfl, hX.kept va_S.rf hU hW, by rw [hU]; exact vk_S.moved hW.alike hV⟩⟩ rfl rfl hl.1 rfl (lv_room (Nat.le_of_ble_eq_true rfl)) dJ_chr_12 ⟨Nat.le_refl _, Nat.le_refl _⟩) ?_
  exact W.zret hx hb hr (strB_nar _ (by omega)) (fun t ht hW => ⟨rfl, ht⟩) (fun q hq => by cases hq) dJ_chr_15
end STRJ
section STEP0
variable {p : Program} {l : Launch} {e : Env} {R : Room} {s : State} {mid : MethodId} {args : Array Value} {below : List Frame} {meth : Method} {c : Code} {H : Heap} {locs : List Loc} {lsC : Array Slot} {ads : Nat → Nat} {QQ : State → Prop}
theorem str_len (hx : p.tables.exec = Jvm.exec) {cc : ByteArray} (hb : c.code = cc) {nL : Nat} (hml : c.maxLocals = nL) (hlc : lsC.size = nL) (hown : s.vm.findClass "ThimbleLaw$Reader" = some mid.cls) (hts : ∀ w ∈ BIG, w.before args s = true) (hS : va_S (inA ads) s.heap H locs) (hX : SX ads s) (hR : 4 ≤ R.frames ∧ 200 ≤ R.locals) {pc : Nat} {rest : List Value} (hW : (rest.map fun v => v.category).sum ≤ 8) (hdg : decode cc pc = .ok (.invokevirtual 90, 3))
    (kk : ∀ locs1, va_S (inA ads) s.heap H locs1 → W p l e R s mid args below meth c H locs1 0 0 QQ (F0 mid (pc + 3) lsC (.int (Int32.ofInt 157) :: rest))) : W p l e R s mid args below meth c H locs 0 0 QQ (F0 mid pc lsC (.ref (ads 96) :: rest)) := by
  obtain ⟨hR1, ⟨adV, hV⟩, hZ, hZq⟩ := id hX
  refine call_rd (v := some (.int (Int32.ofInt 157))) (rest := rest) (va_runV (C := "java/lang/String") (As := []) ⟨hx, hb, hml, hown, hts⟩ (met_len (ads := ads)) ⟨callB_of 0 hts (wsJ_ok sw_code_len) rfl rfl rfl (hts _ sw_ini_S) (hts _ sw_mlen) (by decide +kernel) ⟨?_, ?_⟩, hts _ sw_in_len, hts _ sw_sel_len⟩ ⟨PrM.blind, vk_recv hV (i := 0) (by decide) hS, fun U hU hW => ⟨rfl, hX.kept hS hU hW⟩⟩ rfl rfl hlc rfl (lv_room hW) hdg ⟨Nat.zero_le _, Nat.zero_le _⟩) (kk locs hS)
  · have := hR.1
    show 1 + 1 ≤ R.frames
    omega
  · have := hR.2
    show 8 + (1 + 11) + 40 * 1 ≤ R.locals
    omega
theorem str_chr (hx : p.tables.exec = Jvm.exec) {cc : ByteArray} (hb : c.code = cc) {nL : Nat} (hml : c.maxLocals = nL) (hlc : lsC.size = nL) (hown : s.vm.findClass "ThimbleLaw$Reader" = some mid.cls) (hts : ∀ w ∈ BIG, w.before args s = true) (hS : va_S (inA ads) s.heap H locs) (hX : SX ads s) (hR : 4 ≤ R.frames ∧ 200 ≤ R.locals) {pc : Nat} {rest : List Value} (hW : (rest.map fun v => v.category).sum ≤ 8) (hdg : decode cc pc = .ok (.invokevirtual 95, 3)) {i : Int} (h0 : 0 ≤ i) (h1 : i < 157)
    (kk : ∀ locs1, va_S (inA ads) s.heap H locs1 → W p l e R s mid args below meth c H locs1 0 0 QQ (F0 mid (pc + 3) lsC (.int (Int32.ofInt (nth 0 strB i.toNat)) :: rest))) : W p l e R s mid args below meth c H locs 0 0 QQ (F0 mid pc lsC (.int (Int32.ofInt i) :: .ref (ads 96) :: rest)) := by
  obtain ⟨hR1, ⟨adV, hV⟩, hZ, hZq⟩ := id hX
  refine call_rd (v := some (.int (Int32.ofInt (nth 0 strB i.toNat)))) (rest := rest) (va_runV (C := "java/lang/String") (As := [.int (Int32.ofInt i)]) ⟨hx, hb, hml, hown, hts⟩ (met_chr (ads := ads) i h0 h1) ⟨callB_of 1 hts (wsJ_ok sw_code_chr) rfl rfl rfl (hts _ sw_ini_S) (hts _ sw_mchr) (by decide +kernel) ⟨?_, ?_⟩, hts _ sw_in_chr, hts _ sw_sel_chr⟩ ⟨PrM.blind, vk_recv hV (i := 0) (by decide) hS, fun U hU hW => ⟨rfl, hX.kept hS hU hW⟩⟩ rfl rfl hlc rfl (lv_room hW) hdg ⟨Nat.zero_le _, Nat.zero_le _⟩) (kk locs hS)
  · have := hR.1
    show 3 + 1 ≤ R.frames
    omega
  · have := hR.2
    show 8 + (2 + 11) + 40 * 3 ≤ R.locals
    omega
end STEP0
end
section
section STEP
variable {p : Program} {l : Launch} {e : Env} {R : Room} {s : State} {mid : MethodId} {args : Array Value} {below : List Frame} {meth : Method} {c : Code} {H : Heap} {locs : List Loc} {lsC : Array Slot} {ads : Nat → Nat} {cA : Nat → ClassId} {D : va_G} {QQ : State → Prop}
theorem i32clampC {i : Int} (h0 : 0 ≤ i) (h1 : i < 2147483648) : (((Int32.ofInt i).toNatClampNeg : Nat) : Int) = i := by
  rw [i32clamp h0 h1]; omega
theorem shN_lt {o : Nat} (ho : o < nOb) : shN o < 2147483648 := by
  rcases ckO o ho with h | h
  · have : ∀ c, c < 10 → clM c < 2147483648 := by decide +kernel
    rw [h.2]; exact this _ h.1
  · exact h.2.2
theorem upd_cel {h : Hp} {o : Nat} {i v : Int} (h0 : 0 ≤ i) (h1 : i < 2147483648) : (fun j : Nat => Int32.ofInt (hup h o i v o (j : Int))) = upd (fun j : Nat => Int32.ofInt (h o (j : Int))) (Int32.ofInt i).toNatClampNeg (Int32.ofInt v) := by
  funext j
  rw [i32clamp h0 h1]
  unfold hup upd
  by_cases hj : j = i.toNat
  · rw [if_pos ⟨rfl, by omega⟩, if_pos hj]
  · rw [if_neg (fun q => hj (by omega)), if_neg hj]
theorem updL_cel {h : Hp} {o : Nat} {i v : Int} (h0 : 0 ≤ i) (h1 : i < 2147483648) : (fun j : Nat => Int64.ofInt (hup h o i v o (j : Int))) = vp_updL (fun j : Nat => Int64.ofInt (h o (j : Int))) (Int32.ofInt i).toNatClampNeg (Int64.ofInt v) := by
  funext j
  rw [i32clamp h0 h1]
  unfold hup vp_updL
  by_cases hj : j = i.toNat
  · rw [if_pos ⟨rfl, by omega⟩, if_pos hj]
  · rw [if_neg (fun q => hj (by omega)), if_neg hj]
theorem cpy_cel {h : Hp} {o q : Nat} {sp dp n : Int} (h0 : 0 ≤ sp) (h1 : 0 ≤ dp) (h2 : 0 ≤ n) (b0 : sp < 2147483648) (b1 : dp < 2147483648) (b2 : n < 2147483648) : (fun j : Nat => Int32.ofInt (hcp h o sp q dp n q (j : Int))) = va_cpy (fun j : Nat => Int32.ofInt (h o (j : Int))) (fun j : Nat => Int32.ofInt (h q (j : Int))) (Int32.ofInt sp).toNatClampNeg (Int32.ofInt dp).toNatClampNeg (Int32.ofInt n).toNatClampNeg := by
  funext j
  rw [i32clamp h0 b0, i32clamp h1 b1, i32clamp h2 b2]
  unfold hcp va_cpy
  by_cases hj : dp.toNat ≤ j ∧ j < dp.toNat + n.toNat
  · rw [if_pos ⟨rfl, by omega, by omega⟩, if_pos hj]
    congr 2
    omega
  · rw [if_neg (fun z => hj (by omega)), if_neg hj]
theorem okh.cp {h : Hp} {o q : Nat} {sp dp n : Int} (hh : okh h) (ho : shK o = 100) (hq : shK q = 100) : okh (hcp h o sp q dp n) := by
  intro a j
  unfold hcp
  by_cases hc : a = q ∧ dp ≤ j ∧ j < dp + n
  · rw [if_pos hc]
    refine ⟨fun _ => (hh o _).1 ?_, (hh o _).2⟩
    unfold isLc; rw [ho]; rfl
  · rw [if_neg hc]; exact hh a j
theorem W.br {g g1 g2 : JFrame} {cc dd : Prop} (h1 : dd ↔ cc) {A B : Prop} (hc : br dd A B) : (cc → A) ∧ (¬ cc → B) := ⟨fun q => hc.1 (h1.mpr q), fun q => hc.2 (fun z => q (h1.mp z))⟩
end STEP
theorem sw.inv {x : Int} {f : Nat → Prop} {d : Nat} : ∀ {l : List (Int × Nat)}, sw x f d l → (∃ (i : Nat) (k : Int) (t : Nat), l[i]? = some (k, t) ∧ x = k ∧ f t) ∨ ((∀ (i : Nat) (q : Int × Nat), l[i]? = some q → x ≠ q.1) ∧ f d)
  | [], h => Or.inr ⟨fun i q hq => by simp at hq, h⟩
  | (k, t) :: r, h => by
    by_cases hx : x = k
    · exact Or.inl ⟨0, k, t, rfl, hx, h.1 hx⟩
    · rcases sw.inv (h.2 hx) with ⟨i, k2, t2, h1, h2, h3⟩ | ⟨h1, h2⟩
      · exact Or.inl ⟨i + 1, k2, t2, by simpa using h1, h2, h3⟩
      · refine Or.inr ⟨fun i q hq => ?_, h2⟩
        cases i with
        | zero =>
          have : (k, t) = q := by simpa using hq
          rw [← this]; exact hx
        | succ i => exact h1 i q (by simpa using hq)
theorem sw.lk {x : Int} {f : Nat → Prop} {d pc : Nat} {dd : Int} (hd : (d : Int) = (pc : Int) + dd) : ∀ {l : List (Int × Nat)} {ps : List (Int × Int)}, l.map (fun q => (q.1, (q.2 : Int))) = ps.map (fun q => (q.1, (pc : Int) + q.2)) → sw x f d l → ∃ (off : Int) (tgt : Nat), Op.lookupswitch.offset ps dd x = off ∧ (pc : Int) + off = (tgt : Int) ∧ f tgt
  | [], [], _, h => ⟨dd, d, rfl, hd.symm, h⟩
  | [], q :: ps, he, _ => by simp at he
  | q :: l, [], he, _ => by simp at he
  | (k, t) :: r, (k2, o) :: ps, he, h => by
    simp only [List.map_cons, List.cons.injEq, Prod.mk.injEq] at he
    obtain ⟨⟨rfl, e1⟩, e2⟩ := he
    rw [Op.lookupswitch.offset_cons]
    by_cases hx : x = k
    · rw [if_pos hx.symm]
      exact ⟨o, t, rfl, by omega, h.1 hx⟩
    · rw [if_neg (fun q => hx q.symm)]
      exact sw.lk hd e2 (h.2 hx)
set_option maxHeartbeats 8000000 in
theorem shut_step (l : Launch) {ads : Nat → Nat} {cA : Nat → ClassId} {D : va_G} (hap : apA ads) (d m pc : Nat) (ls st : List AV) (h : Hp) (Q : aPO)
    (hs : semM (inCall (PW l ads cA D) d) (fun pc ls st h => PW l ads cA D d m pc ls st h Q) m pc ls st h Q) : PW l ads cA D d m pc ls st h Q := by
  intro p e R s mid args below meth c H locs lsC hm hC hR hK hN hX hls hst hh hl hP hS
  obtain ⟨hx, hb, hr, hml, hown, hts, hlocks⟩ := id hC
  unfold semM at hs
  split at hs
  case h_2 => exact hs.elim
  rename_i ins nxt a b hat
  obtain ⟨hd, hg⟩ := good_at hm hat
  have hD : va_D (inA ads) (wld ads cA h) := wldD hap
  have hsz : c.maxLocals = lsC.size := by rw [hml, hl.size]
  have G : ∀ {pc2 : Nat} {ls2 st2 : List AV} {h2 : Hp} {H2 : Heap} {locs2 : List Loc} {C2 : Array Slot}, PW l ads cA D d m pc2 ls2 st2 h2 Q → okl ls2 → okl st2 → okh h2 → LR ads C2 (mLo m) ls2 → va_P D fcs (wld ads cA h2) H2 → va_S (inA ads) s.heap H2 locs2 →
      W p l e R s mid args below meth c H2 locs2 0 0 (MQ below (QcM ads cA D Q) args s 0 0 (inA ads)) (F0 mid pc2 C2 (st2.map (cv ads))) :=
    fun q a1 a2 a3 a4 a5 a6 => q p e R s mid args below meth c _ _ _ hm hC hR hK hN hX a1 a2 a3 a4 a5 a6
  have hown2 : s.vm.findClass (ownN (mOw m)) = some mid.cls := by rw [gM_own hm]; exact hown
  have how : mOw m < 13 := (gM_lo hm).2.2
  cases ins
  all_goals first | exact hs.elim | skip
  all_goals dsimp only [semI] at hs
  all_goals dsimp only [goodI] at hg
  all_goals first | exact hs.elim | skip
  case iconst n =>
    simp only [decide_eq_true_eq] at hg
    obtain ⟨rfl, hg⟩ := hg
    rw [show pc + 1 - pc = 1 by omega] at hd
    exact lv_iconst hx hb hd rfl (G (st2 := vI n :: st) hs hls (okl.cons hg hst) hh hl hP hS)
  case bipush n =>
    simp only [decide_eq_true_eq] at hg
    obtain ⟨rfl, hg, hv⟩ := hg
    rw [show pc + 2 - pc = 2 by omega] at hd
    exact lv_bipush hx hb hd hv (G (st2 := vI n :: st) hs hls (okl.cons hg hst) hh hl hP hS)
  case sipush n =>
    simp only [decide_eq_true_eq] at hg
    obtain ⟨rfl, hg, hv⟩ := hg
    rw [show pc + 3 - pc = 3 by omega] at hd
    exact lv_sipush hx hb hd hv (G (st2 := vI n :: st) hs hls (okl.cons hg hst) hh hl hP hS)
  case lconst n =>
    simp only [decide_eq_true_eq] at hg
    subst hg
    rw [show pc + 1 - pc = 1 by omega] at hd
    have hn := n.isLt
    refine lv_lconst hx hb hd (v := Int64.ofInt (n.val : Int)) ?_ (G (st2 := vL (n.val : Int) :: st) hs hls (okl.cons (by show (-9223372036854775808 : Int) ≤ _ ∧ _; constructor <;> omega) hst) hh hl hP hS)
    exact (Int64.ofInt_eq_ofNat).symm
  case ldc i =>
    simp only [Bool.and_eq_true, decide_eq_true_eq] at hg
    obtain ⟨rfl, hg⟩ := hg
    rw [show pc + 2 - pc = 2 by omega] at hd
    split at hs
    · obtain ⟨h1, h2⟩ := kc_in hg
      exact lv_ldc hx hb hown2 (hts _ h1) hd (G (st2 := vI b :: st) hs hls (okl.cons h2 hst) hh hl hP hS)
    · rename_i hne
      have hg : mOw m = 5 ∧ i = 88 := by
        split at hg
        · exact absurd rfl hne
        · simpa using hg
      obtain ⟨h1, rfl⟩ := hg
      rw [h1] at hown2
      exact va_ldcS hx hb hown2 hX.1 hd (G (st2 := vA 96 :: st) hs hls (okl.cons trivial hst) hh hl hP hS)
  case ldc_w i =>
    simp only [Bool.and_eq_true, decide_eq_true_eq] at hg
    obtain ⟨rfl, hg⟩ := hg
    rw [show pc + 3 - pc = 3 by omega] at hd
    obtain ⟨h1, h2⟩ := kc_in hg
    exact lv_ldcw hx hb hown2 (hts _ h1) hd (G (st2 := vI b :: st) hs hls (okl.cons h2 hst) hh hl hP hS)
  case ldc2_w i =>
    simp only [Bool.and_eq_true, decide_eq_true_eq] at hg
    obtain ⟨rfl, hg⟩ := hg
    rw [show pc + 3 - pc = 3 by omega] at hd
    obtain ⟨h1, h2⟩ := kl_in hg
    exact lv_ldc2 hx hb hown2 (hts _ h1) hd (G (st2 := vL b :: st) hs hls (okl.cons h2 hst) hh hl hP hS)
  case iload_n k =>
    simp only [decide_eq_true_eq] at hg
    subst hg
    rw [show pc + 1 - pc = 1 by omega] at hd
    obtain ⟨x, ex, hs⟩ := hs.inv
    exact lv_iload_n hx hb hd rfl (hl.at ex) (G (st2 := vI x :: st) hs hls (okl.cons (by rw [← ex]; exact okl_get hls) hst) hh hl hP hS)
  case iload k =>
    simp only [decide_eq_true_eq] at hg
    subst hg
    rw [show pc + 2 - pc = 2 by omega] at hd
    obtain ⟨x, ex, hs⟩ := hs.inv
    exact lv_iload hx hb hd (hl.at ex) (G (st2 := vI x :: st) hs hls (okl.cons (by rw [← ex]; exact okl_get hls) hst) hh hl hP hS)
  case lload_n k =>
    simp only [decide_eq_true_eq] at hg
    subst hg
    rw [show pc + 1 - pc = 1 by omega] at hd
    obtain ⟨x, ex, hs⟩ := hs.inv
    exact lv_lload_n hx hb hd rfl (hl.at ex) (G (st2 := vL x :: st) hs hls (okl.cons (by rw [← ex]; exact okl_get hls) hst) hh hl hP hS)
  case lload k =>
    simp only [decide_eq_true_eq] at hg
    subst hg
    rw [show pc + 2 - pc = 2 by omega] at hd
    obtain ⟨x, ex, hs⟩ := hs.inv
    exact lv_lload hx hb hd (hl.at ex) (G (st2 := vL x :: st) hs hls (okl.cons (by rw [← ex]; exact okl_get hls) hst) hh hl hP hS)
  case aload_n k =>
    simp only [decide_eq_true_eq] at hg
    subst hg
    rw [show pc + 1 - pc = 1 by omega] at hd
    obtain ⟨x, ex, hs⟩ := hs.inv
    cases x with
    | none => exact lv_aload_nN hx hb hd rfl (hl.at ex) (G (st2 := vN :: st) hs hls (okl.cons trivial hst) hh hl hP hS)
    | some o => exact lv_aload_n hx hb hd rfl (hl.at ex) (G (st2 := vA o :: st) hs hls (okl.cons trivial hst) hh hl hP hS)
  case aload k =>
    simp only [decide_eq_true_eq] at hg
    subst hg
    rw [show pc + 2 - pc = 2 by omega] at hd
    obtain ⟨x, ex, hs⟩ := hs.inv
    cases x with
    | none => exact lv_aloadN hx hb hd (hl.at ex) (G (st2 := vN :: st) hs hls (okl.cons trivial hst) hh hl hP hS)
    | some o => exact lv_aload hx hb hd (hl.at ex) (G (st2 := vA o :: st) hs hls (okl.cons trivial hst) hh hl hP hS)
  case istore_n k =>
    simp only [decide_eq_true_eq] at hg
    obtain ⟨rfl, hg⟩ := hg
    rw [show pc + 1 - pc = 1 by omega] at hd
    obtain ⟨x, r, rfl, hs⟩ := hs.inv
    obtain ⟨lv, hl1, hl2⟩ := hl
    exact lv_istore_n hx hb hd rfl hl1 hg rfl (fun C2 h2 => G (st2 := r) hs (okl_stor hls hst.hd) hst.tl hh (LR.sto (w := .inl x) hl2 h2) hP hS)
  case istore k =>
    simp only [decide_eq_true_eq] at hg
    obtain ⟨rfl, hg⟩ := hg
    rw [show pc + 2 - pc = 2 by omega] at hd
    obtain ⟨x, r, rfl, hs⟩ := hs.inv
    obtain ⟨lv, hl1, hl2⟩ := hl
    exact lv_istore hx hb hd hl1 hg rfl (fun C2 h2 => G (st2 := r) hs (okl_stor hls hst.hd) hst.tl hh (LR.sto (w := .inl x) hl2 h2) hP hS)
  case lstore_n k =>
    simp only [decide_eq_true_eq] at hg
    obtain ⟨rfl, hg⟩ := hg
    rw [show pc + 1 - pc = 1 by omega] at hd
    obtain ⟨x, r, rfl, hs⟩ := hs.inv
    obtain ⟨lv, hl1, hl2⟩ := hl
    exact lv_lstore_n hx hb hd rfl hl1 hg rfl (fun C2 h2 => G (st2 := r) hs (okl_stor2 hls hst.hd) hst.tl hh (LR.sto2 (w := .inr (.inl x)) hl2 h2) hP hS)
  case lstore k =>
    simp only [decide_eq_true_eq] at hg
    obtain ⟨rfl, hg⟩ := hg
    rw [show pc + 2 - pc = 2 by omega] at hd
    obtain ⟨x, r, rfl, hs⟩ := hs.inv
    obtain ⟨lv, hl1, hl2⟩ := hl
    exact lv_lstore hx hb hd hl1 hg rfl (fun C2 h2 => G (st2 := r) hs (okl_stor2 hls hst.hd) hst.tl hh (LR.sto2 (w := .inr (.inl x)) hl2 h2) hP hS)
  case astore_n k =>
    simp only [decide_eq_true_eq] at hg
    obtain ⟨rfl, hg⟩ := hg
    rw [show pc + 1 - pc = 1 by omega] at hd
    obtain ⟨x, r, rfl, hs⟩ := hs.inv
    obtain ⟨lv, hl1, hl2⟩ := hl
    exact lv_astore_n hx hb hd rfl hl1 hg rfl (fun C2 h2 => G (st2 := r) hs (okl_stor hls hst.hd) hst.tl hh (LR.sto (w := .inr (.inr (some x))) hl2 h2) hP hS)
  case astore k =>
    simp only [decide_eq_true_eq] at hg
    obtain ⟨rfl, hg⟩ := hg
    rw [show pc + 2 - pc = 2 by omega] at hd
    obtain ⟨x, r, rfl, hs⟩ := hs.inv
    obtain ⟨lv, hl1, hl2⟩ := hl
    exact lv_astore hx hb hd hl1 hg rfl (fun C2 h2 => G (st2 := r) hs (okl_stor hls hst.hd) hst.tl hh (LR.sto (w := .inr (.inr (some x))) hl2 h2) hP hS)
  case iinc k n =>
    simp only [decide_eq_true_eq] at hg
    obtain ⟨rfl, hg⟩ := hg
    rw [show pc + 3 - pc = 3 by omega] at hd
    split at hs
    · rename_i x ex
      obtain ⟨lv, hl1, hl2⟩ := hl
      obtain ⟨ix, hix⟩ := List.getElem?_of_mem (hl2 k _ ex)
      exact lv_iinc hx hb hd hl1 hix (v := Int32.ofInt (x + n)) (Int32.ofInt_add ..).symm hg rfl (fun C2 h2 => G (st2 := st) hs.2 (okl_stor hls hs.1) hst hh (LR.sto (w := .inl (x + n)) hl2 h2) hP hS)
    · exact hs.elim
  case iadd =>
    simp only [decide_eq_true_eq] at hg
    subst hg
    rw [show pc + 1 - pc = 1 by omega] at hd
    obtain ⟨x, y, r, rfl, hs⟩ := hs.inv
    refine lv_iadd hx hb hd ?_
    rw [← Int32.ofInt_add]
    exact G (st2 := vI (x + y) :: r) hs.2 hls (okl.cons hs.1 hst.tl.tl) hh hl hP hS
  case isub =>
    simp only [decide_eq_true_eq] at hg
    subst hg
    rw [show pc + 1 - pc = 1 by omega] at hd
    obtain ⟨x, y, r, rfl, hs⟩ := hs.inv
    refine lv_isub hx hb hd ?_
    rw [← Int32.ofInt_sub]
    exact G (st2 := vI (x - y) :: r) hs.2 hls (okl.cons hs.1 hst.tl.tl) hh hl hP hS
  case imul =>
    simp only [decide_eq_true_eq] at hg
    subst hg
    rw [show pc + 1 - pc = 1 by omega] at hd
    obtain ⟨x, y, r, rfl, hs⟩ := hs.inv
    refine lv_imul hx hb hd ?_
    rw [← Int32.ofInt_mul]
    exact G (st2 := vI (x * y) :: r) hs.2 hls (okl.cons hs.1 hst.tl.tl) hh hl hP hS
  case ladd =>
    simp only [decide_eq_true_eq] at hg
    subst hg
    rw [show pc + 1 - pc = 1 by omega] at hd
    obtain ⟨x, y, r, rfl, hs⟩ := hs.inv
    refine lv_ladd hx hb hd ?_
    rw [← Int64.ofInt_add]
    exact G (st2 := vL (x + y) :: r) hs.2 hls (okl.cons hs.1 hst.tl.tl) hh hl hP hS
  case lsub =>
    simp only [decide_eq_true_eq] at hg
    subst hg
    rw [show pc + 1 - pc = 1 by omega] at hd
    obtain ⟨x, y, r, rfl, hs⟩ := hs.inv
    refine lv_lsub hx hb hd ?_
    rw [← Int64.ofInt_sub]
    exact G (st2 := vL (x - y) :: r) hs.2 hls (okl.cons hs.1 hst.tl.tl) hh hl hP hS
  case lmul =>
    simp only [decide_eq_true_eq] at hg
    subst hg
    rw [show pc + 1 - pc = 1 by omega] at hd
    obtain ⟨x, y, r, rfl, hs⟩ := hs.inv
    refine lv_lmul hx hb hd ?_
    rw [← Int64.ofInt_mul]
    exact G (st2 := vL (x * y) :: r) hs.2 hls (okl.cons hs.1 hst.tl.tl) hh hl hP hS
  case idiv =>
    simp only [decide_eq_true_eq] at hg
    subst hg
    rw [show pc + 1 - pc = 1 by omega] at hd
    obtain ⟨x, y, r, rfl, hs⟩ := hs.inv
    refine lv_idiv hx hb hd (fun z => hs.1.1 ((i32eq (y := 0) hst.hd (by omega)).mp z)) ?_
    rw [i32div hst.tl.hd hst.hd hs.1]
    exact G (st2 := vI (x.tdiv y) :: r) hs.2 hls (okl.cons (tdivR (M := 2147483648) hst.tl.hd hs.1) hst.tl.tl) hh hl hP hS
  case irem =>
    simp only [decide_eq_true_eq] at hg
    subst hg
    rw [show pc + 1 - pc = 1 by omega] at hd
    obtain ⟨x, y, r, rfl, hs⟩ := hs.inv
    refine lv_irem hx hb hd (fun z => hs.1.1 ((i32eq (y := 0) hst.hd (by omega)).mp z)) ?_
    rw [i32rem hst.tl.hd hst.hd hs.1]
    exact G (st2 := vI (x.tmod y) :: r) hs.2 hls (okl.cons (tmodR (M := 2147483648) hst.tl.hd hs.1) hst.tl.tl) hh hl hP hS
  case ldiv =>
    simp only [decide_eq_true_eq] at hg
    subst hg
    rw [show pc + 1 - pc = 1 by omega] at hd
    obtain ⟨x, y, r, rfl, hs⟩ := hs.inv
    refine lv_ldiv hx hb hd (fun z => hs.1.1 ((i64eq (y := 0) hst.hd (by omega)).mp z)) ?_
    rw [i64div hst.tl.hd hst.hd hs.1]
    exact G (st2 := vL (x.tdiv y) :: r) hs.2 hls (okl.cons (tdivR (M := 9223372036854775808) hst.tl.hd hs.1) hst.tl.tl) hh hl hP hS
  case lrem =>
    simp only [decide_eq_true_eq] at hg
    subst hg
    rw [show pc + 1 - pc = 1 by omega] at hd
    obtain ⟨x, y, r, rfl, hs⟩ := hs.inv
    refine lv_lrem hx hb hd (fun z => hs.1.1 ((i64eq (y := 0) hst.hd (by omega)).mp z)) ?_
    rw [i64rem hst.tl.hd hst.hd hs.1]
    exact G (st2 := vL (x.tmod y) :: r) hs.2 hls (okl.cons (tmodR (M := 9223372036854775808) hst.tl.hd hs.1) hst.tl.tl) hh hl hP hS
  case ineg =>
    simp only [decide_eq_true_eq] at hg
    subst hg
    rw [show pc + 1 - pc = 1 by omega] at hd
    obtain ⟨x, r, rfl, hs⟩ := hs.inv
    refine lv_ineg hx hb hd ?_
    rw [i32neg]
    have g : -2147483648 ≤ x ∧ x < 2147483648 := hst.hd
    have g2 := hs.1
    exact G (st2 := vI (-x) :: r) hs.2 hls (okl.cons (by show (-2147483648 : Int) ≤ _ ∧ _; constructor <;> omega) hst.tl) hh hl hP hS
  case lneg =>
    simp only [decide_eq_true_eq] at hg
    subst hg
    rw [show pc + 1 - pc = 1 by omega] at hd
    obtain ⟨x, r, rfl, hs⟩ := hs.inv
    refine lv_lneg hx hb hd ?_
    rw [i64neg]
    have g : -9223372036854775808 ≤ x ∧ x < 9223372036854775808 := hst.hd
    have g2 := hs.1
    exact G (st2 := vL (-x) :: r) hs.2 hls (okl.cons (by show (-9223372036854775808 : Int) ≤ _ ∧ _; constructor <;> omega) hst.tl) hh hl hP hS
  case iand =>
    simp only [decide_eq_true_eq] at hg
    subst hg
    rw [show pc + 1 - pc = 1 by omega] at hd
    obtain ⟨x, y, r, rfl, hs⟩ := hs.inv
    refine lv_iand hx hb hd ?_
    have q := G (st2 := vI (iAnd x y) :: r) hs hls (okl.cons (i32r _) hst.tl.tl) hh hl hP hS
    have eq : Int32.ofInt (iAnd x y) = _ := i32back _
    simp only [List.map_cons, cv, cvv, eq] at q
    exact q
  case ior =>
    simp only [decide_eq_true_eq] at hg
    subst hg
    rw [show pc + 1 - pc = 1 by omega] at hd
    obtain ⟨x, y, r, rfl, hs⟩ := hs.inv
    refine lv_ior hx hb hd ?_
    have q := G (st2 := vI (iOr x y) :: r) hs hls (okl.cons (i32r _) hst.tl.tl) hh hl hP hS
    have eq : Int32.ofInt (iOr x y) = _ := i32back _
    simp only [List.map_cons, cv, cvv, eq] at q
    exact q
  case ixor =>
    simp only [decide_eq_true_eq] at hg
    subst hg
    rw [show pc + 1 - pc = 1 by omega] at hd
    obtain ⟨x, y, r, rfl, hs⟩ := hs.inv
    refine lv_ixor hx hb hd ?_
    have q := G (st2 := vI (iXor x y) :: r) hs hls (okl.cons (i32r _) hst.tl.tl) hh hl hP hS
    have eq : Int32.ofInt (iXor x y) = _ := i32back _
    simp only [List.map_cons, cv, cvv, eq] at q
    exact q
  case ishl =>
    simp only [decide_eq_true_eq] at hg
    subst hg
    rw [show pc + 1 - pc = 1 by omega] at hd
    obtain ⟨x, y, r, rfl, hs⟩ := hs.inv
    refine lv_ishl hx hb hd ?_
    have q := G (st2 := vI (iShl x y) :: r) hs hls (okl.cons (i32r _) hst.tl.tl) hh hl hP hS
    have eq : Int32.ofInt (iShl x y) = _ := i32back _
    simp only [List.map_cons, cv, cvv, eq] at q
    exact q
  case ishr =>
    simp only [decide_eq_true_eq] at hg
    subst hg
    rw [show pc + 1 - pc = 1 by omega] at hd
    obtain ⟨x, y, r, rfl, hs⟩ := hs.inv
    refine lv_ishr hx hb hd ?_
    have q := G (st2 := vI (iShr x y) :: r) hs hls (okl.cons (i32r _) hst.tl.tl) hh hl hP hS
    have eq : Int32.ofInt (iShr x y) = _ := i32back _
    simp only [List.map_cons, cv, cvv, eq] at q
    exact q
  case iushr =>
    simp only [decide_eq_true_eq] at hg
    subst hg
    rw [show pc + 1 - pc = 1 by omega] at hd
    obtain ⟨x, y, r, rfl, hs⟩ := hs.inv
    exact lv_iushr hx hb hd (v := Int32.ofInt (iUshr x y)) (i32back _).symm (G (st2 := vI (iUshr x y) :: r) hs hls (okl.cons (i32r _) hst.tl.tl) hh hl hP hS)
  case lor =>
    simp only [decide_eq_true_eq] at hg
    subst hg
    rw [show pc + 1 - pc = 1 by omega] at hd
    obtain ⟨x, y, r, rfl, hs⟩ := hs.inv
    refine lv_lor hx hb hd ?_
    have q := G (st2 := vL (lOr x y) :: r) hs hls (okl.cons (i64r _) hst.tl.tl) hh hl hP hS
    have eq : Int64.ofInt (lOr x y) = _ := i64back _
    simp only [List.map_cons, cv, cvv, eq] at q
    exact q
  case lshl =>
    simp only [decide_eq_true_eq] at hg
    subst hg
    rw [show pc + 1 - pc = 1 by omega] at hd
    obtain ⟨x, y, r, rfl, hs⟩ := hs.inv
    exact lv_lshl hx hb hd (v := Int64.ofInt (lShl x y)) (i64back _).symm (G (st2 := vL (lShl x y) :: r) hs hls (okl.cons (i64r _) hst.tl.tl) hh hl hP hS)
  case lshr =>
    simp only [decide_eq_true_eq] at hg
    subst hg
    rw [show pc + 1 - pc = 1 by omega] at hd
    obtain ⟨x, y, r, rfl, hs⟩ := hs.inv
    exact lv_lshr hx hb hd (v := Int64.ofInt (lShr x y)) (i64back _).symm (G (st2 := vL (lShr x y) :: r) hs hls (okl.cons (i64r _) hst.tl.tl) hh hl hP hS)
  case lcmp =>
    simp only [decide_eq_true_eq] at hg
    subst hg
    rw [show pc + 1 - pc = 1 by omega] at hd
    obtain ⟨x, y, r, rfl, hs⟩ := hs.inv
    refine W.lcmp hx hb hd ?_
    rw [i64cmp hst.tl.hd hst.hd]
    refine G (st2 := vI (lcI x y) :: r) hs hls (okl.cons ?_ hst.tl.tl) hh hl hP hS
    show (-2147483648 : Int) ≤ lcI x y ∧ lcI x y < 2147483648
    unfold lcI
    split <;> (try split) <;> omega
  case i2l =>
    simp only [decide_eq_true_eq] at hg
    subst hg
    rw [show pc + 1 - pc = 1 by omega] at hd
    obtain ⟨x, r, rfl, hs⟩ := hs.inv
    have g : -2147483648 ≤ x ∧ x < 2147483648 := hst.hd
    exact lv_i2l hx hb hd (i32to64 g) (G (st2 := vL x :: r) hs hls (okl.cons (by show (-9223372036854775808 : Int) ≤ _ ∧ _; constructor <;> omega) hst.tl) hh hl hP hS)
  case l2i =>
    simp only [decide_eq_true_eq] at hg
    subst hg
    rw [show pc + 1 - pc = 1 by omega] at hd
    obtain ⟨x, r, rfl, hs⟩ := hs.inv
    exact lv_l2i hx hb hd (i64to32 hs.1) (G (st2 := vI x :: r) hs.2 hls (okl.cons hs.1 hst.tl) hh hl hP hS)
  case i2b =>
    simp only [decide_eq_true_eq] at hg
    subst hg
    rw [show pc + 1 - pc = 1 by omega] at hd
    obtain ⟨x, r, rfl, hs⟩ := hs.inv
    exact lv_i2b hx hb hd (v := Int32.ofInt (iB x)) (i32back _).symm (G (st2 := vI (iB x) :: r) hs hls (okl.cons (i32r _) hst.tl) hh hl hP hS)
  case dup =>
    simp only [decide_eq_true_eq] at hg
    subst hg
    rw [show pc + 1 - pc = 1 by omega] at hd
    split at hs
    · rename_i x r
      exact lv_dup hx hb hd rfl (G (st2 := vI x :: vI x :: r) hs hls (okl.cons hst.hd hst) hh hl hP hS)
    · rename_i x r
      refine lv_dup hx hb hd ?_ (G (st2 := some (.inr (.inr x)) :: some (.inr (.inr x)) :: r) hs hls (okl.cons hst.hd hst) hh hl hP hS)
      cases x <;> rfl
    · exact hs.elim
  case dup2 =>
    simp only [decide_eq_true_eq] at hg
    subst hg
    rw [show pc + 1 - pc = 1 by omega] at hd
    split at hs
    · rename_i x y r
      refine lv_dup2_11 hx hb hd rfl ?_ (G (st2 := vI x :: some (.inr (.inr y)) :: vI x :: some (.inr (.inr y)) :: r) hs hls (okl.cons hst.hd (okl.cons hst.tl.hd hst)) hh hl hP hS)
      cases y <;> rfl
    · exact hs.elim
  case pop =>
    simp only [decide_eq_true_eq] at hg
    subst hg
    rw [show pc + 1 - pc = 1 by omega] at hd
    obtain ⟨x, r, rfl, hs⟩ := hs.inv
    exact lv_pop hx hb hd rfl (G (st2 := r) hs hls hst.tl hh hl hP hS)
  case aconst_null =>
    simp only [decide_eq_true_eq] at hg
    subst hg
    rw [show pc + 1 - pc = 1 by omega] at hd
    exact lv_null hx hb hd (G (st2 := vN :: st) hs hls (okl.cons trivial hst) hh hl hP hS)
  case goto o =>
    simp only [decide_eq_true_eq] at hg
    obtain ⟨rfl, hg⟩ := hg
    rw [show pc + 3 - pc = 3 by omega] at hd
    exact lv_goto hx hb hd hg (G (st2 := st) hs hls hst hh hl hP hS)
  case ifnull o =>
    simp only [decide_eq_true_eq] at hg
    obtain ⟨rfl, hg⟩ := hg
    rw [show pc + 3 - pc = 3 by omega] at hd
    split at hs
    · rename_i r
      exact lv_ifnullN hx hb hd hg (G (st2 := r) hs hls hst.tl hh hl hP hS)
    · rename_i q r
      exact lv_ifnull hx hb hd (G (st2 := r) hs hls hst.tl hh hl hP hS)
    · exact hs.elim
  case ifCond cd o =>
    simp only [decide_eq_true_eq] at hg
    obtain ⟨rfl, hg⟩ := hg
    rw [show pc + 3 - pc = 3 by omega] at hd
    obtain ⟨x, r, rfl, hs⟩ := hs.inv
    have g : -2147483648 ≤ x ∧ x < 2147483648 := hst.hd
    have z0 : (-2147483648 : Int) ≤ 0 ∧ (0 : Int) < 2147483648 := by omega
    cases cd with
    | eq => exact lv_if_eq hx hb hd hg (fun q => G (st2 := r) (hs.1 ((i32eq g z0).mp q)) hls hst.tl hh hl hP hS) (fun q => G (st2 := r) (hs.2 (fun z => q ((i32eq g z0).mpr z))) hls hst.tl hh hl hP hS)
    | ne => exact lv_if_ne hx hb hd hg (fun q => G (st2 := r) (hs.1 (fun z => q ((i32eq g z0).mpr z))) hls hst.tl hh hl hP hS) (fun q => G (st2 := r) (hs.2 (fun z => z ((i32eq g z0).mp q))) hls hst.tl hh hl hP hS)
    | lt => exact lv_if_lt hx hb hd hg (fun q => G (st2 := r) (hs.1 ((i32lt g z0).mp q)) hls hst.tl hh hl hP hS) (fun q => G (st2 := r) (hs.2 (fun z => q ((i32lt g z0).mpr z))) hls hst.tl hh hl hP hS)
    | ge => exact lv_if_ge hx hb hd hg (fun q => G (st2 := r) (hs.1 ((i32le z0 g).mp q)) hls hst.tl hh hl hP hS) (fun q => G (st2 := r) (hs.2 (fun z => q ((i32le z0 g).mpr z))) hls hst.tl hh hl hP hS)
    | gt => exact lv_if_gt hx hb hd hg (fun q => G (st2 := r) (hs.1 ((i32lt z0 g).mp q)) hls hst.tl hh hl hP hS) (fun q => G (st2 := r) (hs.2 (fun z => q ((i32lt z0 g).mpr z))) hls hst.tl hh hl hP hS)
    | le => exact lv_if_le hx hb hd hg (fun q => G (st2 := r) (hs.1 ((i32le g z0).mp q)) hls hst.tl hh hl hP hS) (fun q => G (st2 := r) (hs.2 (fun z => q ((i32le g z0).mpr z))) hls hst.tl hh hl hP hS)
  case if_icmp cd o =>
    simp only [decide_eq_true_eq] at hg
    obtain ⟨rfl, hg⟩ := hg
    rw [show pc + 3 - pc = 3 by omega] at hd
    obtain ⟨x, y, r, rfl, hs⟩ := hs.inv
    have z0 : -2147483648 ≤ y ∧ y < 2147483648 := hst.hd
    have g : -2147483648 ≤ x ∧ x < 2147483648 := hst.tl.hd
    cases cd with
    | eq => exact lv_icmp_eq hx hb hd hg (fun q => G (st2 := r) (hs.1 ((i32eq g z0).mp q)) hls hst.tl.tl hh hl hP hS) (fun q => G (st2 := r) (hs.2 (fun z => q ((i32eq g z0).mpr z))) hls hst.tl.tl hh hl hP hS)
    | ne => exact lv_icmp_ne hx hb hd hg (fun q => G (st2 := r) (hs.1 (fun z => q ((i32eq g z0).mpr z))) hls hst.tl.tl hh hl hP hS) (fun q => G (st2 := r) (hs.2 (fun z => z ((i32eq g z0).mp q))) hls hst.tl.tl hh hl hP hS)
    | lt => exact lv_icmp_lt hx hb hd hg (fun q => G (st2 := r) (hs.1 ((i32lt g z0).mp q)) hls hst.tl.tl hh hl hP hS) (fun q => G (st2 := r) (hs.2 (fun z => q ((i32lt g z0).mpr z))) hls hst.tl.tl hh hl hP hS)
    | ge => exact lv_icmp_ge hx hb hd hg (fun q => G (st2 := r) (hs.1 ((i32le z0 g).mp q)) hls hst.tl.tl hh hl hP hS) (fun q => G (st2 := r) (hs.2 (fun z => q ((i32le z0 g).mpr z))) hls hst.tl.tl hh hl hP hS)
    | gt => exact lv_icmp_gt hx hb hd hg (fun q => G (st2 := r) (hs.1 ((i32lt z0 g).mp q)) hls hst.tl.tl hh hl hP hS) (fun q => G (st2 := r) (hs.2 (fun z => q ((i32lt z0 g).mpr z))) hls hst.tl.tl hh hl hP hS)
    | le => exact lv_icmp_le hx hb hd hg (fun q => G (st2 := r) (hs.1 ((i32le g z0).mp q)) hls hst.tl.tl hh hl hP hS) (fun q => G (st2 := r) (hs.2 (fun z => q ((i32le g z0).mpr z))) hls hst.tl.tl hh hl hP hS)
  case getfield i =>
    simp only [Bool.and_eq_true, decide_eq_true_eq] at hg
    obtain ⟨⟨rfl, hb0⟩, hg⟩ := hg
    rw [show pc + 3 - pc = 3 by omega] at hd
    obtain ⟨o, r, rfl, hs1⟩ := xA1.inv hs
    obtain ⟨hsk, v, hs2, ev, hov⟩ := fgo.inv (ads := ads) hb0 hh hs1
    obtain ⟨hlk, ha10, hk⟩ := fl_in how hg
    have ho : o < nOb := shK_lt (by rw [hsk]; omega)
    have hsn : shN o = clM a := by
      rcases ckO o ho with q | q
      · rw [q.2, hsk]
      · omega
    refine va_get (D := D) (ci := a) (v := cvv ads v) (C := clN a) (T := clT a) (N := clM a) (ref := clN a) hx hb hts (uw_in ha10) hown2 hK hP o (by rw [wld_at ho, celE_c hsk ha10]) (fcs_at ha10) b.toNat hk (hts _ hlk) (fun x hx => by rw [← ckD a ha10 _ hk]; exact hx) ?_ hd (G (st2 := some v :: r) hs2 hls (okl.cons hov hst.tl) hh hl hP hS)
    rw [List.getElem?_map, List.getElem?_range (by omega), ev]
    rfl
  case putfield i =>
    simp only [Bool.and_eq_true, decide_eq_true_eq] at hg
    obtain ⟨⟨rfl, hb0⟩, hg⟩ := hg
    rw [show pc + 3 - pc = 3 by omega] at hd
    obtain ⟨hlk, ha10, hk⟩ := fl_in how hg
    have hfk := ckT a ha10 _ hk
    split at hs
    · rename_i v o r
      have ek : ((b.toNat : Nat) : Int) = b := by omega
      unfold pgo at hs
      split at hs
      · exact hs.elim
      · rename_i hsk
        have hsk := Nat.eq_of_beq_eq_true hsk
        have ho : o < nOb := shK_lt (by rw [hsk]; omega)
        have hsn : shN o = clM a := by
          rcases ckO o ho with q | q
          · rw [q.2, hsk]
          · omega
        have hlc : fkOf a b.toNat ≠ 2 → isLc o b = false → True := fun _ _ => trivial
        have cell : ∀ (x : Int) (w : Value), fvl ads (hup h o b x) o b.toNat = w → (wld ads cA h).set o (ads o, .inr (a, ((List.range (shN o)).map (fvl ads h o)).set b.toNat w)) = wld ads cA (hup h o b x) := by
          intro x w hw
          refine wld_set (fun q hq j => hup_ne hq j) ?_
          rw [celE_c hsk ha10]
          congr 2
          refine (range_set hw (fun j hj => ?_)).symm
          unfold fvl
          rw [show hup h o b x o (j : Int) = h o (j : Int) from if_neg (fun q => hj (by omega))]
        have stp : ∀ (x : Int) (w : Value) (ty : FieldType), clY a b.toNat = ty → ((clT a) b.toNat).2.2.2 = false → narrow ty w = w → fits ty w = true → fvl ads (hup h o b x) o b.toNat = w → okh (hup h o b x) → PW l ads cA D d m (pc + 3) ls r (hup h o b x) Q → W p l e R s mid args below meth c H locs 0 0 (MQ below (QcM ads cA D Q) args s 0 0 (inA ads)) (F0 mid pc lsC (w :: .ref (ads o) :: r.map (cv ads))) := by
          intro x w ty hty hfin hnar hfit hfv hok hgo
          refine va_put (D := D) (ci := a) (v := w) (ty := ty) (C := clN a) (T := clT a) (N := clM a) (ref := clN a) hx hb hts (uw_in ha10) (clY a) (ckY a ha10) (ckX a ha10) hown2 hK hP hD hS o (by rw [wld_at ho, celE_c hsk ha10]) (fcs_at ha10) b.toNat hk (hts _ hlk) (fun x hx => by rw [← ckD a ha10 _ hk]; exact hx) hfin (by rw [ckY a ha10 _ hk, hty]) hnar hfit (by simp; omega) hd (fun H1 locs1 hP1 hD1 hS1 => ?_)
          rw [cell x w hfv] at hP1
          exact G (st2 := r) hgo hls hst.tl.tl hok hl hP1 hS1
        have hne103 : a ≠ 103 := by omega
        split at hs
        · rename_i x hf0
          unfold fkOK at hfk
          rw [hf0] at hfk
          simp only [Bool.and_eq_true, decide_eq_true_eq, Bool.not_eq_true'] at hfk
          have g : -2147483648 ≤ x ∧ x < 2147483648 := hst.hd
          refine stp x (.int (Int32.ofInt x)) .int hfk.1 hfk.2 rfl rfl ?_ (hh.up (fun _ => g) (by omega)) hs
          unfold fvl; rw [hsk, hf0, ek]
          show Value.int (Int32.ofInt (if o = o ∧ b = b then x else h o b)) = _
          rw [if_pos ⟨rfl, rfl⟩]
        · rename_i x hf0
          unfold fkOK at hfk
          rw [hf0] at hfk
          simp only [Bool.and_eq_true, decide_eq_true_eq, Bool.not_eq_true'] at hfk
          have g : -2147483648 ≤ x ∧ x < 2147483648 := hst.hd
          refine stp x (.int (Int32.ofInt x)) .boolean hfk.1 hfk.2 ?_ ?_ ?_ (hh.up (fun _ => g) (by omega)) hs.2
          · rcases hs.1 with rfl | rfl <;> rfl
          · rcases hs.1 with rfl | rfl <;> rfl
          · unfold fvl; rw [hsk, hf0, ek]
            show Value.int (Int32.ofInt (if o = o ∧ b = b then x else h o b)) = _
            rw [if_pos ⟨rfl, rfl⟩]
        · rename_i x hf0
          unfold fkOK at hfk
          rw [hf0] at hfk
          simp only [Bool.and_eq_true, decide_eq_true_eq, Bool.not_eq_true'] at hfk
          have g : -9223372036854775808 ≤ x ∧ x < 9223372036854775808 := hst.hd
          refine stp x (.long (Int64.ofInt x)) .long hfk.1 hfk.2 rfl rfl ?_ (hh.up (fun q => ?_) g) hs
          · unfold fvl; rw [hsk, hf0, ek]
            show Value.long (Int64.ofInt (if o = o ∧ b = b then x else h o b)) = _
            rw [if_pos ⟨rfl, rfl⟩]
          · unfold isLc at q
            rw [hsk, hf0] at q
            simp at q
        · exact hs.elim
    · exact hs.elim
  case iaload =>
    simp only [decide_eq_true_eq] at hg
    subst hg
    rw [show pc + 1 - pc = 1 by omega] at hd
    obtain ⟨o, i, r, rfl, hs1⟩ := xAI.inv hs
    obtain ⟨hsk, hi, hs⟩ := ago.inv hs1
    have ho : o < nOb := shK_lt (by rw [hsk]; omega)
    have hn := shN_lt ho
    refine va_iald hx hb hK hP o 0 (cA := cA 0) (n := shN o) (f := fun j => Int32.ofInt (h o j)) (by rw [wld_at ho, celE_0 hsk]) rfl (i32in hi.1 hi.2 hn) hd ?_
    rw [i32clampC hi.1 (by omega)]
    exact G (st2 := vI (h o i) :: r) hs hls (okl.cons ((hh o i).1 (by unfold isLc; rw [hsk]; rfl)) hst.tl.tl) hh hl hP hS
  case laload =>
    simp only [decide_eq_true_eq] at hg
    subst hg
    rw [show pc + 1 - pc = 1 by omega] at hd
    obtain ⟨o, i, r, rfl, hs1⟩ := xAI.inv hs
    obtain ⟨hsk, hi, hs⟩ := ago.inv hs1
    have ho : o < nOb := shK_lt (by rw [hsk]; omega)
    have hn := shN_lt ho
    refine va_lald hx hb hK hP o 3 (cA := cA 3) (n := shN o) (f := fun j => Int64.ofInt (h o j)) (by rw [wld_at ho, celE_3 hsk]) rfl (i32in hi.1 hi.2 hn) hd ?_
    rw [i32clampC hi.1 (by omega)]
    exact G (st2 := vL (h o i) :: r) hs hls (okl.cons (hh o i).2 hst.tl.tl) hh hl hP hS
  case baload =>
    simp only [decide_eq_true_eq] at hg
    subst hg
    rw [show pc + 1 - pc = 1 by omega] at hd
    obtain ⟨o, i, r, rfl, hs1⟩ := xAI.inv hs
    clear hs
    have hs := hs1
    clear hs1
    unfold bgo at hs
    split at hs
    · rename_i hsk
      obtain ⟨hi, hs⟩ := hs
      have ho : o < nOb := shK_lt (by rw [hsk]; omega)
      have hn := shN_lt ho
      refine va_bald hx hb hK hP o 1 (cA := cA 1) (n := shN o) (f := fun j => Int32.ofInt (h o j)) (by rw [wld_at ho, celE_1 hsk]) rfl (i32in hi.1 hi.2 hn) hd ?_
      rw [i32clampC hi.1 (by omega)]
      exact G (st2 := vI (h o i) :: r) hs hls (okl.cons ((hh o i).1 (by unfold isLc; rw [hsk]; rfl)) hst.tl.tl) hh hl hP hS
    · rename_i hsk
      obtain ⟨hi, hs⟩ := hs
      have ho : o < nOb := shK_lt (by rw [hsk]; omega)
      have hn := shN_lt ho
      refine va_zald hx hb hK hP o 2 (cA := cA 2) (n := shN o) (f := fun j => Int32.ofInt (h o j)) (by rw [wld_at ho, celE_2 hsk]) rfl (i32in hi.1 hi.2 hn) hd ?_
      rw [i32clampC hi.1 (by omega)]
      exact G (st2 := vI (h o i) :: r) hs hls (okl.cons ((hh o i).1 (by unfold isLc; rw [hsk]; rfl)) hst.tl.tl) hh hl hP hS
    · exact hs.elim
  case aaload =>
    simp only [decide_eq_true_eq] at hg
    subst hg
    rw [show pc + 1 - pc = 1 by omega] at hd
    obtain ⟨o, i, r, rfl, hs1⟩ := xAI.inv hs
    clear hs
    have hs := hs1
    clear hs1
    unfold rgo at hs
    split at hs
    · exact hs.elim
    · rename_i hsk
      have hsk := Nat.eq_of_beq_eq_true hsk
      obtain ⟨hi, hs⟩ := hs
      have ho : o < nOb := shK_lt (by rw [hsk]; omega)
      have hn := shN_lt ho
      split at hs
      · rename_i q hq
        refine va_aldq hx hb hK hP o 4 (cA := cA 4) (n := shN o) (C := "ThimbleLaw$Text") (f := fun j => (shR o j).map ads) (by rw [wld_at ho, celE_4 hsk]) rfl (i32in hi.1 hi.2 hn) hd ?_
        rw [i32clamp hi.1 (by omega), hq]
        exact G (st2 := vA q :: r) hs hls (okl.cons trivial hst.tl.tl) hh hl hP hS
      · exact hs.elim
  case iastore =>
    simp only [decide_eq_true_eq] at hg
    subst hg
    rw [show pc + 1 - pc = 1 by omega] at hd
    first
      | obtain ⟨x, r0, rfl, hs0⟩ := xI1.inv hs
      | obtain ⟨x, r0, rfl, hs0⟩ := xL1.inv hs
    obtain ⟨o, i, r, rfl, hs1⟩ := xAI.inv hs0
    obtain ⟨hsk, hi, hs⟩ := ago.inv hs1
    have ho : o < nOb := shK_lt (by rw [hsk]; omega)
    have hn := shN_lt ho
    have g : -2147483648 ≤ x ∧ x < 2147483648 := hst.hd
    refine va_iast hx hb hK hP hD hS o 0 (cA := cA 0) (n := shN o) (f := fun j => Int32.ofInt (h o j)) (by rw [wld_at ho, celE_0 hsk]) rfl (i32in hi.1 hi.2 hn) hd (fun H1 locs1 hP1 hD1 hS1 => ?_)
    rw [← upd_cel hi.1 (by omega), ← celE_0 (ads := ads) (cA := cA) hsk, wld_set (fun q hq j => hup_ne hq j) rfl] at hP1
    exact G (st2 := r) hs hls hst.tl.tl.tl (hh.up (fun _ => g) (by omega)) hl hP1 hS1
  case lastore =>
    simp only [decide_eq_true_eq] at hg
    subst hg
    rw [show pc + 1 - pc = 1 by omega] at hd
    first
      | obtain ⟨x, r0, rfl, hs0⟩ := xI1.inv hs
      | obtain ⟨x, r0, rfl, hs0⟩ := xL1.inv hs
    obtain ⟨o, i, r, rfl, hs1⟩ := xAI.inv hs0
    obtain ⟨hsk, hi, hs⟩ := ago.inv hs1
    have ho : o < nOb := shK_lt (by rw [hsk]; omega)
    have hn := shN_lt ho
    have g : -9223372036854775808 ≤ x ∧ x < 9223372036854775808 := hst.hd
    refine va_last hx hb hK hP hD hS o 3 (cA := cA 3) (n := shN o) (f := fun j => Int64.ofInt (h o j)) (by rw [wld_at ho, celE_3 hsk]) rfl (i32in hi.1 hi.2 hn) hd (fun H1 locs1 hP1 hD1 hS1 => ?_)
    rw [← updL_cel hi.1 (by omega), ← celE_3 (ads := ads) (cA := cA) hsk, wld_set (fun q hq j => hup_ne hq j) rfl] at hP1
    exact G (st2 := r) hs hls hst.tl.tl.tl (hh.up (fun q => by unfold isLc at q; rw [hsk] at q; cases q) g) hl hP1 hS1
  case bastore =>
    simp only [decide_eq_true_eq] at hg
    subst hg
    rw [show pc + 1 - pc = 1 by omega] at hd
    obtain ⟨x, r0, rfl, hs0⟩ := xI1.inv hs
    obtain ⟨o, i, r, rfl, hs1⟩ := xAI.inv hs0
    clear hs hs0
    have hs := hs1
    clear hs1
    have g : -2147483648 ≤ x ∧ x < 2147483648 := hst.hd
    unfold bsto at hs
    split at hs
    · rename_i hsk
      obtain ⟨⟨hi, hv⟩, hs⟩ := hs
      have ho : o < nOb := shK_lt (by rw [hsk]; omega)
      have hn := shN_lt ho
      have hnar : vp_nar .byte (Int32.ofInt x) = Int32.ofInt x := by
        rw [vp_nar_byte]
        apply Int32.toInt_inj.mp
        rw [Int8.toInt_toInt32, Int32.toInt_toInt8, i32 g.1 g.2]
        exact Int.bmod_eq_of_le (by omega) (by omega)
      refine va_bast hx hb hK hP hD hS o 1 (cA := cA 1) (n := shN o) (f := fun j => Int32.ofInt (h o j)) (by rw [wld_at ho, celE_1 hsk]) rfl (i32in hi.1 hi.2 hn) hd (fun H1 locs1 hP1 hD1 hS1 => ?_)
      rw [hnar, ← upd_cel hi.1 (by omega), ← celE_1 (ads := ads) (cA := cA) hsk, wld_set (fun q hq j => hup_ne hq j) rfl] at hP1
      exact G (st2 := r) hs hls hst.tl.tl.tl (hh.up (fun _ => g) (by omega)) hl hP1 hS1
    · rename_i hsk
      obtain ⟨⟨hi, hv⟩, hs⟩ := hs
      have ho : o < nOb := shK_lt (by rw [hsk]; omega)
      have hn := shN_lt ho
      have hnar : vp_nar .boolean (Int32.ofInt x) = Int32.ofInt x := by
        rcases hv with rfl | rfl <;> rfl
      refine va_zast hx hb hK hP hD hS o 2 (cA := cA 2) (n := shN o) (f := fun j => Int32.ofInt (h o j)) (by rw [wld_at ho, celE_2 hsk]) rfl (i32in hi.1 hi.2 hn) hd (fun H1 locs1 hP1 hD1 hS1 => ?_)
      rw [hnar, ← upd_cel hi.1 (by omega), ← celE_2 (ads := ads) (cA := cA) hsk, wld_set (fun q hq j => hup_ne hq j) rfl] at hP1
      exact G (st2 := r) hs hls hst.tl.tl.tl (hh.up (fun _ => g) (by omega)) hl hP1 hS1
    · exact hs.elim
  case arraylength =>
    simp only [decide_eq_true_eq] at hg
    subst hg
    rw [show pc + 1 - pc = 1 by omega] at hd
    obtain ⟨o, r, rfl, hs1⟩ := xA1.inv hs
    unfold lgo at hs1
    split at hs1
    · exact hs1.elim
    · rename_i hk
      simp only [Bool.and_eq_true] at hk
      have k1 := Nat.le_of_ble_eq_true hk.1
      have k2 := Nat.le_of_ble_eq_true hk.2
      have ho : o < nOb := shK_lt (by omega)
      have hn := shN_lt ho
      have fin : W p l e R s mid args below meth c H locs 0 0 (MQ below (QcM ads cA D Q) args s 0 0 (inA ads)) (F0 mid (pc + 1) lsC (.int (Int32.ofInt (shN o : Int)) :: r.map (cv ads))) :=
        G (st2 := vI (shN o : Int) :: r) hs1 hls (okl.cons (by show (-2147483648 : Int) ≤ _ ∧ _; constructor <;> omega) hst.tl) hh hl hP hS
      have ev : Int32.ofNat (shN o) = Int32.ofInt (shN o : Int) := (Int32.ofInt_eq_ofNat).symm
      rcases (show shK o = 100 ∨ shK o = 101 ∨ shK o = 102 ∨ shK o = 103 ∨ shK o = 104 by omega) with q | q | q | q | q
      · exact va_alen hx hb hK hP o 0 (cA := cA 0) (by rw [wld_at ho, celE_0 q]) (ty := .int) rfl ev hd fin
      · exact va_alen hx hb hK hP o 1 (cA := cA 1) (by rw [wld_at ho, celE_1 q]) (ty := .byte) rfl ev hd fin
      · exact va_alen hx hb hK hP o 2 (cA := cA 2) (by rw [wld_at ho, celE_2 q]) (ty := .boolean) rfl ev hd fin
      · exact va_alen hx hb hK hP o 3 (cA := cA 3) (by rw [wld_at ho, celE_3 q]) (ty := .long) rfl ev hd fin
      · exact va_alen hx hb hK hP o 4 (cA := cA 4) (by rw [wld_at ho, celE_4 q]) (ty := .object "ThimbleLaw$Text") rfl ev hd fin
  case ireturn =>
    simp only [decide_eq_true_eq] at hg
    subst hg
    rw [show pc + 1 - pc = 1 by omega] at hd
    have hrt := gM_rt hm
    unfold rtOK at hrt
    split at hs
    · rename_i x
      split at hs
      · rename_i hq
        rw [hq] at hrt
        simp only [decide_eq_true_eq] at hrt
        rw [hrt] at hr
        exact W.iret hx hb hr (fun t ht hW => ⟨⟨vI x, h, rfl, hs, by rw [ht]; exact hP, hh, hst.hd⟩, hS.F ht⟩) hS.2.2 hd hlocks
      · rename_i hq
        rw [hq] at hrt
        simp only [decide_eq_true_eq] at hrt
        rw [hrt] at hr
        refine W.zret hx hb hr ?_ (fun t ht hW => ⟨⟨vI x, h, rfl, hs.2, by rw [ht]; exact hP, hh, hst.hd⟩, hS.F ht⟩) hS.2.2 hd hlocks
        rcases hs.1 with rfl | rfl <;> rfl
      · exact hs.elim
    · exact hs.elim
  case lreturn =>
    simp only [decide_eq_true_eq] at hg
    subst hg
    rw [show pc + 1 - pc = 1 by omega] at hd
    have hrt := gM_rt hm
    unfold rtOK at hrt
    split at hs
    · rename_i x
      split at hs
      · rename_i hq
        rw [hq] at hrt
        simp only [decide_eq_true_eq] at hrt
        rw [hrt] at hr
        exact W.lret hx hb hr (fun t ht hW => ⟨⟨vL x, h, rfl, hs, by rw [ht]; exact hP, hh, hst.hd⟩, hS.F ht⟩) hS.2.2 hd hlocks
      · exact hs.elim
    · exact hs.elim
  case areturn =>
    simp only [decide_eq_true_eq] at hg
    subst hg
    rw [show pc + 1 - pc = 1 by omega] at hd
    have hrt := gM_rt hm
    unfold rtOK at hrt
    split at hs
    · rename_i x
      split at hs
      · rename_i hq
        rw [hq] at hrt
        simp only [decide_eq_true_eq] at hrt
        rw [hrt] at hr
        refine W.aret hx hb hr (Or.inl ⟨_, rfl⟩) ?_ (fun t ht hW => ⟨⟨some (.inr (.inr x)), h, rfl, hs, by rw [ht]; exact hP, hh, trivial⟩, hS.F ht⟩) hS.2.2 hd hlocks
        cases x with
        | none => exact Or.inl rfl
        | some o => exact Or.inr ⟨_, rfl⟩
      · exact hs.elim
    · exact hs.elim
  case return_ =>
    simp only [decide_eq_true_eq] at hg
    subst hg
    rw [show pc + 1 - pc = 1 by omega] at hd
    have hrt := gM_rt hm
    unfold rtOK at hrt
    split at hs
    · split at hs
      · rename_i hq
        rw [hq] at hrt
        simp only [decide_eq_true_eq] at hrt
        rw [hrt] at hr
        exact W.vret hx hb hr (fun t ht hW => ⟨⟨none, h, rfl, hs, by rw [ht]; exact hP, hh, trivial⟩, hS.F ht⟩) hS.2.2 hd hlocks
      · exact hs.elim
    · exact hs.elim
  case tableswitch dflt lo hi offs =>
    obtain ⟨x, r, rfl, hs1⟩ := xI1.inv hs
    have g : -2147483648 ≤ x ∧ x < 2147483648 := hst.hd
    have ex : (Int32.ofInt x).toInt = x := i32 g.1 g.2
    unfold swOK at hg
    simp only [decide_eq_true_eq] at hg
    obtain ⟨g1, g2, g3⟩ := hg
    have hlen : (nth (0, []) swT a).2.length = offs.toList.length := by
      have := congrArg List.length g2
      simpa using this
    rcases sw.inv hs1 with ⟨i, k, t, q1, q2, q3⟩ | ⟨q1, q2⟩
    · have g4 := congrArg (fun l => l[i]?) g2
      simp only [List.getElem?_map, q1, Option.map_some, List.getElem?_zipIdx] at g4
      cases ho : offs.toList[i]? with
      | none => rw [ho] at g4; simp at g4
      | some o =>
        rw [ho] at g4
        simp only [Option.map_some, Option.some.injEq, Prod.mk.injEq] at g4
        have hi : i < offs.toList.length := (List.getElem?_eq_some_iff.mp ho).1
        refine lv_tableIn hx hb hd (by rw [ex]; omega) (by rw [ex]; omega) (off := o) (tgt := t) ?_ (by omega) (G (st2 := r) q3 hls hst.tl hh hl hP hS)
        rw [ex, show (x - lo).toNat = i by omega, ← Array.getElem?_toList]
        exact ho
    · refine lv_tableOut hx hb hd (tgt := (nth (0, []) swT a).1) ?_ (by omega) (G (st2 := r) q2 hls hst.tl hh hl hP hS)
      rw [ex]
      by_cases hlo : x < lo
      · exact Or.inl hlo
      · right
        by_cases z : hi < x
        · exact z
        · exfalso
          have hi : (x - lo).toNat < (nth (0, []) swT a).2.length := by omega
          have hq := List.getElem?_eq_getElem hi
          have g4 := congrArg (fun l => l[(x - lo).toNat]?) g2
          simp only [List.getElem?_map, hq, Option.map_some, List.getElem?_zipIdx] at g4
          have ho := List.getElem?_eq_getElem (l := offs.toList) (i := (x - lo).toNat) (by omega)
          rw [ho] at g4
          simp only [Option.map_some, Option.some.injEq, Prod.mk.injEq] at g4
          exact q1 _ _ hq (by omega)
  case lookupswitch dflt ps =>
    obtain ⟨x, r, rfl, hs1⟩ := xI1.inv hs
    have g : -2147483648 ≤ x ∧ x < 2147483648 := hst.hd
    have ex : (Int32.ofInt x).toInt = x := i32 g.1 g.2
    unfold lkOK at hg
    simp only [Bool.and_eq_true, decide_eq_true_eq] at hg
    obtain ⟨⟨g1, g2⟩, g3⟩ := hg
    obtain ⟨off, tgt, q1, q2, q3⟩ := sw.lk g1 g2 hs1
    exact lv_lookup hx hb hd g3 (by rw [ex]; exact q1) q2 (G (st2 := r) q3 hls hst.tl hh hl hP hS)
  case invokestatic i =>
    simp only [Bool.and_eq_true, decide_eq_true_eq] at hg
    obtain ⟨rfl, hg⟩ := hg
    rw [show pc + 3 - pc = 3 by omega] at hd
    unfold invS at hs
    split at hs
    · rename_i hlt
      rw [hlt] at hg
      simp only [cond_false, Bool.and_eq_true, Bool.or_eq_true] at hg
      obtain ⟨hst1, hlk⟩ := hg
      unfold invM at hs
      split at hs
      · exact hs.elim
      · rename_i hok
        obtain ⟨k1, k2, k3⟩ := okC.inv hok
        obtain ⟨e1, -⟩ := takeR_spec (nAr a) [] st (by simpa using k3)
        cases d with
        | zero => exact hs.elim
        | succ dd =>
          have ha : a < nMe := by
            rcases hlk with q | q
            · exact (ml_in how q).2
            · exact (mn_in how q).2
          have hM := met_in (l := l) (ads := ads) (cA := cA) (D := D) (d := dd) ha hs k2 (okl_take k3 hst) hh
          have hstk : st.map (cv ads) = ((takeR (nAr a) [] st).map (cv ads)).reverse ++ (dropN (nAr a) st).map (cv ads) := by
            conv => lhs; rw [e1]
            rw [List.map_append, List.map_reverse]
          have hws : GoodIn BIG (wsM a) := fun w hw => by
            rcases List.mem_cons.mp hw with rfl | hw
            · exact big_ok _ (code_in ha)
            · exact big_ok _ hw
          have hroom : (rmD dd).frames + 1 ≤ R.frames ∧ 8 + (mLo a + 11) + (rmD dd).locals ≤ R.locals := by
            have := (gM_lo ha).1
            have h1 := hR.1
            have h2 := hR.2
            show dd + 4 + 1 ≤ R.frames ∧ 8 + (mLo a + 11) + (40 * dd + 200) ≤ R.locals
            constructor <;> omega
          have hpre : PreS s H (PcM ads cA D (takeR (nAr a) [] st) h) ((takeR (nAr a) [] st).map (cv ads)) :=
            ⟨PcM.blind, fun U hU hW => ⟨rfl, by rw [hU]; exact hP, va_K.moved hW.alike hK, hN.kept hW, hX.kept hS hU hW⟩⟩
          have hrun : va_Run p l e R s mid args below meth c H locs 0 0 0 0 (F0 mid pc lsC (st.map (cv ads))) ((dropN (nAr a) st).map (cv ads)) (QcM ads cA D (fun r h2 => PW l ads cA D (dd + 1) m (pc + 3) ls (pushR r (dropN (nAr a) st)) h2 Q) ((takeR (nAr a) [] st).map (cv ads)).toArray) (inA ads) := by
            rcases hlk with q | q
            · exact va_runS ⟨hx, hb, hml, hown2, hts⟩ hM ⟨callB_of (nAr a) hts hws rfl rfl rfl (hts _ (init_in ha)) (hts _ (ml_in how q).1) ⟨(gM_mh ha).1, (gM_mh ha).2, gM_st ha hst1⟩ hroom, hts _ (stat_in ha hst1)⟩ hpre rfl (by rw [List.length_map]; exact k3) hl.size hstk (lv_room (by rw [cat_map]; exact k1)) hd ⟨Nat.zero_le _, Nat.zero_le _⟩
            · exact va_runSN ⟨hx, hb, hml, hown2, hts⟩ hM ⟨va_cnB (nAr a) hts hws rfl rfl rfl (hN _ _ _ how q) (hts _ (init_in ha)) ⟨(gM_mh ha).1, (gM_mh ha).2, gM_st ha hst1⟩ hroom, hts _ (stat_in ha hst1), trivial⟩ hpre rfl (by rw [List.length_map]; exact k3) hl.size hstk (lv_room (by rw [cat_map]; exact k1)) hd ⟨Nat.zero_le _, Nat.zero_le _⟩
          refine call_on hrun hS (fun r h2 H1 locs1 hq hP1 hok1 hor hS1 => ?_)
          rw [push_map]
          exact G (st2 := pushR r (dropN (nAr a) st)) hq hls (okl_push hor (okl_drop hst)) hok1 hl hP1 hS1
    · rename_i hlt
      rw [hlt] at hg
      simp only [cond_true] at hg
      split at hs
      · rename_i ha0
        rw [ha0] at hg
        unfold copyM at hs
        split at hs
        · rename_i n dp q sp o r
          split at hs
          · exact hs.elim
          · rename_i hk
            simp only [Bool.and_eq_true] at hk
            have hko := Nat.eq_of_beq_eq_true hk.1
            have hkq := Nat.eq_of_beq_eq_true hk.2.1
            have hcat := Nat.le_of_ble_eq_true hk.2.2
            obtain ⟨⟨c1, c2, c3, c4, c5⟩, hs⟩ := hs
            have ho : o < nOb := shK_lt (by rw [hko]; omega)
            have hq : q < nOb := shK_lt (by rw [hkq]; omega)
            have hno := shN_lt ho
            have hnq := shN_lt hq
            have z0 : (0 : Int32) = Int32.ofInt 0 := rfl
            have nn : ∀ z : Int, 0 ≤ z → z < 2147483648 → ¬ Int32.ofInt z < 0 := fun z h1 h2 => by rw [z0, i32lt (by omega) (by omega)]; omega
            refine va_copyi hx hb hsz hown2 (hts _ (ac_in hg)) (hts _ ac2_in.1) (hts _ ac2_in.2.1) (hts _ ac2_in.2.2) hK hP hD hS o q 0 0 (c0 := cA 0) (c1 := cA 0) (n0 := shN o) (n1 := shN q) (f := fun j => Int32.ofInt (h o j)) (g := fun j => Int32.ofInt (h q j)) (ty := .int) (by rw [wld_at ho, celE_0 hko]) (by rw [wld_at hq, celE_0 hkq]) rfl rfl rfl (nn sp c1 (by omega)) (nn dp c2 (by omega)) (nn n c3 (by omega)) (by rw [i32clamp c1 (by omega), i32clamp c3 (by omega)]; omega) (by rw [i32clamp c2 (by omega), i32clamp c3 (by omega)]; omega) (fun _ _ => rfl) (by have := hR.1; omega) ?_ hd (fun H1 locs1 hP1 hD1 hS1 => ?_)
            · rw [cat_map]
              have e9 : nativeFrameWords "java/lang/System" "arraycopy" 5 = 7 := by decide
              rw [e9]
              have := hR.2
              omega
            · rw [← cpy_cel c1 c2 c3 (by omega) (by omega) (by omega), ← celE_0 (ads := ads) (cA := cA) hkq, wld_set (h2 := hcp h o sp q dp n) (fun z hz j => by unfold hcp; exact if_neg (fun w => hz w.1)) rfl] at hP1
              exact G (st2 := r) hs hls hst.tl.tl.tl.tl.tl (hh.cp hko hkq) hl hP1 hS1
        · exact hs.elim
      · rename_i ha0
        rw [ha0] at hg
        unfold maxM at hs
        obtain ⟨x, y, r, rfl, hs1⟩ := xI2.inv hs
        split at hs1
        · exact hs1.elim
        · rename_i hk
          have hcat := Nat.le_of_ble_eq_true hk
          have gy : -2147483648 ≤ y ∧ y < 2147483648 := hst.hd
          have gx : -2147483648 ≤ x ∧ x < 2147483648 := hst.tl.hd
          refine va_mmax hx hb hsz hown2 (hts _ (ma_in hg)) (hts _ ma2_in.2.1) (hts _ ma2_in.1) (hts _ ma2_in.2.2.2.2.1) (by have := hR.1; omega) (by rw [cat_map]; have := hR.2; omega) (Nat.zero_le _) (Nat.zero_le _) hd ?_
          have ev : (if Int32.ofInt x < Int32.ofInt y then Int32.ofInt y else Int32.ofInt x) = Int32.ofInt (max x y) := by
            by_cases hc : x < y
            · rw [if_pos ((i32lt gx gy).mpr hc), show max x y = y by omega]
            · rw [if_neg (fun z => hc ((i32lt gx gy).mp z)), show max x y = x by omega]
          rw [ev]
          exact G (st2 := vI (max x y) :: r) hs1 hls (okl.cons (by show (-2147483648 : Int) ≤ _ ∧ _; constructor <;> omega) hst.tl.tl) hh hl hP hS
      · rename_i ha0
        rw [ha0] at hg
        unfold minM at hs
        obtain ⟨x, y, r, rfl, hs1⟩ := xI2.inv hs
        split at hs1
        · exact hs1.elim
        · rename_i hk
          have hcat := Nat.le_of_ble_eq_true hk
          have gy : -2147483648 ≤ y ∧ y < 2147483648 := hst.hd
          have gx : -2147483648 ≤ x ∧ x < 2147483648 := hst.tl.hd
          refine va_mmin hx hb hsz hown2 (hts _ (ma_in hg)) (hts _ ma2_in.2.2.1) (hts _ ma2_in.1) (hts _ ma2_in.2.2.2.2.2.1) (by have := hR.1; omega) (by rw [cat_map]; have := hR.2; omega) (Nat.zero_le _) (Nat.zero_le _) hd ?_
          have ev : (if Int32.ofInt y < Int32.ofInt x then Int32.ofInt y else Int32.ofInt x) = Int32.ofInt (min x y) := by
            by_cases hc : y < x
            · rw [if_pos ((i32lt gy gx).mpr hc), show min x y = y by omega]
            · rw [if_neg (fun z => hc ((i32lt gy gx).mp z)), show min x y = x by omega]
          rw [ev]
          exact G (st2 := vI (min x y) :: r) hs1 hls (okl.cons (by show (-2147483648 : Int) ≤ _ ∧ _; constructor <;> omega) hst.tl.tl) hh hl hP hS
      · rename_i ha0
        rw [ha0] at hg
        unfold absM at hs
        obtain ⟨x, r, rfl, hs1⟩ := xI1.inv hs
        split at hs1
        · exact hs1.elim
        · rename_i hk
          have hcat := Nat.le_of_ble_eq_true hk
          have gx : -2147483648 ≤ x ∧ x < 2147483648 := hst.hd
          refine va_mabs hx hb hsz hown2 (hts _ (ma_in hg)) (hts _ ma2_in.2.2.2.1) (hts _ ma2_in.1) (hts _ ma2_in.2.2.2.2.2.2) (by have := hR.1; omega) (by rw [cat_map]; have := hR.2; omega) (Nat.zero_le _) (Nat.zero_le _) hd ?_
          have z0 : (0 : Int32) = Int32.ofInt 0 := rfl
          have ev : (if 0 ≤ Int32.ofInt x then Int32.ofInt x else 0 - Int32.ofInt x) = Int32.ofInt (if 0 ≤ x then x else 0 - x) := by
            by_cases hc : 0 ≤ x
            · rw [if_pos (by rw [z0, i32le (by omega) gx]; exact hc), if_pos hc]
            · rw [if_neg (by rw [z0, i32le (by omega) gx]; exact hc), if_neg hc, Int32.ofInt_sub]; rfl
          rw [ev]
          have g2 := hs1.1
          exact G (st2 := vI (if 0 ≤ x then x else 0 - x) :: r) hs1.2 hls (okl.cons (by show (-2147483648 : Int) ≤ _ ∧ _; split <;> constructor <;> omega) hst.tl) hh hl hP hS
      · exact hs.elim
  case invokevirtual i =>
    simp only [Bool.and_eq_true, decide_eq_true_eq] at hg
    obtain ⟨rfl, hg⟩ := hg
    rw [show pc + 3 - pc = 3 by omega] at hd
    unfold invV at hs
    split at hs
    · rename_i ha0
      rw [ha0] at hg
      simp only [cond_true, decide_eq_true_eq] at hg
      obtain ⟨h5, rfl⟩ := hg
      rw [h5] at hown2
      unfold lenM at hs
      split at hs
      · rename_i r
        split at hs
        · exact hs.elim
        · rename_i hk
          have hcat := Nat.le_of_ble_eq_true hk
          exact str_len hx hb hml hl.size hown2 hts hS hX ⟨by have := hR.1; omega, by have := hR.2; omega⟩ (by rw [cat_map]; exact hcat) hd (fun locs1 hS1 => G (st2 := vI 157 :: r) hs hls (okl.cons (by show (-2147483648 : Int) ≤ _ ∧ _; constructor <;> omega) hst.tl) hh hl hP hS1)
      · exact hs.elim
    · rename_i ha0
      rw [ha0] at hg
      simp only [cond_false] at hg
      split at hs
      · rename_i ha1
        rw [ha1] at hg
        simp only [cond_true, decide_eq_true_eq] at hg
        obtain ⟨h5, rfl⟩ := hg
        rw [h5] at hown2
        unfold chrM at hs
        split at hs
        · rename_i i r
          split at hs
          · exact hs.elim
          · rename_i hk
            have hcat := Nat.le_of_ble_eq_true hk
            refine str_chr hx hb hml hl.size hown2 hts hS hX ⟨by have := hR.1; omega, by have := hR.2; omega⟩ (by rw [cat_map]; exact hcat) hd hs.1.1 hs.1.2 (fun locs1 hS1 => G (st2 := vI (nth 0 strB i.toNat) :: r) hs.2 hls (okl.cons ?_ hst.tl.tl) hh hl hP hS1)
            have : ∀ k, k < 157 → -2147483648 ≤ nth 0 strB k ∧ nth 0 strB k < 2147483648 := by decide +kernel
            have h1 := hs.1
            exact this i.toNat (by omega)
        · exact hs.elim
      · rename_i ha1
        rw [ha1] at hg
        simp only [cond_false, Bool.and_eq_true, Bool.not_eq_true'] at hg
        obtain ⟨hst1, hlk⟩ := hg
        split at hs
        · exact hs.elim
        · rename_i hor0
          unfold invM at hs
          split at hs
          · exact hs.elim
          · rename_i hok
            obtain ⟨k1, k2, k3⟩ := okC.inv hok
            obtain ⟨e1, -⟩ := takeR_spec (nAr a) [] st (by simpa using k3)
            obtain ⟨hln, ha⟩ := ml_in how hlk
            obtain ⟨⟨hc10, hcn⟩, hdesc⟩ := gM_vi ha hst1
            unfold okR at hor0
            cases d with
            | zero => exact hs.elim
            | succ dd =>
              have hM := met_in (l := l) (ads := ads) (cA := cA) (D := D) (d := dd) ha hs k2 (okl_take k3 hst) hh
              cases htk : takeR (nAr a) [] st with
              | nil => rw [htk] at hor0; cases hor0
              | cons v0 As =>
                rw [htk] at hor0 hM e1 k3
                match v0, hor0 with
                | some (.inr (.inr (some o))), hor0 =>
                  have hko : shK o = mCi a := Nat.eq_of_beq_eq_true hor0
                  have ho : o < nOb := shK_lt (by rw [hko]; omega)
                  have hstk : st.map (cv ads) = (As.map (cv ads)).reverse ++ .ref (ads o) :: (dropN (nAr a) st).map (cv ads) := by
                    conv => lhs; rw [e1]
                    rw [List.map_append, List.map_reverse, List.map_cons, List.reverse_cons, List.append_assoc]
                    rfl
                  have hws : GoodIn BIG (wsM a) := fun w hw => by
                    rcases List.mem_cons.mp hw with rfl | hw
                    · exact big_ok _ (code_in ha)
                    · exact big_ok _ hw
                  have hroom : (rmD dd).frames + 1 ≤ R.frames ∧ 8 + (mLo a + 11) + (rmD dd).locals ≤ R.locals := by
                    have := (gM_lo ha).1
                    have h1 := hR.1
                    have h2 := hR.2
                    show dd + 4 + 1 ≤ R.frames ∧ 8 + (mLo a + 11) + (40 * dd + 200) ≤ R.locals
                    constructor <;> omega
                  have hpre : PreV s H (mNm a).cls (ads o) (PcM ads cA D (some (.inr (.inr (some o))) :: As) h) (As.map (cv ads)) := by
                    refine ⟨PcM.blind, ?_, fun U hU hW => ⟨rfl, by rw [hU]; exact hP, va_K.moved hW.alike hK, hN.kept hW, hX.kept hS hU hW⟩⟩
                    rw [← hcn]
                    exact va_recv hK hP (fcs_at hc10) (q0 := o) (by rw [wld_at ho, celE_c hko hc10])
                  have hn : (parseMethodDescriptor (mNm a).desc).map (fun d => d.parameters.length) = some (nAr a - 1) := by
                    cases hpd : parseMethodDescriptor (mNm a).desc with
                    | none => rw [hpd] at hdesc; cases hdesc
                    | some sg =>
                      rw [hpd] at hdesc
                      have : sg.parameters.length + 1 = nAr a := Option.some.inj hdesc
                      show some sg.parameters.length = some _
                      rw [← this]; rfl
                  have hrun : va_Run p l e R s mid args below meth c H locs 0 0 0 0 (F0 mid pc lsC (st.map (cv ads))) ((dropN (nAr a) st).map (cv ads)) (QcM ads cA D (fun r h2 => PW l ads cA D (dd + 1) m (pc + 3) ls (pushR r (dropN (nAr a) st)) h2 Q) (Value.ref (ads o) :: As.map (cv ads)).toArray) (inA ads) :=
                    va_runV ⟨hx, hb, hml, hown2, hts⟩ hM ⟨callB_of (nAr a - 1) hts hws rfl rfl rfl (hts _ (init_in ha)) (hts _ hln) ⟨(gM_mh ha).1, (gM_mh ha).2, hn⟩ hroom, hts _ (inst_in ha hst1), hts _ (sel_in ha hst1)⟩ hpre rfl (by rw [List.length_map]; simp at k3; omega) hl.size hstk (lv_room (by rw [cat_map]; exact k1)) hd ⟨Nat.zero_le _, Nat.zero_le _⟩
                  refine call_on hrun hS (fun r h2 H1 locs1 hq hP1 hok1 hor hS1 => ?_)
                  rw [push_map]
                  exact G (st2 := pushR r (dropN (nAr a) st)) hq hls (okl_push hor (okl_drop hst)) hok1 hl hP1 hS1
theorem runs_PW (l : Launch) {ads : Nat → Nat} {cA : Nat → ClassId} {D : va_G} (hap : apA ads) {d m pc : Nat} {ls st : List AV} {h : Hp} {Q : aPO} (hr : Runs d m pc ls st h Q) : PW l ads cA D d m pc ls st h Q :=
  hr _ ⟨PW.mono l ads cA D, fun d m pc ls st h Q => shut_step l hap d m pc ls st h Q⟩
end
section
def yI_City : MethodName := ⟨"ThimbleLaw$City", "<init>", "()V"⟩
abbrev cI_City : ByteArray := prog_3_method_1_code
theorem sw_code_iCity : Cond.code yI_City cI_City 2 none ∈ BIG := big_of (tpA_in (q := (1, 38)) rfl) rfl
theorem sw_in_iCity : Cond.instanceMethod yI_City ∈ BIG := big_of (tpA_in (q := (1, 37)) rfl) rfl
theorem sw_ini_0 : Cond.initialized "ThimbleLaw$City" ∈ BIG := big_of (tpA_in (q := (1, 3)) rfl) rfl
theorem sw_is_0 : Cond.instantiable "ThimbleLaw$City" 19 ∈ BIG := big_of (tpA_in (q := (1, 35)) rfl) rfl
theorem sw_oi_City : Cond.methodLink "ThimbleLaw$City" 3 objectInit ∈ BIG := big_of (tpA_in (q := (1, 39)) rfl) rfl
theorem sw_cl_City_58 : Cond.classLink "ThimbleLaw$City" 58 "ThimbleLaw$Told" ∈ BIG := big_of (tpA_in (q := (1, 40)) rfl) rfl
theorem sw_cl_City_71 : Cond.classLink "ThimbleLaw$City" 71 "ThimbleLaw$Steps" ∈ BIG := big_of (tpA_in (q := (1, 68)) rfl) rfl
def yI_Hand : MethodName := ⟨"ThimbleLaw$Hand", "<init>", "()V"⟩
abbrev cI_Hand : ByteArray := prog_5_method_1_code
theorem sw_code_iHand : Cond.code yI_Hand cI_Hand 2 none ∈ BIG := big_of (tpA_in (q := (1, 32)) rfl) rfl
theorem sw_in_iHand : Cond.instanceMethod yI_Hand ∈ BIG := big_of (tpA_in (q := (1, 31)) rfl) rfl
theorem sw_ini_1 : Cond.initialized "ThimbleLaw$Hand" ∈ BIG := big_of (tpA_in (q := (1, 2)) rfl) rfl
theorem sw_is_1 : Cond.instantiable "ThimbleLaw$Hand" 4 ∈ BIG := big_of (tpA_in (q := (1, 29)) rfl) rfl
theorem sw_oi_Hand : Cond.methodLink "ThimbleLaw$Hand" 3 objectInit ∈ BIG := big_of (tpA_in (q := (1, 33)) rfl) rfl
theorem sw_ml_Hand_11 : Cond.methodLink "ThimbleLaw$Hand" 11 yI_City ∈ BIG := big_of (tpA_in (q := (1, 36)) rfl) rfl
theorem sw_cl_Hand_9 : Cond.classLink "ThimbleLaw$Hand" 9 "ThimbleLaw$City" ∈ BIG := big_of (tpA_in (q := (1, 34)) rfl) rfl
theorem sw_cl_Hand_18 : Cond.classLink "ThimbleLaw$Hand" 18 "ThimbleLaw$Judge" ∈ BIG := big_of (tpA_in (q := (1, 189)) rfl) rfl
theorem sw_cl_Hand_25 : Cond.classLink "ThimbleLaw$Hand" 25 "ThimbleLaw$Text" ∈ BIG := big_of (tpA_in (q := (1, 203)) rfl) rfl
def yI_Judge : MethodName := ⟨"ThimbleLaw$Judge", "<init>", "()V"⟩
abbrev cI_Judge : ByteArray := prog_6_method_1_code
theorem sw_code_iJudge : Cond.code yI_Judge cI_Judge 1 none ∈ BIG := big_of (tpA_in (q := (1, 193)) rfl) rfl
theorem sw_in_iJudge : Cond.instanceMethod yI_Judge ∈ BIG := big_of (tpA_in (q := (1, 192)) rfl) rfl
theorem sw_ini_2 : Cond.initialized "ThimbleLaw$Judge" ∈ BIG := big_of (tpA_in (q := (1, 6)) rfl) rfl
theorem sw_is_2 : Cond.instantiable "ThimbleLaw$Judge" 2 ∈ BIG := big_of (tpA_in (q := (1, 190)) rfl) rfl
theorem sw_oi_Judge : Cond.methodLink "ThimbleLaw$Judge" 3 objectInit ∈ BIG := big_of (tpA_in (q := (1, 194)) rfl) rfl
def yI_Reader : MethodName := ⟨"ThimbleLaw$Reader", "<init>", "()V"⟩
abbrev cI_Reader : ByteArray := prog_7_method_1_code
theorem sw_code_iReader : Cond.code yI_Reader cI_Reader 1 none ∈ BIG := big_of (tpA_in (q := (2, 42)) rfl) rfl
theorem sw_in_iReader : Cond.instanceMethod yI_Reader ∈ BIG := big_of (tpA_in (q := (2, 41)) rfl) rfl
theorem sw_ini_3 : Cond.initialized "ThimbleLaw$Reader" ∈ BIG := big_of (tpA_in (q := (1, 9)) rfl) rfl
theorem sw_is_3 : Cond.instantiable "ThimbleLaw$Reader" 8 ∈ BIG := big_of (tpA_in (q := (2, 39)) rfl) rfl
theorem sw_oi_Reader : Cond.methodLink "ThimbleLaw$Reader" 3 objectInit ∈ BIG := big_of (tpA_in (q := (2, 43)) rfl) rfl
def yI_Road : MethodName := ⟨"ThimbleLaw$Road", "<init>", "()V"⟩
abbrev cI_Road : ByteArray := prog_8_method_1_code
theorem sw_code_iRoad : Cond.code yI_Road cI_Road 1 none ∈ BIG := big_of (tpA_in (q := (2, 24)) rfl) rfl
theorem sw_in_iRoad : Cond.instanceMethod yI_Road ∈ BIG := big_of (tpA_in (q := (2, 23)) rfl) rfl
theorem sw_ini_4 : Cond.initialized "ThimbleLaw$Road" ∈ BIG := big_of (tpA_in (q := (1, 8)) rfl) rfl
theorem sw_is_4 : Cond.instantiable "ThimbleLaw$Road" 3 ∈ BIG := big_of (tpA_in (q := (2, 21)) rfl) rfl
theorem sw_oi_Road : Cond.methodLink "ThimbleLaw$Road" 3 objectInit ∈ BIG := big_of (tpA_in (q := (2, 25)) rfl) rfl
def yI_Steps : MethodName := ⟨"ThimbleLaw$Steps", "<init>", "()V"⟩
abbrev cI_Steps : ByteArray := prog_9_method_1_code
theorem sw_code_iSteps : Cond.code yI_Steps cI_Steps 1 none ∈ BIG := big_of (tpA_in (q := (1, 72)) rfl) rfl
theorem sw_in_iSteps : Cond.instanceMethod yI_Steps ∈ BIG := big_of (tpA_in (q := (1, 71)) rfl) rfl
theorem sw_ini_5 : Cond.initialized "ThimbleLaw$Steps" ∈ BIG := big_of (tpA_in (q := (1, 5)) rfl) rfl
theorem sw_is_5 : Cond.instantiable "ThimbleLaw$Steps" 3 ∈ BIG := big_of (tpA_in (q := (1, 69)) rfl) rfl
theorem sw_oi_Steps : Cond.methodLink "ThimbleLaw$Steps" 7 objectInit ∈ BIG := big_of (tpA_in (q := (1, 73)) rfl) rfl
def yI_Text : MethodName := ⟨"ThimbleLaw$Text", "<init>", "()V"⟩
abbrev cI_Text : ByteArray := prog_10_method_1_code
theorem sw_code_iText : Cond.code yI_Text cI_Text 1 none ∈ BIG := big_of (tpA_in (q := (1, 208)) rfl) rfl
theorem sw_in_iText : Cond.instanceMethod yI_Text ∈ BIG := big_of (tpA_in (q := (1, 207)) rfl) rfl
theorem sw_ini_6 : Cond.initialized "ThimbleLaw$Text" ∈ BIG := big_of (tpA_in (q := (1, 7)) rfl) rfl
theorem sw_is_6 : Cond.instantiable "ThimbleLaw$Text" 7 ∈ BIG := big_of (tpA_in (q := (1, 205)) rfl) rfl
theorem sw_oi_Text : Cond.methodLink "ThimbleLaw$Text" 3 objectInit ∈ BIG := big_of (tpA_in (q := (1, 209)) rfl) rfl
def yI_Told : MethodName := ⟨"ThimbleLaw$Told", "<init>", "()V"⟩
abbrev cI_Told : ByteArray := prog_12_method_1_code
theorem sw_code_iTold : Cond.code yI_Told cI_Told 1 none ∈ BIG := big_of (tpA_in (q := (1, 44)) rfl) rfl
theorem sw_in_iTold : Cond.instanceMethod yI_Told ∈ BIG := big_of (tpA_in (q := (1, 43)) rfl) rfl
theorem sw_ini_7 : Cond.initialized "ThimbleLaw$Told" ∈ BIG := big_of (tpA_in (q := (1, 4)) rfl) rfl
theorem sw_is_7 : Cond.instantiable "ThimbleLaw$Told" 4 ∈ BIG := big_of (tpA_in (q := (1, 41)) rfl) rfl
theorem sw_oi_Told : Cond.methodLink "ThimbleLaw$Told" 3 objectInit ∈ BIG := big_of (tpA_in (q := (1, 45)) rfl) rfl
def yI_Law : MethodName := ⟨"ThimbleLaw", "<init>", "()V"⟩
abbrev cI_Law : ByteArray := prog_1_method_1_code
theorem sw_code_iLaw : Cond.code yI_Law cI_Law 1 none ∈ BIG := big_of (tpA_in (q := (1, 24)) rfl) rfl
theorem sw_in_iLaw : Cond.instanceMethod yI_Law ∈ BIG := big_of (tpA_in (q := (1, 23)) rfl) rfl
theorem sw_ini_8 : Cond.initialized "ThimbleLaw" ∈ BIG := big_of (tpA_in (q := (1, 1)) rfl) rfl
theorem sw_is_8 : Cond.instantiable "ThimbleLaw" 9 ∈ BIG := big_of (tpA_in (q := (1, 21)) rfl) rfl
theorem sw_oi_Law : Cond.methodLink "ThimbleLaw" 1 objectInit ∈ BIG := big_of (tpA_in (q := (1, 25)) rfl) rfl
theorem sw_ml_Law_9 : Cond.methodLink "ThimbleLaw" 9 yI_Hand ∈ BIG := big_of (tpA_in (q := (1, 30)) rfl) rfl
theorem sw_ml_Law_23 : Cond.methodLink "ThimbleLaw" 23 yI_City ∈ BIG := big_of (tpA_in (q := (2, 19)) rfl) rfl
theorem sw_cl_Law_7 : Cond.classLink "ThimbleLaw" 7 "ThimbleLaw$Hand" ∈ BIG := big_of (tpA_in (q := (1, 28)) rfl) rfl
theorem sw_cl_Law_21 : Cond.classLink "ThimbleLaw" 21 "ThimbleLaw$City" ∈ BIG := big_of (tpA_in (q := (2, 18)) rfl) rfl
theorem sw_cl_Law_27 : Cond.classLink "ThimbleLaw" 27 "ThimbleLaw$Road" ∈ BIG := big_of (tpA_in (q := (2, 20)) rfl) rfl
theorem sw_cl_Law_34 : Cond.classLink "ThimbleLaw" 34 "ThimbleLaw$Reader" ∈ BIG := big_of (tpA_in (q := (2, 38)) rfl) rfl
def yI_Model : MethodName := ⟨"ThimbleLawModel", "<init>", "()V"⟩
abbrev cI_Model : ByteArray := prog_14_method_1_code
theorem sw_code_iModel : Cond.code yI_Model cI_Model 2 none ∈ BIG := big_of (tpA_in (q := (5, 124)) rfl) rfl
theorem sw_in_iModel : Cond.instanceMethod yI_Model ∈ BIG := big_of (tpA_in (q := (5, 123)) rfl) rfl
theorem sw_ini_9 : Cond.initialized "ThimbleLawModel" ∈ BIG := big_of (tpA_in (q := (1, 10)) rfl) rfl
theorem sw_is_9 : Cond.instantiable "ThimbleLawModel" 26 ∈ BIG := big_of (tpA_in (q := (5, 121)) rfl) rfl
theorem sw_oi_Model : Cond.methodLink "ThimbleLawModel" 1 objectInit ∈ BIG := big_of (tpA_in (q := (5, 125)) rfl) rfl
theorem sw_oinst : Cond.instanceMethod objectInit ∈ BIG := big_of (tpA_in (q := (1, 26)) rfl) rfl
theorem sw_ocode : Cond.code objectInit ⟨#[0xb1]⟩ 1 none ∈ BIG := big_of (tpA_in (q := (1, 27)) rfl) rfl
theorem sw_arr_int : Cond.arrayClass .int ∈ BIG := big_of (tpA_in (q := (1, 67)) rfl) rfl
theorem sw_arr_byte : Cond.arrayClass .byte ∈ BIG := big_of (tpA_in (q := (2, 99)) rfl) rfl
theorem sw_arr_boolean : Cond.arrayClass .boolean ∈ BIG := big_of (tpA_in (q := (5, 209)) rfl) rfl
theorem sw_arr_long : Cond.arrayClass .long ∈ BIG := big_of (tpA_in (q := (5, 208)) rfl) rfl
def nestI : List (String × Nat × MethodName) := [("ThimbleLaw$City", 60, yI_Told), ("ThimbleLaw$City", 73, yI_Steps), ("ThimbleLaw$Hand", 20, yI_Judge), ("ThimbleLaw$Hand", 35, yI_Text), ("ThimbleLaw", 29, yI_Road), ("ThimbleLaw", 36, yI_Reader)]
def NXI (U : State) : Prop := va_AO "ThimbleLaw$Text" U ∧ ∀ q ∈ nestI, va_Nw (.methodLinkNest q.1 q.2.1 q.2.2 "ThimbleLaw") U
theorem NXI.kept {s U : State} (h : NXI s) (hW : s.WarmedH U.vm) : NXI U := ⟨va_AO.moved hW.alike h.1, fun q hq => (h.2 q hq).warmM hW⟩
def PcI (D : va_G) (cA : Nat → ClassId) (ws : va_W) (av : List Value) (sz : Nat) : Array Value → State → Prop := va_Pc av (fun U => U.heap.size = sz ∧ va_P D fcs ws U.heap ∧ (va_K D fcs (tysL cA) U ∧ NXI U) ∧ va_D (fun _ => True) ws)
theorem PcI.blind {D : va_G} {cA : Nat → ClassId} {ws : va_W} {av : List Value} {sz : Nat} : FrameBlind (PcI D cA ws av sz) := by
  intro a U g mk q
  obtain ⟨q0, q1, qP, ⟨qK, qN⟩, qD⟩ := q
  exact ⟨q0, q1, qP, ⟨va_K.moved (u := U) (U := U.calling g mk a) (Vm.Alike.refl U.vm) qK, va_AO.moved (Vm.Alike.refl U.vm) qN.1, fun q hq => va_Nw.same rfl rfl (qN.2 q hq)⟩, qD⟩
theorem arr_same {D : va_G} {cl : List vw_C} {cA : Nat → ClassId} {s : State} {i : Nat} {c : ClassId} {ty : FieldType} (hK : va_K D cl (tysL cA ++ [(c, ty)]) s) (hi : (tysL cA)[i]? = some (cA i, ty)) : c = cA i := by
  have h1 := (hK.2 5 (c, ty) rfl).2
  have hi2 : (tysL cA ++ [(c, ty)])[i]? = some (cA i, ty) := by
    rw [List.getElem?_append_left (List.getElem?_eq_some_iff.mp hi).1]; exact hi
  have h2 := (hK.2 i _ hi2).2
  cases ty with
  | object C =>
    obtain ⟨_, _, _, _, _, a⟩ := h1
    obtain ⟨_, _, _, _, _, b⟩ := h2
    exact Option.some.inj (a.symm.trans b)
  | _ => exact Option.some.inj (Eq.trans (Eq.symm h1) h2)
theorem dI_Told_0 : decode cI_Told 0 = .ok (.aload_n 0, 1) := by decide +kernel
theorem dI_Told_1 : decode cI_Told 1 = .ok (.invokespecial 3, 3) := by decide +kernel
theorem dI_Told_4 : decode cI_Told 4 = .ok (.aload_n 0, 1) := by decide +kernel
theorem dI_Told_5 : decode cI_Told 5 = .ok (.bipush 8, 2) := by decide +kernel
theorem dI_Told_7 : decode cI_Told 7 = .ok (.newarray .int, 2) := by decide +kernel
theorem dI_Told_9 : decode cI_Told 9 = .ok (.putfield 11, 3) := by decide +kernel
theorem dI_Told_12 : decode cI_Told 12 = .ok (.aload_n 0, 1) := by decide +kernel
theorem dI_Told_13 : decode cI_Told 13 = .ok (.bipush 8, 2) := by decide +kernel
theorem dI_Told_15 : decode cI_Told 15 = .ok (.newarray .int, 2) := by decide +kernel
theorem dI_Told_17 : decode cI_Told 17 = .ok (.putfield 15, 3) := by decide +kernel
theorem dI_Told_20 : decode cI_Told 20 = .ok (.aload_n 0, 1) := by decide +kernel
theorem dI_Told_21 : decode cI_Told 21 = .ok (.bipush 8, 2) := by decide +kernel
theorem dI_Told_23 : decode cI_Told 23 = .ok (.newarray .int, 2) := by decide +kernel
theorem dI_Told_25 : decode cI_Told 25 = .ok (.putfield 18, 3) := by decide +kernel
theorem dI_Told_28 : decode cI_Told 28 = .ok (.aload_n 0, 1) := by decide +kernel
theorem dI_Told_29 : decode cI_Told 29 = .ok (.iconst 0, 1) := by decide +kernel
theorem dI_Told_30 : decode cI_Told 30 = .ok (.putfield 21, 3) := by decide +kernel
theorem dI_Told_33 : decode cI_Told 33 = .ok (.return_, 1) := by decide +kernel
def W_Told (cA : Nat → ClassId) (ad : Nat → Nat) : va_W := [((ad 0), .inr (7, [.ref (ad 1), .ref (ad 2), .ref (ad 3), .int (Int32.ofInt 0)])), ((ad 1), .inl (cA 0, 8, .inl (fun _ => Int32.ofInt 0))), ((ad 2), .inl (cA 0, 8, .inl (fun _ => Int32.ofInt 0))), ((ad 3), .inl (cA 0, 8, .inl (fun _ => Int32.ofInt 0)))]
set_option maxHeartbeats 16000000 in
set_option maxRecDepth 100000 in
theorem k_Told (l : Launch) (D : va_G) (cA : Nat → ClassId) (h0 sz : Nat) : Met l yI_Told (wsJ yI_Told cI_Told 1 none) ({ frames := 1, cells := 3, slots := 24, locals := 40 }) (PcI D cA [(h0, .inr (7, [.null, .null, .null, .int (Int32.ofInt 0)]))] [.ref h0] sz) (va_Qv (fun ad : Nat → Nat => ad 0 = h0) (fun ad t => va_P D fcs (W_Told cA ad) t.heap ∧ va_D (va_A [(h0, .inr (7, [.null, .null, .null, .int (Int32.ofInt 0)]))] sz) (W_Told cA ad)) (va_A [(h0, .inr (7, [.null, .null, .null, .int (Int32.ofInt 0)]))] sz)) 3 24 (va_A [(h0, .inr (7, [.null, .null, .null, .int (Int32.ofInt 0)]))] sz) := by
  refine Met.ofW (cc := cI_Told) (maxL := 1) (ret := none) (by decide) rfl ?_
  intro p e s m args below meth c s₁ B hml hv
  obtain ⟨rfl, hsz, hP, ⟨hK, hN⟩, hD0⟩ := hv
  have hx := B.exec
  have hb := B.bytes
  have hr := B.returns
  have hts : ∀ w ∈ BIG, w.before _ s = true := fun w hw => atoms_spec (ws := wsJ yI_Told cI_Told 1 none) B.pre w (List.mem_cons_of_mem _ hw)
  have hown : s.vm.findClass "ThimbleLaw$Told" = some m.cls := findClass_of_methodNamed B.named
  have hlocks := B.notSynchronized
  have hin : meth.name = "<init>" := (name_of_methodNamed B.named B.method).1
  have hO := hN.1
  subst hsz
  have hD := hD0.self (sz := s.heap.size)
  generalize hAe : va_A [(h0, .inr (7, [.null, .null, .null, .int (Int32.ofInt 0)]))] s.heap.size = A at hD ⊢
  have hA : ∀ q : Nat, s.heap.size ≤ q → A q := fun q h => by rw [← hAe]; exact Or.inr h
  have hS : va_S A s.heap s.heap [] := va_S.rf
  have hP : va_P D fcs [(h0, .inr (7, [.null, .null, .null, .int (Int32.ofInt 0)]))] s.heap := hP
  have hl := lv_entry ([.ref h0]) (n := 1) (Nat.le_of_ble_eq_true rfl)
  rw [lg_entry_eq]
  generalize (lg_sl ([.ref h0]) ++ List.replicate (1 - (lg_sl ([.ref h0])).length) Slot.unset).toArray = ls at hl ⊢
  have hl : lv_has ls 1 [(0, .ref h0)] := hl
  refine lv_aload_n hx hb dI_Told_0 rfl (lv_at hl 0 rfl) ?_
  refine W.objInit hx hb hown (hts _ sw_oi_Told) (hts _ sw_oinst) (hts _ sw_ocode) rfl (by rw [hml]; exact hl.1) rfl dI_Told_1 (Nat.le_of_ble_eq_true rfl) (Nat.le_of_ble_eq_true rfl) ?_
  refine W.eq (g2 := F0 m 4 ls []) rfl ?_
  refine lv_aload_n hx hb dI_Told_4 rfl (lv_at hl 0 rfl) ?_
  refine lv_bipush (v := Int32.ofInt 8) hx hb dI_Told_5 (by decide) ?_
  refine va_newa (atype := .int) (ty := .int) (N' := 8) (a0 := (8, .inl (fun _ => Int32.ofInt 0))) hx hb (hts _ sw_arr_int) rfl hK hP hD hS hA (fun _ => rfl) (by decide) (by decide) (by decide) (Nat.le_of_ble_eq_true rfl) (Nat.le_of_ble_eq_true rfl) dI_Told_7 (fun q1 cx H hKx hP hD hS => ?_)
  obtain rfl := arr_same (i := 0) hKx rfl
  have hP : va_P D fcs [(h0, .inr (7, [.null, .null, .null, .int (Int32.ofInt 0)])), (q1, .inl (cA 0, 8, .inl (fun _ => Int32.ofInt 0)))] H := hP
  have hD : va_D A [(h0, .inr (7, [.null, .null, .null, .int (Int32.ofInt 0)])), (q1, .inl (cA 0, 8, .inl (fun _ => Int32.ofInt 0)))] := hD
  refine va_putF (D := D) (ci := 7) (v := .ref q1) (ty := .array .int) (C := clN 7) (T := clT 7) (N := clM 7) (ref := clN 7) hx hb hts (uw_in (c := 7) (by decide)) (clY 7) (ckY 7 (by decide)) (ckX 7 (by decide)) hown hK hP hD hS 0 rfl rfl 0 (by decide) (hts _ (fl_in (w := 9) (i := 11) (c := 7) (k := 0) (by decide) rfl).1) (fun _ h9 => h9) rfl hin rfl (ckY 7 (by decide) 0 (by decide)) rfl rfl (Nat.le_of_ble_eq_true rfl) dI_Told_9 (fun H locs hP hD hS => ?_)
  have hP : va_P D fcs [(h0, .inr (7, [.ref q1, .null, .null, .int (Int32.ofInt 0)])), (q1, .inl (cA 0, 8, .inl (fun _ => Int32.ofInt 0)))] H := hP
  have hD : va_D A [(h0, .inr (7, [.ref q1, .null, .null, .int (Int32.ofInt 0)])), (q1, .inl (cA 0, 8, .inl (fun _ => Int32.ofInt 0)))] := hD
  refine lv_aload_n hx hb dI_Told_12 rfl (lv_at hl 0 rfl) ?_
  refine lv_bipush (v := Int32.ofInt 8) hx hb dI_Told_13 (by decide) ?_
  refine va_newa (atype := .int) (ty := .int) (N' := 8) (a0 := (8, .inl (fun _ => Int32.ofInt 0))) hx hb (hts _ sw_arr_int) rfl hK hP hD hS hA (fun _ => rfl) (by decide) (by decide) (by decide) (Nat.le_of_ble_eq_true rfl) (Nat.le_of_ble_eq_true rfl) dI_Told_15 (fun q2 cx H hKx hP hD hS => ?_)
  obtain rfl := arr_same (i := 0) hKx rfl
  have hP : va_P D fcs [(h0, .inr (7, [.ref q1, .null, .null, .int (Int32.ofInt 0)])), (q1, .inl (cA 0, 8, .inl (fun _ => Int32.ofInt 0))), (q2, .inl (cA 0, 8, .inl (fun _ => Int32.ofInt 0)))] H := hP
  have hD : va_D A [(h0, .inr (7, [.ref q1, .null, .null, .int (Int32.ofInt 0)])), (q1, .inl (cA 0, 8, .inl (fun _ => Int32.ofInt 0))), (q2, .inl (cA 0, 8, .inl (fun _ => Int32.ofInt 0)))] := hD
  refine va_putF (D := D) (ci := 7) (v := .ref q2) (ty := .array .int) (C := clN 7) (T := clT 7) (N := clM 7) (ref := clN 7) hx hb hts (uw_in (c := 7) (by decide)) (clY 7) (ckY 7 (by decide)) (ckX 7 (by decide)) hown hK hP hD hS 0 rfl rfl 1 (by decide) (hts _ (fl_in (w := 9) (i := 15) (c := 7) (k := 1) (by decide) rfl).1) (fun _ h9 => h9) rfl hin rfl (ckY 7 (by decide) 1 (by decide)) rfl rfl (Nat.le_of_ble_eq_true rfl) dI_Told_17 (fun H locs hP hD hS => ?_)
  have hP : va_P D fcs [(h0, .inr (7, [.ref q1, .ref q2, .null, .int (Int32.ofInt 0)])), (q1, .inl (cA 0, 8, .inl (fun _ => Int32.ofInt 0))), (q2, .inl (cA 0, 8, .inl (fun _ => Int32.ofInt 0)))] H := hP
  have hD : va_D A [(h0, .inr (7, [.ref q1, .ref q2, .null, .int (Int32.ofInt 0)])), (q1, .inl (cA 0, 8, .inl (fun _ => Int32.ofInt 0))), (q2, .inl (cA 0, 8, .inl (fun _ => Int32.ofInt 0)))] := hD
  refine lv_aload_n hx hb dI_Told_20 rfl (lv_at hl 0 rfl) ?_
  refine lv_bipush (v := Int32.ofInt 8) hx hb dI_Told_21 (by decide) ?_
  refine va_newa (atype := .int) (ty := .int) (N' := 8) (a0 := (8, .inl (fun _ => Int32.ofInt 0))) hx hb (hts _ sw_arr_int) rfl hK hP hD hS hA (fun _ => rfl) (by decide) (by decide) (by decide) (Nat.le_of_ble_eq_true rfl) (Nat.le_of_ble_eq_true rfl) dI_Told_23 (fun q3 cx H hKx hP hD hS => ?_)
  obtain rfl := arr_same (i := 0) hKx rfl
  have hP : va_P D fcs [(h0, .inr (7, [.ref q1, .ref q2, .null, .int (Int32.ofInt 0)])), (q1, .inl (cA 0, 8, .inl (fun _ => Int32.ofInt 0))), (q2, .inl (cA 0, 8, .inl (fun _ => Int32.ofInt 0))), (q3, .inl (cA 0, 8, .inl (fun _ => Int32.ofInt 0)))] H := hP
  have hD : va_D A [(h0, .inr (7, [.ref q1, .ref q2, .null, .int (Int32.ofInt 0)])), (q1, .inl (cA 0, 8, .inl (fun _ => Int32.ofInt 0))), (q2, .inl (cA 0, 8, .inl (fun _ => Int32.ofInt 0))), (q3, .inl (cA 0, 8, .inl (fun _ => Int32.ofInt 0)))] := hD
  refine va_putF (D := D) (ci := 7) (v := .ref q3) (ty := .array .int) (C := clN 7) (T := clT 7) (N := clM 7) (ref := clN 7) hx hb hts (uw_in (c := 7) (by decide)) (clY 7) (ckY 7 (by decide)) (ckX 7 (by decide)) hown hK hP hD hS 0 rfl rfl 2 (by decide) (hts _ (fl_in (w := 9) (i := 18) (c := 7) (k := 2) (by decide) rfl).1) (fun _ h9 => h9) rfl hin rfl (ckY 7 (by decide) 2 (by decide)) rfl rfl (Nat.le_of_ble_eq_true rfl) dI_Told_25 (fun H locs hP hD hS => ?_)
  have hP : va_P D fcs [(h0, .inr (7, [.ref q1, .ref q2, .ref q3, .int (Int32.ofInt 0)])), (q1, .inl (cA 0, 8, .inl (fun _ => Int32.ofInt 0))), (q2, .inl (cA 0, 8, .inl (fun _ => Int32.ofInt 0))), (q3, .inl (cA 0, 8, .inl (fun _ => Int32.ofInt 0)))] H := hP
  have hD : va_D A [(h0, .inr (7, [.ref q1, .ref q2, .ref q3, .int (Int32.ofInt 0)])), (q1, .inl (cA 0, 8, .inl (fun _ => Int32.ofInt 0))), (q2, .inl (cA 0, 8, .inl (fun _ => Int32.ofInt 0))), (q3, .inl (cA 0, 8, .inl (fun _ => Int32.ofInt 0)))] := hD
  refine lv_aload_n hx hb dI_Told_28 rfl (lv_at hl 0 rfl) ?_
  refine lv_iconst (v := Int32.ofInt 0) hx hb dI_Told_29 rfl ?_
  refine va_put (D := D) (ci := 7) (v := .int (Int32.ofInt 0)) (ty := .int) (C := clN 7) (T := clT 7) (N := clM 7) (ref := clN 7) hx hb hts (uw_in (c := 7) (by decide)) (clY 7) (ckY 7 (by decide)) (ckX 7 (by decide)) hown hK hP hD hS 0 rfl rfl 3 (by decide) (hts _ (fl_in (w := 9) (i := 21) (c := 7) (k := 3) (by decide) rfl).1) (fun _ h9 => h9) rfl (ckY 7 (by decide) 3 (by decide)) rfl rfl (Nat.le_of_ble_eq_true rfl) dI_Told_30 (fun H locs hP hD hS => ?_)
  have hP : va_P D fcs [(h0, .inr (7, [.ref q1, .ref q2, .ref q3, .int (Int32.ofInt 0)])), (q1, .inl (cA 0, 8, .inl (fun _ => Int32.ofInt 0))), (q2, .inl (cA 0, 8, .inl (fun _ => Int32.ofInt 0))), (q3, .inl (cA 0, 8, .inl (fun _ => Int32.ofInt 0)))] H := hP
  have hD : va_D A [(h0, .inr (7, [.ref q1, .ref q2, .ref q3, .int (Int32.ofInt 0)])), (q1, .inl (cA 0, 8, .inl (fun _ => Int32.ofInt 0))), (q2, .inl (cA 0, 8, .inl (fun _ => Int32.ofInt 0))), (q3, .inl (cA 0, 8, .inl (fun _ => Int32.ofInt 0)))] := hD
  have hP9 := hP.sub (ws' := [(h0, .inr (7, [.ref q1, .ref q2, .ref q3, .int (Int32.ofInt 0)])), (q1, .inl (cA 0, 8, .inl (fun _ => Int32.ofInt 0))), (q2, .inl (cA 0, 8, .inl (fun _ => Int32.ofInt 0))), (q3, .inl (cA 0, 8, .inl (fun _ => Int32.ofInt 0)))]) [0, 1, 2, 3] rfl
  have hD9 := hD.sub (ws' := [(h0, .inr (7, [.ref q1, .ref q2, .ref q3, .int (Int32.ofInt 0)])), (q1, .inl (cA 0, 8, .inl (fun _ => Int32.ofInt 0))), (q2, .inl (cA 0, 8, .inl (fun _ => Int32.ofInt 0))), (q3, .inl (cA 0, 8, .inl (fun _ => Int32.ofInt 0)))]) [0, 1, 2, 3] (by decide) rfl
  exact W.vret hx hb hr (fun t ht hW => ⟨⟨nth 0 [h0, q1, q2, q3], rfl, rfl, by rw [ht]; exact hP9, hD9⟩, hS.F ht⟩) hS.2.2 dI_Told_33
theorem dI_Steps_0 : decode cI_Steps 0 = .ok (.aload_n 0, 1) := by decide +kernel
theorem dI_Steps_1 : decode cI_Steps 1 = .ok (.invokespecial 7, 3) := by decide +kernel
theorem dI_Steps_4 : decode cI_Steps 4 = .ok (.aload_n 0, 1) := by decide +kernel
theorem dI_Steps_5 : decode cI_Steps 5 = .ok (.sipush 2130, 3) := by decide +kernel
theorem dI_Steps_8 : decode cI_Steps 8 = .ok (.newarray .int, 2) := by decide +kernel
theorem dI_Steps_10 : decode cI_Steps 10 = .ok (.putfield 13, 3) := by decide +kernel
theorem dI_Steps_13 : decode cI_Steps 13 = .ok (.aload_n 0, 1) := by decide +kernel
theorem dI_Steps_14 : decode cI_Steps 14 = .ok (.iconst 0, 1) := by decide +kernel
theorem dI_Steps_15 : decode cI_Steps 15 = .ok (.putfield 17, 3) := by decide +kernel
theorem dI_Steps_18 : decode cI_Steps 18 = .ok (.aload_n 0, 1) := by decide +kernel
theorem dI_Steps_19 : decode cI_Steps 19 = .ok (.iconst 0, 1) := by decide +kernel
theorem dI_Steps_20 : decode cI_Steps 20 = .ok (.putfield 21, 3) := by decide +kernel
theorem dI_Steps_23 : decode cI_Steps 23 = .ok (.return_, 1) := by decide +kernel
def W_Steps (cA : Nat → ClassId) (ad : Nat → Nat) : va_W := [((ad 0), .inr (5, [.ref (ad 1), .int (Int32.ofInt 0), .int (Int32.ofInt 0)])), ((ad 1), .inl (cA 0, 2130, .inl (fun _ => Int32.ofInt 0)))]
set_option maxHeartbeats 16000000 in
set_option maxRecDepth 100000 in
theorem k_Steps (l : Launch) (D : va_G) (cA : Nat → ClassId) (h0 sz : Nat) : Met l yI_Steps (wsJ yI_Steps cI_Steps 1 none) ({ frames := 1, cells := 1, slots := 2130, locals := 40 }) (PcI D cA [(h0, .inr (5, [.null, .int (Int32.ofInt 0), .int (Int32.ofInt 0)]))] [.ref h0] sz) (va_Qv (fun ad : Nat → Nat => ad 0 = h0) (fun ad t => va_P D fcs (W_Steps cA ad) t.heap ∧ va_D (va_A [(h0, .inr (5, [.null, .int (Int32.ofInt 0), .int (Int32.ofInt 0)]))] sz) (W_Steps cA ad)) (va_A [(h0, .inr (5, [.null, .int (Int32.ofInt 0), .int (Int32.ofInt 0)]))] sz)) 1 2130 (va_A [(h0, .inr (5, [.null, .int (Int32.ofInt 0), .int (Int32.ofInt 0)]))] sz) := by
  refine Met.ofW (cc := cI_Steps) (maxL := 1) (ret := none) (by decide) rfl ?_
  intro p e s m args below meth c s₁ B hml hv
  obtain ⟨rfl, hsz, hP, ⟨hK, hN⟩, hD0⟩ := hv
  have hx := B.exec
  have hb := B.bytes
  have hr := B.returns
  have hts : ∀ w ∈ BIG, w.before _ s = true := fun w hw => atoms_spec (ws := wsJ yI_Steps cI_Steps 1 none) B.pre w (List.mem_cons_of_mem _ hw)
  have hown : s.vm.findClass "ThimbleLaw$Steps" = some m.cls := findClass_of_methodNamed B.named
  have hlocks := B.notSynchronized
  have hin : meth.name = "<init>" := (name_of_methodNamed B.named B.method).1
  have hO := hN.1
  subst hsz
  have hD := hD0.self (sz := s.heap.size)
  generalize hAe : va_A [(h0, .inr (5, [.null, .int (Int32.ofInt 0), .int (Int32.ofInt 0)]))] s.heap.size = A at hD ⊢
  have hA : ∀ q : Nat, s.heap.size ≤ q → A q := fun q h => by rw [← hAe]; exact Or.inr h
  have hS : va_S A s.heap s.heap [] := va_S.rf
  have hP : va_P D fcs [(h0, .inr (5, [.null, .int (Int32.ofInt 0), .int (Int32.ofInt 0)]))] s.heap := hP
  have hl := lv_entry ([.ref h0]) (n := 1) (Nat.le_of_ble_eq_true rfl)
  rw [lg_entry_eq]
  generalize (lg_sl ([.ref h0]) ++ List.replicate (1 - (lg_sl ([.ref h0])).length) Slot.unset).toArray = ls at hl ⊢
  have hl : lv_has ls 1 [(0, .ref h0)] := hl
  refine lv_aload_n hx hb dI_Steps_0 rfl (lv_at hl 0 rfl) ?_
  refine W.objInit hx hb hown (hts _ sw_oi_Steps) (hts _ sw_oinst) (hts _ sw_ocode) rfl (by rw [hml]; exact hl.1) rfl dI_Steps_1 (Nat.le_of_ble_eq_true rfl) (Nat.le_of_ble_eq_true rfl) ?_
  refine W.eq (g2 := F0 m 4 ls []) rfl ?_
  refine lv_aload_n hx hb dI_Steps_4 rfl (lv_at hl 0 rfl) ?_
  refine lv_sipush (v := Int32.ofInt 2130) hx hb dI_Steps_5 (by decide) ?_
  refine va_newa (atype := .int) (ty := .int) (N' := 2130) (a0 := (2130, .inl (fun _ => Int32.ofInt 0))) hx hb (hts _ sw_arr_int) rfl hK hP hD hS hA (fun _ => rfl) (by decide) (by decide) (by decide) (Nat.le_of_ble_eq_true rfl) (Nat.le_of_ble_eq_true rfl) dI_Steps_8 (fun q1 cx H hKx hP hD hS => ?_)
  obtain rfl := arr_same (i := 0) hKx rfl
  have hP : va_P D fcs [(h0, .inr (5, [.null, .int (Int32.ofInt 0), .int (Int32.ofInt 0)])), (q1, .inl (cA 0, 2130, .inl (fun _ => Int32.ofInt 0)))] H := hP
  have hD : va_D A [(h0, .inr (5, [.null, .int (Int32.ofInt 0), .int (Int32.ofInt 0)])), (q1, .inl (cA 0, 2130, .inl (fun _ => Int32.ofInt 0)))] := hD
  refine va_putF (D := D) (ci := 5) (v := .ref q1) (ty := .array .int) (C := clN 5) (T := clT 5) (N := clM 5) (ref := clN 5) hx hb hts (uw_in (c := 5) (by decide)) (clY 5) (ckY 5 (by decide)) (ckX 5 (by decide)) hown hK hP hD hS 0 rfl rfl 0 (by decide) (hts _ (fl_in (w := 7) (i := 13) (c := 5) (k := 0) (by decide) rfl).1) (fun _ h9 => h9) rfl hin rfl (ckY 5 (by decide) 0 (by decide)) rfl rfl (Nat.le_of_ble_eq_true rfl) dI_Steps_10 (fun H locs hP hD hS => ?_)
  have hP : va_P D fcs [(h0, .inr (5, [.ref q1, .int (Int32.ofInt 0), .int (Int32.ofInt 0)])), (q1, .inl (cA 0, 2130, .inl (fun _ => Int32.ofInt 0)))] H := hP
  have hD : va_D A [(h0, .inr (5, [.ref q1, .int (Int32.ofInt 0), .int (Int32.ofInt 0)])), (q1, .inl (cA 0, 2130, .inl (fun _ => Int32.ofInt 0)))] := hD
  refine lv_aload_n hx hb dI_Steps_13 rfl (lv_at hl 0 rfl) ?_
  refine lv_iconst (v := Int32.ofInt 0) hx hb dI_Steps_14 rfl ?_
  refine va_put (D := D) (ci := 5) (v := .int (Int32.ofInt 0)) (ty := .int) (C := clN 5) (T := clT 5) (N := clM 5) (ref := clN 5) hx hb hts (uw_in (c := 5) (by decide)) (clY 5) (ckY 5 (by decide)) (ckX 5 (by decide)) hown hK hP hD hS 0 rfl rfl 1 (by decide) (hts _ (fl_in (w := 7) (i := 17) (c := 5) (k := 1) (by decide) rfl).1) (fun _ h9 => h9) rfl (ckY 5 (by decide) 1 (by decide)) rfl rfl (Nat.le_of_ble_eq_true rfl) dI_Steps_15 (fun H locs hP hD hS => ?_)
  have hP : va_P D fcs [(h0, .inr (5, [.ref q1, .int (Int32.ofInt 0), .int (Int32.ofInt 0)])), (q1, .inl (cA 0, 2130, .inl (fun _ => Int32.ofInt 0)))] H := hP
  have hD : va_D A [(h0, .inr (5, [.ref q1, .int (Int32.ofInt 0), .int (Int32.ofInt 0)])), (q1, .inl (cA 0, 2130, .inl (fun _ => Int32.ofInt 0)))] := hD
  refine lv_aload_n hx hb dI_Steps_18 rfl (lv_at hl 0 rfl) ?_
  refine lv_iconst (v := Int32.ofInt 0) hx hb dI_Steps_19 rfl ?_
  refine va_put (D := D) (ci := 5) (v := .int (Int32.ofInt 0)) (ty := .int) (C := clN 5) (T := clT 5) (N := clM 5) (ref := clN 5) hx hb hts (uw_in (c := 5) (by decide)) (clY 5) (ckY 5 (by decide)) (ckX 5 (by decide)) hown hK hP hD hS 0 rfl rfl 2 (by decide) (hts _ (fl_in (w := 7) (i := 21) (c := 5) (k := 2) (by decide) rfl).1) (fun _ h9 => h9) rfl (ckY 5 (by decide) 2 (by decide)) rfl rfl (Nat.le_of_ble_eq_true rfl) dI_Steps_20 (fun H locs hP hD hS => ?_)
  have hP : va_P D fcs [(h0, .inr (5, [.ref q1, .int (Int32.ofInt 0), .int (Int32.ofInt 0)])), (q1, .inl (cA 0, 2130, .inl (fun _ => Int32.ofInt 0)))] H := hP
  have hD : va_D A [(h0, .inr (5, [.ref q1, .int (Int32.ofInt 0), .int (Int32.ofInt 0)])), (q1, .inl (cA 0, 2130, .inl (fun _ => Int32.ofInt 0)))] := hD
  have hP9 := hP.sub (ws' := [(h0, .inr (5, [.ref q1, .int (Int32.ofInt 0), .int (Int32.ofInt 0)])), (q1, .inl (cA 0, 2130, .inl (fun _ => Int32.ofInt 0)))]) [0, 1] rfl
  have hD9 := hD.sub (ws' := [(h0, .inr (5, [.ref q1, .int (Int32.ofInt 0), .int (Int32.ofInt 0)])), (q1, .inl (cA 0, 2130, .inl (fun _ => Int32.ofInt 0)))]) [0, 1] (by decide) rfl
  exact W.vret hx hb hr (fun t ht hW => ⟨⟨nth 0 [h0, q1], rfl, rfl, by rw [ht]; exact hP9, hD9⟩, hS.F ht⟩) hS.2.2 dI_Steps_23
theorem dI_Judge_0 : decode cI_Judge 0 = .ok (.aload_n 0, 1) := by decide +kernel
theorem dI_Judge_1 : decode cI_Judge 1 = .ok (.invokespecial 3, 3) := by decide +kernel
theorem dI_Judge_4 : decode cI_Judge 4 = .ok (.aload_n 0, 1) := by decide +kernel
theorem dI_Judge_5 : decode cI_Judge 5 = .ok (.bipush 9, 2) := by decide +kernel
theorem dI_Judge_7 : decode cI_Judge 7 = .ok (.newarray .int, 2) := by decide +kernel
theorem dI_Judge_9 : decode cI_Judge 9 = .ok (.putfield 11, 3) := by decide +kernel
theorem dI_Judge_12 : decode cI_Judge 12 = .ok (.aload_n 0, 1) := by decide +kernel
theorem dI_Judge_13 : decode cI_Judge 13 = .ok (.bipush 64, 2) := by decide +kernel
theorem dI_Judge_15 : decode cI_Judge 15 = .ok (.newarray .int, 2) := by decide +kernel
theorem dI_Judge_17 : decode cI_Judge 17 = .ok (.putfield 15, 3) := by decide +kernel
theorem dI_Judge_20 : decode cI_Judge 20 = .ok (.return_, 1) := by decide +kernel
def W_Judge (cA : Nat → ClassId) (ad : Nat → Nat) : va_W := [((ad 0), .inr (2, [.ref (ad 1), .ref (ad 2)])), ((ad 1), .inl (cA 0, 9, .inl (fun _ => Int32.ofInt 0))), ((ad 2), .inl (cA 0, 64, .inl (fun _ => Int32.ofInt 0)))]
set_option maxHeartbeats 16000000 in
set_option maxRecDepth 100000 in
theorem k_Judge (l : Launch) (D : va_G) (cA : Nat → ClassId) (h0 sz : Nat) : Met l yI_Judge (wsJ yI_Judge cI_Judge 1 none) ({ frames := 1, cells := 2, slots := 73, locals := 40 }) (PcI D cA [(h0, .inr (2, [.null, .null]))] [.ref h0] sz) (va_Qv (fun ad : Nat → Nat => ad 0 = h0) (fun ad t => va_P D fcs (W_Judge cA ad) t.heap ∧ va_D (va_A [(h0, .inr (2, [.null, .null]))] sz) (W_Judge cA ad)) (va_A [(h0, .inr (2, [.null, .null]))] sz)) 2 73 (va_A [(h0, .inr (2, [.null, .null]))] sz) := by
  refine Met.ofW (cc := cI_Judge) (maxL := 1) (ret := none) (by decide) rfl ?_
  intro p e s m args below meth c s₁ B hml hv
  obtain ⟨rfl, hsz, hP, ⟨hK, hN⟩, hD0⟩ := hv
  have hx := B.exec
  have hb := B.bytes
  have hr := B.returns
  have hts : ∀ w ∈ BIG, w.before _ s = true := fun w hw => atoms_spec (ws := wsJ yI_Judge cI_Judge 1 none) B.pre w (List.mem_cons_of_mem _ hw)
  have hown : s.vm.findClass "ThimbleLaw$Judge" = some m.cls := findClass_of_methodNamed B.named
  have hlocks := B.notSynchronized
  have hin : meth.name = "<init>" := (name_of_methodNamed B.named B.method).1
  have hO := hN.1
  subst hsz
  have hD := hD0.self (sz := s.heap.size)
  generalize hAe : va_A [(h0, .inr (2, [.null, .null]))] s.heap.size = A at hD ⊢
  have hA : ∀ q : Nat, s.heap.size ≤ q → A q := fun q h => by rw [← hAe]; exact Or.inr h
  have hS : va_S A s.heap s.heap [] := va_S.rf
  have hP : va_P D fcs [(h0, .inr (2, [.null, .null]))] s.heap := hP
  have hl := lv_entry ([.ref h0]) (n := 1) (Nat.le_of_ble_eq_true rfl)
  rw [lg_entry_eq]
  generalize (lg_sl ([.ref h0]) ++ List.replicate (1 - (lg_sl ([.ref h0])).length) Slot.unset).toArray = ls at hl ⊢
  have hl : lv_has ls 1 [(0, .ref h0)] := hl
  refine lv_aload_n hx hb dI_Judge_0 rfl (lv_at hl 0 rfl) ?_
  refine W.objInit hx hb hown (hts _ sw_oi_Judge) (hts _ sw_oinst) (hts _ sw_ocode) rfl (by rw [hml]; exact hl.1) rfl dI_Judge_1 (Nat.le_of_ble_eq_true rfl) (Nat.le_of_ble_eq_true rfl) ?_
  refine W.eq (g2 := F0 m 4 ls []) rfl ?_
  refine lv_aload_n hx hb dI_Judge_4 rfl (lv_at hl 0 rfl) ?_
  refine lv_bipush (v := Int32.ofInt 9) hx hb dI_Judge_5 (by decide) ?_
  refine va_newa (atype := .int) (ty := .int) (N' := 9) (a0 := (9, .inl (fun _ => Int32.ofInt 0))) hx hb (hts _ sw_arr_int) rfl hK hP hD hS hA (fun _ => rfl) (by decide) (by decide) (by decide) (Nat.le_of_ble_eq_true rfl) (Nat.le_of_ble_eq_true rfl) dI_Judge_7 (fun q1 cx H hKx hP hD hS => ?_)
  obtain rfl := arr_same (i := 0) hKx rfl
  have hP : va_P D fcs [(h0, .inr (2, [.null, .null])), (q1, .inl (cA 0, 9, .inl (fun _ => Int32.ofInt 0)))] H := hP
  have hD : va_D A [(h0, .inr (2, [.null, .null])), (q1, .inl (cA 0, 9, .inl (fun _ => Int32.ofInt 0)))] := hD
  refine va_putF (D := D) (ci := 2) (v := .ref q1) (ty := .array .int) (C := clN 2) (T := clT 2) (N := clM 2) (ref := clN 2) hx hb hts (uw_in (c := 2) (by decide)) (clY 2) (ckY 2 (by decide)) (ckX 2 (by decide)) hown hK hP hD hS 0 rfl rfl 0 (by decide) (hts _ (fl_in (w := 4) (i := 11) (c := 2) (k := 0) (by decide) rfl).1) (fun _ h9 => h9) rfl hin rfl (ckY 2 (by decide) 0 (by decide)) rfl rfl (Nat.le_of_ble_eq_true rfl) dI_Judge_9 (fun H locs hP hD hS => ?_)
  have hP : va_P D fcs [(h0, .inr (2, [.ref q1, .null])), (q1, .inl (cA 0, 9, .inl (fun _ => Int32.ofInt 0)))] H := hP
  have hD : va_D A [(h0, .inr (2, [.ref q1, .null])), (q1, .inl (cA 0, 9, .inl (fun _ => Int32.ofInt 0)))] := hD
  refine lv_aload_n hx hb dI_Judge_12 rfl (lv_at hl 0 rfl) ?_
  refine lv_bipush (v := Int32.ofInt 64) hx hb dI_Judge_13 (by decide) ?_
  refine va_newa (atype := .int) (ty := .int) (N' := 64) (a0 := (64, .inl (fun _ => Int32.ofInt 0))) hx hb (hts _ sw_arr_int) rfl hK hP hD hS hA (fun _ => rfl) (by decide) (by decide) (by decide) (Nat.le_of_ble_eq_true rfl) (Nat.le_of_ble_eq_true rfl) dI_Judge_15 (fun q2 cx H hKx hP hD hS => ?_)
  obtain rfl := arr_same (i := 0) hKx rfl
  have hP : va_P D fcs [(h0, .inr (2, [.ref q1, .null])), (q1, .inl (cA 0, 9, .inl (fun _ => Int32.ofInt 0))), (q2, .inl (cA 0, 64, .inl (fun _ => Int32.ofInt 0)))] H := hP
  have hD : va_D A [(h0, .inr (2, [.ref q1, .null])), (q1, .inl (cA 0, 9, .inl (fun _ => Int32.ofInt 0))), (q2, .inl (cA 0, 64, .inl (fun _ => Int32.ofInt 0)))] := hD
  refine va_putF (D := D) (ci := 2) (v := .ref q2) (ty := .array .int) (C := clN 2) (T := clT 2) (N := clM 2) (ref := clN 2) hx hb hts (uw_in (c := 2) (by decide)) (clY 2) (ckY 2 (by decide)) (ckX 2 (by decide)) hown hK hP hD hS 0 rfl rfl 1 (by decide) (hts _ (fl_in (w := 4) (i := 15) (c := 2) (k := 1) (by decide) rfl).1) (fun _ h9 => h9) rfl hin rfl (ckY 2 (by decide) 1 (by decide)) rfl rfl (Nat.le_of_ble_eq_true rfl) dI_Judge_17 (fun H locs hP hD hS => ?_)
  have hP : va_P D fcs [(h0, .inr (2, [.ref q1, .ref q2])), (q1, .inl (cA 0, 9, .inl (fun _ => Int32.ofInt 0))), (q2, .inl (cA 0, 64, .inl (fun _ => Int32.ofInt 0)))] H := hP
  have hD : va_D A [(h0, .inr (2, [.ref q1, .ref q2])), (q1, .inl (cA 0, 9, .inl (fun _ => Int32.ofInt 0))), (q2, .inl (cA 0, 64, .inl (fun _ => Int32.ofInt 0)))] := hD
  have hP9 := hP.sub (ws' := [(h0, .inr (2, [.ref q1, .ref q2])), (q1, .inl (cA 0, 9, .inl (fun _ => Int32.ofInt 0))), (q2, .inl (cA 0, 64, .inl (fun _ => Int32.ofInt 0)))]) [0, 1, 2] rfl
  have hD9 := hD.sub (ws' := [(h0, .inr (2, [.ref q1, .ref q2])), (q1, .inl (cA 0, 9, .inl (fun _ => Int32.ofInt 0))), (q2, .inl (cA 0, 64, .inl (fun _ => Int32.ofInt 0)))]) [0, 1, 2] (by decide) rfl
  exact W.vret hx hb hr (fun t ht hW => ⟨⟨nth 0 [h0, q1, q2], rfl, rfl, by rw [ht]; exact hP9, hD9⟩, hS.F ht⟩) hS.2.2 dI_Judge_20
theorem dI_Text_0 : decode cI_Text 0 = .ok (.aload_n 0, 1) := by decide +kernel
theorem dI_Text_1 : decode cI_Text 1 = .ok (.invokespecial 3, 3) := by decide +kernel
theorem dI_Text_4 : decode cI_Text 4 = .ok (.aload_n 0, 1) := by decide +kernel
theorem dI_Text_5 : decode cI_Text 5 = .ok (.bipush 96, 2) := by decide +kernel
theorem dI_Text_7 : decode cI_Text 7 = .ok (.newarray .int, 2) := by decide +kernel
theorem dI_Text_9 : decode cI_Text 9 = .ok (.putfield 11, 3) := by decide +kernel
theorem dI_Text_12 : decode cI_Text 12 = .ok (.aload_n 0, 1) := by decide +kernel
theorem dI_Text_13 : decode cI_Text 13 = .ok (.sipush 300, 3) := by decide +kernel
theorem dI_Text_16 : decode cI_Text 16 = .ok (.newarray .int, 2) := by decide +kernel
theorem dI_Text_18 : decode cI_Text 18 = .ok (.putfield 15, 3) := by decide +kernel
theorem dI_Text_21 : decode cI_Text 21 = .ok (.aload_n 0, 1) := by decide +kernel
theorem dI_Text_22 : decode cI_Text 22 = .ok (.sipush 300, 3) := by decide +kernel
theorem dI_Text_25 : decode cI_Text 25 = .ok (.newarray .int, 2) := by decide +kernel
theorem dI_Text_27 : decode cI_Text 27 = .ok (.putfield 18, 3) := by decide +kernel
theorem dI_Text_30 : decode cI_Text 30 = .ok (.aload_n 0, 1) := by decide +kernel
theorem dI_Text_31 : decode cI_Text 31 = .ok (.iconst 3, 1) := by decide +kernel
theorem dI_Text_32 : decode cI_Text 32 = .ok (.newarray .int, 2) := by decide +kernel
theorem dI_Text_34 : decode cI_Text 34 = .ok (.dup, 1) := by decide +kernel
theorem dI_Text_35 : decode cI_Text 35 = .ok (.iconst 0, 1) := by decide +kernel
theorem dI_Text_36 : decode cI_Text 36 = .ok (.iconst (-1), 1) := by decide +kernel
theorem dI_Text_37 : decode cI_Text 37 = .ok (.iastore, 1) := by decide +kernel
theorem dI_Text_38 : decode cI_Text 38 = .ok (.dup, 1) := by decide +kernel
theorem dI_Text_39 : decode cI_Text 39 = .ok (.iconst 1, 1) := by decide +kernel
theorem dI_Text_40 : decode cI_Text 40 = .ok (.iconst (-1), 1) := by decide +kernel
theorem dI_Text_41 : decode cI_Text 41 = .ok (.iastore, 1) := by decide +kernel
theorem dI_Text_42 : decode cI_Text 42 = .ok (.dup, 1) := by decide +kernel
theorem dI_Text_43 : decode cI_Text 43 = .ok (.iconst 2, 1) := by decide +kernel
theorem dI_Text_44 : decode cI_Text 44 = .ok (.iconst (-1), 1) := by decide +kernel
theorem dI_Text_45 : decode cI_Text 45 = .ok (.iastore, 1) := by decide +kernel
theorem dI_Text_46 : decode cI_Text 46 = .ok (.putfield 21, 3) := by decide +kernel
theorem dI_Text_49 : decode cI_Text 49 = .ok (.aload_n 0, 1) := by decide +kernel
theorem dI_Text_50 : decode cI_Text 50 = .ok (.iconst 3, 1) := by decide +kernel
theorem dI_Text_51 : decode cI_Text 51 = .ok (.newarray .int, 2) := by decide +kernel
theorem dI_Text_53 : decode cI_Text 53 = .ok (.dup, 1) := by decide +kernel
theorem dI_Text_54 : decode cI_Text 54 = .ok (.iconst 0, 1) := by decide +kernel
theorem dI_Text_55 : decode cI_Text 55 = .ok (.iconst (-1), 1) := by decide +kernel
theorem dI_Text_56 : decode cI_Text 56 = .ok (.iastore, 1) := by decide +kernel
theorem dI_Text_57 : decode cI_Text 57 = .ok (.dup, 1) := by decide +kernel
theorem dI_Text_58 : decode cI_Text 58 = .ok (.iconst 1, 1) := by decide +kernel
theorem dI_Text_59 : decode cI_Text 59 = .ok (.iconst (-1), 1) := by decide +kernel
theorem dI_Text_60 : decode cI_Text 60 = .ok (.iastore, 1) := by decide +kernel
theorem dI_Text_61 : decode cI_Text 61 = .ok (.dup, 1) := by decide +kernel
theorem dI_Text_62 : decode cI_Text 62 = .ok (.iconst 2, 1) := by decide +kernel
theorem dI_Text_63 : decode cI_Text 63 = .ok (.iconst (-1), 1) := by decide +kernel
theorem dI_Text_64 : decode cI_Text 64 = .ok (.iastore, 1) := by decide +kernel
theorem dI_Text_65 : decode cI_Text 65 = .ok (.putfield 24, 3) := by decide +kernel
theorem dI_Text_68 : decode cI_Text 68 = .ok (.aload_n 0, 1) := by decide +kernel
theorem dI_Text_69 : decode cI_Text 69 = .ok (.iconst 0, 1) := by decide +kernel
theorem dI_Text_70 : decode cI_Text 70 = .ok (.putfield 27, 3) := by decide +kernel
theorem dI_Text_73 : decode cI_Text 73 = .ok (.aload_n 0, 1) := by decide +kernel
theorem dI_Text_74 : decode cI_Text 74 = .ok (.iconst 0, 1) := by decide +kernel
theorem dI_Text_75 : decode cI_Text 75 = .ok (.putfield 31, 3) := by decide +kernel
theorem dI_Text_78 : decode cI_Text 78 = .ok (.return_, 1) := by decide +kernel
def W_Text (cA : Nat → ClassId) (ad : Nat → Nat) : va_W := [((ad 0), .inr (6, [.ref (ad 1), .ref (ad 2), .ref (ad 3), .ref (ad 4), .ref (ad 5), .int (Int32.ofInt 0), .int (Int32.ofInt 0)])), ((ad 1), .inl (cA 0, 96, .inl (fun _ => Int32.ofInt 0))), ((ad 2), .inl (cA 0, 300, .inl (fun _ => Int32.ofInt 0))), ((ad 3), .inl (cA 0, 300, .inl (fun _ => Int32.ofInt 0))), ((ad 4), .inl (cA 0, 3, .inl (upd (upd (upd (fun _ => Int32.ofInt 0) 0 (Int32.ofInt (-1))) 1 (Int32.ofInt (-1))) 2 (Int32.ofInt (-1))))), ((ad 5), .inl (cA 0, 3, .inl (upd (upd (upd (fun _ => Int32.ofInt 0) 0 (Int32.ofInt (-1))) 1 (Int32.ofInt (-1))) 2 (Int32.ofInt (-1)))))]
set_option maxHeartbeats 16000000 in
set_option maxRecDepth 100000 in
theorem k_Text (l : Launch) (D : va_G) (cA : Nat → ClassId) (h0 sz : Nat) : Met l yI_Text (wsJ yI_Text cI_Text 1 none) ({ frames := 1, cells := 5, slots := 702, locals := 40 }) (PcI D cA [(h0, .inr (6, [.null, .null, .null, .null, .null, .int (Int32.ofInt 0), .int (Int32.ofInt 0)]))] [.ref h0] sz) (va_Qv (fun ad : Nat → Nat => ad 0 = h0) (fun ad t => va_P D fcs (W_Text cA ad) t.heap ∧ va_D (va_A [(h0, .inr (6, [.null, .null, .null, .null, .null, .int (Int32.ofInt 0), .int (Int32.ofInt 0)]))] sz) (W_Text cA ad)) (va_A [(h0, .inr (6, [.null, .null, .null, .null, .null, .int (Int32.ofInt 0), .int (Int32.ofInt 0)]))] sz)) 5 702 (va_A [(h0, .inr (6, [.null, .null, .null, .null, .null, .int (Int32.ofInt 0), .int (Int32.ofInt 0)]))] sz) := by
  refine Met.ofW (cc := cI_Text) (maxL := 1) (ret := none) (by decide) rfl ?_
  intro p e s m args below meth c s₁ B hml hv
  obtain ⟨rfl, hsz, hP, ⟨hK, hN⟩, hD0⟩ := hv
  have hx := B.exec
  have hb := B.bytes
  have hr := B.returns
  have hts : ∀ w ∈ BIG, w.before _ s = true := fun w hw => atoms_spec (ws := wsJ yI_Text cI_Text 1 none) B.pre w (List.mem_cons_of_mem _ hw)
  have hown : s.vm.findClass "ThimbleLaw$Text" = some m.cls := findClass_of_methodNamed B.named
  have hlocks := B.notSynchronized
  have hin : meth.name = "<init>" := (name_of_methodNamed B.named B.method).1
  have hO := hN.1
  subst hsz
  have hD := hD0.self (sz := s.heap.size)
  generalize hAe : va_A [(h0, .inr (6, [.null, .null, .null, .null, .null, .int (Int32.ofInt 0), .int (Int32.ofInt 0)]))] s.heap.size = A at hD ⊢
  have hA : ∀ q : Nat, s.heap.size ≤ q → A q := fun q h => by rw [← hAe]; exact Or.inr h
  have hS : va_S A s.heap s.heap [] := va_S.rf
  have hP : va_P D fcs [(h0, .inr (6, [.null, .null, .null, .null, .null, .int (Int32.ofInt 0), .int (Int32.ofInt 0)]))] s.heap := hP
  have hl := lv_entry ([.ref h0]) (n := 1) (Nat.le_of_ble_eq_true rfl)
  rw [lg_entry_eq]
  generalize (lg_sl ([.ref h0]) ++ List.replicate (1 - (lg_sl ([.ref h0])).length) Slot.unset).toArray = ls at hl ⊢
  have hl : lv_has ls 1 [(0, .ref h0)] := hl
  refine lv_aload_n hx hb dI_Text_0 rfl (lv_at hl 0 rfl) ?_
  refine W.objInit hx hb hown (hts _ sw_oi_Text) (hts _ sw_oinst) (hts _ sw_ocode) rfl (by rw [hml]; exact hl.1) rfl dI_Text_1 (Nat.le_of_ble_eq_true rfl) (Nat.le_of_ble_eq_true rfl) ?_
  refine W.eq (g2 := F0 m 4 ls []) rfl ?_
  refine lv_aload_n hx hb dI_Text_4 rfl (lv_at hl 0 rfl) ?_
  refine lv_bipush (v := Int32.ofInt 96) hx hb dI_Text_5 (by decide) ?_
  refine va_newa (atype := .int) (ty := .int) (N' := 96) (a0 := (96, .inl (fun _ => Int32.ofInt 0))) hx hb (hts _ sw_arr_int) rfl hK hP hD hS hA (fun _ => rfl) (by decide) (by decide) (by decide) (Nat.le_of_ble_eq_true rfl) (Nat.le_of_ble_eq_true rfl) dI_Text_7 (fun q1 cx H hKx hP hD hS => ?_)
  obtain rfl := arr_same (i := 0) hKx rfl
  have hP : va_P D fcs [(h0, .inr (6, [.null, .null, .null, .null, .null, .int (Int32.ofInt 0), .int (Int32.ofInt 0)])), (q1, .inl (cA 0, 96, .inl (fun _ => Int32.ofInt 0)))] H := hP
  have hD : va_D A [(h0, .inr (6, [.null, .null, .null, .null, .null, .int (Int32.ofInt 0), .int (Int32.ofInt 0)])), (q1, .inl (cA 0, 96, .inl (fun _ => Int32.ofInt 0)))] := hD
  refine va_putF (D := D) (ci := 6) (v := .ref q1) (ty := .array .int) (C := clN 6) (T := clT 6) (N := clM 6) (ref := clN 6) hx hb hts (uw_in (c := 6) (by decide)) (clY 6) (ckY 6 (by decide)) (ckX 6 (by decide)) hown hK hP hD hS 0 rfl rfl 0 (by decide) (hts _ (fl_in (w := 8) (i := 11) (c := 6) (k := 0) (by decide) rfl).1) (fun _ h9 => h9) rfl hin rfl (ckY 6 (by decide) 0 (by decide)) rfl rfl (Nat.le_of_ble_eq_true rfl) dI_Text_9 (fun H locs hP hD hS => ?_)
  have hP : va_P D fcs [(h0, .inr (6, [.ref q1, .null, .null, .null, .null, .int (Int32.ofInt 0), .int (Int32.ofInt 0)])), (q1, .inl (cA 0, 96, .inl (fun _ => Int32.ofInt 0)))] H := hP
  have hD : va_D A [(h0, .inr (6, [.ref q1, .null, .null, .null, .null, .int (Int32.ofInt 0), .int (Int32.ofInt 0)])), (q1, .inl (cA 0, 96, .inl (fun _ => Int32.ofInt 0)))] := hD
  refine lv_aload_n hx hb dI_Text_12 rfl (lv_at hl 0 rfl) ?_
  refine lv_sipush (v := Int32.ofInt 300) hx hb dI_Text_13 (by decide) ?_
  refine va_newa (atype := .int) (ty := .int) (N' := 300) (a0 := (300, .inl (fun _ => Int32.ofInt 0))) hx hb (hts _ sw_arr_int) rfl hK hP hD hS hA (fun _ => rfl) (by decide) (by decide) (by decide) (Nat.le_of_ble_eq_true rfl) (Nat.le_of_ble_eq_true rfl) dI_Text_16 (fun q2 cx H hKx hP hD hS => ?_)
  obtain rfl := arr_same (i := 0) hKx rfl
  have hP : va_P D fcs [(h0, .inr (6, [.ref q1, .null, .null, .null, .null, .int (Int32.ofInt 0), .int (Int32.ofInt 0)])), (q1, .inl (cA 0, 96, .inl (fun _ => Int32.ofInt 0))), (q2, .inl (cA 0, 300, .inl (fun _ => Int32.ofInt 0)))] H := hP
  have hD : va_D A [(h0, .inr (6, [.ref q1, .null, .null, .null, .null, .int (Int32.ofInt 0), .int (Int32.ofInt 0)])), (q1, .inl (cA 0, 96, .inl (fun _ => Int32.ofInt 0))), (q2, .inl (cA 0, 300, .inl (fun _ => Int32.ofInt 0)))] := hD
  refine va_putF (D := D) (ci := 6) (v := .ref q2) (ty := .array .int) (C := clN 6) (T := clT 6) (N := clM 6) (ref := clN 6) hx hb hts (uw_in (c := 6) (by decide)) (clY 6) (ckY 6 (by decide)) (ckX 6 (by decide)) hown hK hP hD hS 0 rfl rfl 1 (by decide) (hts _ (fl_in (w := 8) (i := 15) (c := 6) (k := 1) (by decide) rfl).1) (fun _ h9 => h9) rfl hin rfl (ckY 6 (by decide) 1 (by decide)) rfl rfl (Nat.le_of_ble_eq_true rfl) dI_Text_18 (fun H locs hP hD hS => ?_)
  have hP : va_P D fcs [(h0, .inr (6, [.ref q1, .ref q2, .null, .null, .null, .int (Int32.ofInt 0), .int (Int32.ofInt 0)])), (q1, .inl (cA 0, 96, .inl (fun _ => Int32.ofInt 0))), (q2, .inl (cA 0, 300, .inl (fun _ => Int32.ofInt 0)))] H := hP
  have hD : va_D A [(h0, .inr (6, [.ref q1, .ref q2, .null, .null, .null, .int (Int32.ofInt 0), .int (Int32.ofInt 0)])), (q1, .inl (cA 0, 96, .inl (fun _ => Int32.ofInt 0))), (q2, .inl (cA 0, 300, .inl (fun _ => Int32.ofInt 0)))] := hD
  refine lv_aload_n hx hb dI_Text_21 rfl (lv_at hl 0 rfl) ?_
  refine lv_sipush (v := Int32.ofInt 300) hx hb dI_Text_22 (by decide) ?_
  refine va_newa (atype := .int) (ty := .int) (N' := 300) (a0 := (300, .inl (fun _ => Int32.ofInt 0))) hx hb (hts _ sw_arr_int) rfl hK hP hD hS hA (fun _ => rfl) (by decide) (by decide) (by decide) (Nat.le_of_ble_eq_true rfl) (Nat.le_of_ble_eq_true rfl) dI_Text_25 (fun q3 cx H hKx hP hD hS => ?_)
  obtain rfl := arr_same (i := 0) hKx rfl
  have hP : va_P D fcs [(h0, .inr (6, [.ref q1, .ref q2, .null, .null, .null, .int (Int32.ofInt 0), .int (Int32.ofInt 0)])), (q1, .inl (cA 0, 96, .inl (fun _ => Int32.ofInt 0))), (q2, .inl (cA 0, 300, .inl (fun _ => Int32.ofInt 0))), (q3, .inl (cA 0, 300, .inl (fun _ => Int32.ofInt 0)))] H := hP
  have hD : va_D A [(h0, .inr (6, [.ref q1, .ref q2, .null, .null, .null, .int (Int32.ofInt 0), .int (Int32.ofInt 0)])), (q1, .inl (cA 0, 96, .inl (fun _ => Int32.ofInt 0))), (q2, .inl (cA 0, 300, .inl (fun _ => Int32.ofInt 0))), (q3, .inl (cA 0, 300, .inl (fun _ => Int32.ofInt 0)))] := hD
  refine va_putF (D := D) (ci := 6) (v := .ref q3) (ty := .array .int) (C := clN 6) (T := clT 6) (N := clM 6) (ref := clN 6) hx hb hts (uw_in (c := 6) (by decide)) (clY 6) (ckY 6 (by decide)) (ckX 6 (by decide)) hown hK hP hD hS 0 rfl rfl 2 (by decide) (hts _ (fl_in (w := 8) (i := 18) (c := 6) (k := 2) (by decide) rfl).1) (fun _ h9 => h9) rfl hin rfl (ckY 6 (by decide) 2 (by decide)) rfl rfl (Nat.le_of_ble_eq_true rfl) dI_Text_27 (fun H locs hP hD hS => ?_)
  have hP : va_P D fcs [(h0, .inr (6, [.ref q1, .ref q2, .ref q3, .null, .null, .int (Int32.ofInt 0), .int (Int32.ofInt 0)])), (q1, .inl (cA 0, 96, .inl (fun _ => Int32.ofInt 0))), (q2, .inl (cA 0, 300, .inl (fun _ => Int32.ofInt 0))), (q3, .inl (cA 0, 300, .inl (fun _ => Int32.ofInt 0)))] H := hP
  have hD : va_D A [(h0, .inr (6, [.ref q1, .ref q2, .ref q3, .null, .null, .int (Int32.ofInt 0), .int (Int32.ofInt 0)])), (q1, .inl (cA 0, 96, .inl (fun _ => Int32.ofInt 0))), (q2, .inl (cA 0, 300, .inl (fun _ => Int32.ofInt 0))), (q3, .inl (cA 0, 300, .inl (fun _ => Int32.ofInt 0)))] := hD
  refine lv_aload_n hx hb dI_Text_30 rfl (lv_at hl 0 rfl) ?_
  refine lv_iconst (v := Int32.ofInt 3) hx hb dI_Text_31 rfl ?_
  refine va_newa (atype := .int) (ty := .int) (N' := 3) (a0 := (3, .inl (fun _ => Int32.ofInt 0))) hx hb (hts _ sw_arr_int) rfl hK hP hD hS hA (fun _ => rfl) (by decide) (by decide) (by decide) (Nat.le_of_ble_eq_true rfl) (Nat.le_of_ble_eq_true rfl) dI_Text_32 (fun q4 cx H hKx hP hD hS => ?_)
  obtain rfl := arr_same (i := 0) hKx rfl
  have hP : va_P D fcs [(h0, .inr (6, [.ref q1, .ref q2, .ref q3, .null, .null, .int (Int32.ofInt 0), .int (Int32.ofInt 0)])), (q1, .inl (cA 0, 96, .inl (fun _ => Int32.ofInt 0))), (q2, .inl (cA 0, 300, .inl (fun _ => Int32.ofInt 0))), (q3, .inl (cA 0, 300, .inl (fun _ => Int32.ofInt 0))), (q4, .inl (cA 0, 3, .inl (fun _ => Int32.ofInt 0)))] H := hP
  have hD : va_D A [(h0, .inr (6, [.ref q1, .ref q2, .ref q3, .null, .null, .int (Int32.ofInt 0), .int (Int32.ofInt 0)])), (q1, .inl (cA 0, 96, .inl (fun _ => Int32.ofInt 0))), (q2, .inl (cA 0, 300, .inl (fun _ => Int32.ofInt 0))), (q3, .inl (cA 0, 300, .inl (fun _ => Int32.ofInt 0))), (q4, .inl (cA 0, 3, .inl (fun _ => Int32.ofInt 0)))] := hD
  refine lv_dup hx hb dI_Text_34 rfl ?_
  refine lv_iconst (v := Int32.ofInt 0) hx hb dI_Text_35 rfl ?_
  refine lv_iconst (v := Int32.ofInt (-1)) hx hb dI_Text_36 rfl ?_
  refine va_iast hx hb hK hP hD hS 4 0 (cA := cA 0) (n := 3) (f := (fun _ => Int32.ofInt 0)) rfl rfl (i32in (n := 3) (by decide) (by decide) (by decide)) dI_Text_37 (fun H locs hP hD hS => ?_)
  have hP : va_P D fcs [(h0, .inr (6, [.ref q1, .ref q2, .ref q3, .null, .null, .int (Int32.ofInt 0), .int (Int32.ofInt 0)])), (q1, .inl (cA 0, 96, .inl (fun _ => Int32.ofInt 0))), (q2, .inl (cA 0, 300, .inl (fun _ => Int32.ofInt 0))), (q3, .inl (cA 0, 300, .inl (fun _ => Int32.ofInt 0))), (q4, .inl (cA 0, 3, .inl (upd (fun _ => Int32.ofInt 0) 0 (Int32.ofInt (-1)))))] H := hP
  have hD : va_D A [(h0, .inr (6, [.ref q1, .ref q2, .ref q3, .null, .null, .int (Int32.ofInt 0), .int (Int32.ofInt 0)])), (q1, .inl (cA 0, 96, .inl (fun _ => Int32.ofInt 0))), (q2, .inl (cA 0, 300, .inl (fun _ => Int32.ofInt 0))), (q3, .inl (cA 0, 300, .inl (fun _ => Int32.ofInt 0))), (q4, .inl (cA 0, 3, .inl (upd (fun _ => Int32.ofInt 0) 0 (Int32.ofInt (-1)))))] := hD
  refine lv_dup hx hb dI_Text_38 rfl ?_
  refine lv_iconst (v := Int32.ofInt 1) hx hb dI_Text_39 rfl ?_
  refine lv_iconst (v := Int32.ofInt (-1)) hx hb dI_Text_40 rfl ?_
  refine va_iast hx hb hK hP hD hS 4 0 (cA := cA 0) (n := 3) (f := (upd (fun _ => Int32.ofInt 0) 0 (Int32.ofInt (-1)))) rfl rfl (i32in (n := 3) (by decide) (by decide) (by decide)) dI_Text_41 (fun H locs hP hD hS => ?_)
  have hP : va_P D fcs [(h0, .inr (6, [.ref q1, .ref q2, .ref q3, .null, .null, .int (Int32.ofInt 0), .int (Int32.ofInt 0)])), (q1, .inl (cA 0, 96, .inl (fun _ => Int32.ofInt 0))), (q2, .inl (cA 0, 300, .inl (fun _ => Int32.ofInt 0))), (q3, .inl (cA 0, 300, .inl (fun _ => Int32.ofInt 0))), (q4, .inl (cA 0, 3, .inl (upd (upd (fun _ => Int32.ofInt 0) 0 (Int32.ofInt (-1))) 1 (Int32.ofInt (-1)))))] H := hP
  have hD : va_D A [(h0, .inr (6, [.ref q1, .ref q2, .ref q3, .null, .null, .int (Int32.ofInt 0), .int (Int32.ofInt 0)])), (q1, .inl (cA 0, 96, .inl (fun _ => Int32.ofInt 0))), (q2, .inl (cA 0, 300, .inl (fun _ => Int32.ofInt 0))), (q3, .inl (cA 0, 300, .inl (fun _ => Int32.ofInt 0))), (q4, .inl (cA 0, 3, .inl (upd (upd (fun _ => Int32.ofInt 0) 0 (Int32.ofInt (-1))) 1 (Int32.ofInt (-1)))))] := hD
  refine lv_dup hx hb dI_Text_42 rfl ?_
  refine lv_iconst (v := Int32.ofInt 2) hx hb dI_Text_43 rfl ?_
  refine lv_iconst (v := Int32.ofInt (-1)) hx hb dI_Text_44 rfl ?_
  refine va_iast hx hb hK hP hD hS 4 0 (cA := cA 0) (n := 3) (f := (upd (upd (fun _ => Int32.ofInt 0) 0 (Int32.ofInt (-1))) 1 (Int32.ofInt (-1)))) rfl rfl (i32in (n := 3) (by decide) (by decide) (by decide)) dI_Text_45 (fun H locs hP hD hS => ?_)
  have hP : va_P D fcs [(h0, .inr (6, [.ref q1, .ref q2, .ref q3, .null, .null, .int (Int32.ofInt 0), .int (Int32.ofInt 0)])), (q1, .inl (cA 0, 96, .inl (fun _ => Int32.ofInt 0))), (q2, .inl (cA 0, 300, .inl (fun _ => Int32.ofInt 0))), (q3, .inl (cA 0, 300, .inl (fun _ => Int32.ofInt 0))), (q4, .inl (cA 0, 3, .inl (upd (upd (upd (fun _ => Int32.ofInt 0) 0 (Int32.ofInt (-1))) 1 (Int32.ofInt (-1))) 2 (Int32.ofInt (-1)))))] H := hP
  have hD : va_D A [(h0, .inr (6, [.ref q1, .ref q2, .ref q3, .null, .null, .int (Int32.ofInt 0), .int (Int32.ofInt 0)])), (q1, .inl (cA 0, 96, .inl (fun _ => Int32.ofInt 0))), (q2, .inl (cA 0, 300, .inl (fun _ => Int32.ofInt 0))), (q3, .inl (cA 0, 300, .inl (fun _ => Int32.ofInt 0))), (q4, .inl (cA 0, 3, .inl (upd (upd (upd (fun _ => Int32.ofInt 0) 0 (Int32.ofInt (-1))) 1 (Int32.ofInt (-1))) 2 (Int32.ofInt (-1)))))] := hD
  refine va_putF (D := D) (ci := 6) (v := .ref q4) (ty := .array .int) (C := clN 6) (T := clT 6) (N := clM 6) (ref := clN 6) hx hb hts (uw_in (c := 6) (by decide)) (clY 6) (ckY 6 (by decide)) (ckX 6 (by decide)) hown hK hP hD hS 0 rfl rfl 3 (by decide) (hts _ (fl_in (w := 8) (i := 21) (c := 6) (k := 3) (by decide) rfl).1) (fun _ h9 => h9) rfl hin rfl (ckY 6 (by decide) 3 (by decide)) rfl rfl (Nat.le_of_ble_eq_true rfl) dI_Text_46 (fun H locs hP hD hS => ?_)
  have hP : va_P D fcs [(h0, .inr (6, [.ref q1, .ref q2, .ref q3, .ref q4, .null, .int (Int32.ofInt 0), .int (Int32.ofInt 0)])), (q1, .inl (cA 0, 96, .inl (fun _ => Int32.ofInt 0))), (q2, .inl (cA 0, 300, .inl (fun _ => Int32.ofInt 0))), (q3, .inl (cA 0, 300, .inl (fun _ => Int32.ofInt 0))), (q4, .inl (cA 0, 3, .inl (upd (upd (upd (fun _ => Int32.ofInt 0) 0 (Int32.ofInt (-1))) 1 (Int32.ofInt (-1))) 2 (Int32.ofInt (-1)))))] H := hP
  have hD : va_D A [(h0, .inr (6, [.ref q1, .ref q2, .ref q3, .ref q4, .null, .int (Int32.ofInt 0), .int (Int32.ofInt 0)])), (q1, .inl (cA 0, 96, .inl (fun _ => Int32.ofInt 0))), (q2, .inl (cA 0, 300, .inl (fun _ => Int32.ofInt 0))), (q3, .inl (cA 0, 300, .inl (fun _ => Int32.ofInt 0))), (q4, .inl (cA 0, 3, .inl (upd (upd (upd (fun _ => Int32.ofInt 0) 0 (Int32.ofInt (-1))) 1 (Int32.ofInt (-1))) 2 (Int32.ofInt (-1)))))] := hD
  refine lv_aload_n hx hb dI_Text_49 rfl (lv_at hl 0 rfl) ?_
  refine lv_iconst (v := Int32.ofInt 3) hx hb dI_Text_50 rfl ?_
  refine va_newa (atype := .int) (ty := .int) (N' := 3) (a0 := (3, .inl (fun _ => Int32.ofInt 0))) hx hb (hts _ sw_arr_int) rfl hK hP hD hS hA (fun _ => rfl) (by decide) (by decide) (by decide) (Nat.le_of_ble_eq_true rfl) (Nat.le_of_ble_eq_true rfl) dI_Text_51 (fun q5 cx H hKx hP hD hS => ?_)
  obtain rfl := arr_same (i := 0) hKx rfl
  have hP : va_P D fcs [(h0, .inr (6, [.ref q1, .ref q2, .ref q3, .ref q4, .null, .int (Int32.ofInt 0), .int (Int32.ofInt 0)])), (q1, .inl (cA 0, 96, .inl (fun _ => Int32.ofInt 0))), (q2, .inl (cA 0, 300, .inl (fun _ => Int32.ofInt 0))), (q3, .inl (cA 0, 300, .inl (fun _ => Int32.ofInt 0))), (q4, .inl (cA 0, 3, .inl (upd (upd (upd (fun _ => Int32.ofInt 0) 0 (Int32.ofInt (-1))) 1 (Int32.ofInt (-1))) 2 (Int32.ofInt (-1))))), (q5, .inl (cA 0, 3, .inl (fun _ => Int32.ofInt 0)))] H := hP
  have hD : va_D A [(h0, .inr (6, [.ref q1, .ref q2, .ref q3, .ref q4, .null, .int (Int32.ofInt 0), .int (Int32.ofInt 0)])), (q1, .inl (cA 0, 96, .inl (fun _ => Int32.ofInt 0))), (q2, .inl (cA 0, 300, .inl (fun _ => Int32.ofInt 0))), (q3, .inl (cA 0, 300, .inl (fun _ => Int32.ofInt 0))), (q4, .inl (cA 0, 3, .inl (upd (upd (upd (fun _ => Int32.ofInt 0) 0 (Int32.ofInt (-1))) 1 (Int32.ofInt (-1))) 2 (Int32.ofInt (-1))))), (q5, .inl (cA 0, 3, .inl (fun _ => Int32.ofInt 0)))] := hD
  refine lv_dup hx hb dI_Text_53 rfl ?_
  refine lv_iconst (v := Int32.ofInt 0) hx hb dI_Text_54 rfl ?_
  refine lv_iconst (v := Int32.ofInt (-1)) hx hb dI_Text_55 rfl ?_
  refine va_iast hx hb hK hP hD hS 5 0 (cA := cA 0) (n := 3) (f := (fun _ => Int32.ofInt 0)) rfl rfl (i32in (n := 3) (by decide) (by decide) (by decide)) dI_Text_56 (fun H locs hP hD hS => ?_)
  have hP : va_P D fcs [(h0, .inr (6, [.ref q1, .ref q2, .ref q3, .ref q4, .null, .int (Int32.ofInt 0), .int (Int32.ofInt 0)])), (q1, .inl (cA 0, 96, .inl (fun _ => Int32.ofInt 0))), (q2, .inl (cA 0, 300, .inl (fun _ => Int32.ofInt 0))), (q3, .inl (cA 0, 300, .inl (fun _ => Int32.ofInt 0))), (q4, .inl (cA 0, 3, .inl (upd (upd (upd (fun _ => Int32.ofInt 0) 0 (Int32.ofInt (-1))) 1 (Int32.ofInt (-1))) 2 (Int32.ofInt (-1))))), (q5, .inl (cA 0, 3, .inl (upd (fun _ => Int32.ofInt 0) 0 (Int32.ofInt (-1)))))] H := hP
  have hD : va_D A [(h0, .inr (6, [.ref q1, .ref q2, .ref q3, .ref q4, .null, .int (Int32.ofInt 0), .int (Int32.ofInt 0)])), (q1, .inl (cA 0, 96, .inl (fun _ => Int32.ofInt 0))), (q2, .inl (cA 0, 300, .inl (fun _ => Int32.ofInt 0))), (q3, .inl (cA 0, 300, .inl (fun _ => Int32.ofInt 0))), (q4, .inl (cA 0, 3, .inl (upd (upd (upd (fun _ => Int32.ofInt 0) 0 (Int32.ofInt (-1))) 1 (Int32.ofInt (-1))) 2 (Int32.ofInt (-1))))), (q5, .inl (cA 0, 3, .inl (upd (fun _ => Int32.ofInt 0) 0 (Int32.ofInt (-1)))))] := hD
  refine lv_dup hx hb dI_Text_57 rfl ?_
  refine lv_iconst (v := Int32.ofInt 1) hx hb dI_Text_58 rfl ?_
  refine lv_iconst (v := Int32.ofInt (-1)) hx hb dI_Text_59 rfl ?_
  refine va_iast hx hb hK hP hD hS 5 0 (cA := cA 0) (n := 3) (f := (upd (fun _ => Int32.ofInt 0) 0 (Int32.ofInt (-1)))) rfl rfl (i32in (n := 3) (by decide) (by decide) (by decide)) dI_Text_60 (fun H locs hP hD hS => ?_)
  have hP : va_P D fcs [(h0, .inr (6, [.ref q1, .ref q2, .ref q3, .ref q4, .null, .int (Int32.ofInt 0), .int (Int32.ofInt 0)])), (q1, .inl (cA 0, 96, .inl (fun _ => Int32.ofInt 0))), (q2, .inl (cA 0, 300, .inl (fun _ => Int32.ofInt 0))), (q3, .inl (cA 0, 300, .inl (fun _ => Int32.ofInt 0))), (q4, .inl (cA 0, 3, .inl (upd (upd (upd (fun _ => Int32.ofInt 0) 0 (Int32.ofInt (-1))) 1 (Int32.ofInt (-1))) 2 (Int32.ofInt (-1))))), (q5, .inl (cA 0, 3, .inl (upd (upd (fun _ => Int32.ofInt 0) 0 (Int32.ofInt (-1))) 1 (Int32.ofInt (-1)))))] H := hP
  have hD : va_D A [(h0, .inr (6, [.ref q1, .ref q2, .ref q3, .ref q4, .null, .int (Int32.ofInt 0), .int (Int32.ofInt 0)])), (q1, .inl (cA 0, 96, .inl (fun _ => Int32.ofInt 0))), (q2, .inl (cA 0, 300, .inl (fun _ => Int32.ofInt 0))), (q3, .inl (cA 0, 300, .inl (fun _ => Int32.ofInt 0))), (q4, .inl (cA 0, 3, .inl (upd (upd (upd (fun _ => Int32.ofInt 0) 0 (Int32.ofInt (-1))) 1 (Int32.ofInt (-1))) 2 (Int32.ofInt (-1))))), (q5, .inl (cA 0, 3, .inl (upd (upd (fun _ => Int32.ofInt 0) 0 (Int32.ofInt (-1))) 1 (Int32.ofInt (-1)))))] := hD
  refine lv_dup hx hb dI_Text_61 rfl ?_
  refine lv_iconst (v := Int32.ofInt 2) hx hb dI_Text_62 rfl ?_
  refine lv_iconst (v := Int32.ofInt (-1)) hx hb dI_Text_63 rfl ?_
  refine va_iast hx hb hK hP hD hS 5 0 (cA := cA 0) (n := 3) (f := (upd (upd (fun _ => Int32.ofInt 0) 0 (Int32.ofInt (-1))) 1 (Int32.ofInt (-1)))) rfl rfl (i32in (n := 3) (by decide) (by decide) (by decide)) dI_Text_64 (fun H locs hP hD hS => ?_)
  have hP : va_P D fcs [(h0, .inr (6, [.ref q1, .ref q2, .ref q3, .ref q4, .null, .int (Int32.ofInt 0), .int (Int32.ofInt 0)])), (q1, .inl (cA 0, 96, .inl (fun _ => Int32.ofInt 0))), (q2, .inl (cA 0, 300, .inl (fun _ => Int32.ofInt 0))), (q3, .inl (cA 0, 300, .inl (fun _ => Int32.ofInt 0))), (q4, .inl (cA 0, 3, .inl (upd (upd (upd (fun _ => Int32.ofInt 0) 0 (Int32.ofInt (-1))) 1 (Int32.ofInt (-1))) 2 (Int32.ofInt (-1))))), (q5, .inl (cA 0, 3, .inl (upd (upd (upd (fun _ => Int32.ofInt 0) 0 (Int32.ofInt (-1))) 1 (Int32.ofInt (-1))) 2 (Int32.ofInt (-1)))))] H := hP
  have hD : va_D A [(h0, .inr (6, [.ref q1, .ref q2, .ref q3, .ref q4, .null, .int (Int32.ofInt 0), .int (Int32.ofInt 0)])), (q1, .inl (cA 0, 96, .inl (fun _ => Int32.ofInt 0))), (q2, .inl (cA 0, 300, .inl (fun _ => Int32.ofInt 0))), (q3, .inl (cA 0, 300, .inl (fun _ => Int32.ofInt 0))), (q4, .inl (cA 0, 3, .inl (upd (upd (upd (fun _ => Int32.ofInt 0) 0 (Int32.ofInt (-1))) 1 (Int32.ofInt (-1))) 2 (Int32.ofInt (-1))))), (q5, .inl (cA 0, 3, .inl (upd (upd (upd (fun _ => Int32.ofInt 0) 0 (Int32.ofInt (-1))) 1 (Int32.ofInt (-1))) 2 (Int32.ofInt (-1)))))] := hD
  refine va_putF (D := D) (ci := 6) (v := .ref q5) (ty := .array .int) (C := clN 6) (T := clT 6) (N := clM 6) (ref := clN 6) hx hb hts (uw_in (c := 6) (by decide)) (clY 6) (ckY 6 (by decide)) (ckX 6 (by decide)) hown hK hP hD hS 0 rfl rfl 4 (by decide) (hts _ (fl_in (w := 8) (i := 24) (c := 6) (k := 4) (by decide) rfl).1) (fun _ h9 => h9) rfl hin rfl (ckY 6 (by decide) 4 (by decide)) rfl rfl (Nat.le_of_ble_eq_true rfl) dI_Text_65 (fun H locs hP hD hS => ?_)
  have hP : va_P D fcs [(h0, .inr (6, [.ref q1, .ref q2, .ref q3, .ref q4, .ref q5, .int (Int32.ofInt 0), .int (Int32.ofInt 0)])), (q1, .inl (cA 0, 96, .inl (fun _ => Int32.ofInt 0))), (q2, .inl (cA 0, 300, .inl (fun _ => Int32.ofInt 0))), (q3, .inl (cA 0, 300, .inl (fun _ => Int32.ofInt 0))), (q4, .inl (cA 0, 3, .inl (upd (upd (upd (fun _ => Int32.ofInt 0) 0 (Int32.ofInt (-1))) 1 (Int32.ofInt (-1))) 2 (Int32.ofInt (-1))))), (q5, .inl (cA 0, 3, .inl (upd (upd (upd (fun _ => Int32.ofInt 0) 0 (Int32.ofInt (-1))) 1 (Int32.ofInt (-1))) 2 (Int32.ofInt (-1)))))] H := hP
  have hD : va_D A [(h0, .inr (6, [.ref q1, .ref q2, .ref q3, .ref q4, .ref q5, .int (Int32.ofInt 0), .int (Int32.ofInt 0)])), (q1, .inl (cA 0, 96, .inl (fun _ => Int32.ofInt 0))), (q2, .inl (cA 0, 300, .inl (fun _ => Int32.ofInt 0))), (q3, .inl (cA 0, 300, .inl (fun _ => Int32.ofInt 0))), (q4, .inl (cA 0, 3, .inl (upd (upd (upd (fun _ => Int32.ofInt 0) 0 (Int32.ofInt (-1))) 1 (Int32.ofInt (-1))) 2 (Int32.ofInt (-1))))), (q5, .inl (cA 0, 3, .inl (upd (upd (upd (fun _ => Int32.ofInt 0) 0 (Int32.ofInt (-1))) 1 (Int32.ofInt (-1))) 2 (Int32.ofInt (-1)))))] := hD
  refine lv_aload_n hx hb dI_Text_68 rfl (lv_at hl 0 rfl) ?_
  refine lv_iconst (v := Int32.ofInt 0) hx hb dI_Text_69 rfl ?_
  refine va_put (D := D) (ci := 6) (v := .int (Int32.ofInt 0)) (ty := .int) (C := clN 6) (T := clT 6) (N := clM 6) (ref := clN 6) hx hb hts (uw_in (c := 6) (by decide)) (clY 6) (ckY 6 (by decide)) (ckX 6 (by decide)) hown hK hP hD hS 0 rfl rfl 5 (by decide) (hts _ (fl_in (w := 8) (i := 27) (c := 6) (k := 5) (by decide) rfl).1) (fun _ h9 => h9) rfl (ckY 6 (by decide) 5 (by decide)) rfl rfl (Nat.le_of_ble_eq_true rfl) dI_Text_70 (fun H locs hP hD hS => ?_)
  have hP : va_P D fcs [(h0, .inr (6, [.ref q1, .ref q2, .ref q3, .ref q4, .ref q5, .int (Int32.ofInt 0), .int (Int32.ofInt 0)])), (q1, .inl (cA 0, 96, .inl (fun _ => Int32.ofInt 0))), (q2, .inl (cA 0, 300, .inl (fun _ => Int32.ofInt 0))), (q3, .inl (cA 0, 300, .inl (fun _ => Int32.ofInt 0))), (q4, .inl (cA 0, 3, .inl (upd (upd (upd (fun _ => Int32.ofInt 0) 0 (Int32.ofInt (-1))) 1 (Int32.ofInt (-1))) 2 (Int32.ofInt (-1))))), (q5, .inl (cA 0, 3, .inl (upd (upd (upd (fun _ => Int32.ofInt 0) 0 (Int32.ofInt (-1))) 1 (Int32.ofInt (-1))) 2 (Int32.ofInt (-1)))))] H := hP
  have hD : va_D A [(h0, .inr (6, [.ref q1, .ref q2, .ref q3, .ref q4, .ref q5, .int (Int32.ofInt 0), .int (Int32.ofInt 0)])), (q1, .inl (cA 0, 96, .inl (fun _ => Int32.ofInt 0))), (q2, .inl (cA 0, 300, .inl (fun _ => Int32.ofInt 0))), (q3, .inl (cA 0, 300, .inl (fun _ => Int32.ofInt 0))), (q4, .inl (cA 0, 3, .inl (upd (upd (upd (fun _ => Int32.ofInt 0) 0 (Int32.ofInt (-1))) 1 (Int32.ofInt (-1))) 2 (Int32.ofInt (-1))))), (q5, .inl (cA 0, 3, .inl (upd (upd (upd (fun _ => Int32.ofInt 0) 0 (Int32.ofInt (-1))) 1 (Int32.ofInt (-1))) 2 (Int32.ofInt (-1)))))] := hD
  refine lv_aload_n hx hb dI_Text_73 rfl (lv_at hl 0 rfl) ?_
  refine lv_iconst (v := Int32.ofInt 0) hx hb dI_Text_74 rfl ?_
  refine va_put (D := D) (ci := 6) (v := .int (Int32.ofInt 0)) (ty := .int) (C := clN 6) (T := clT 6) (N := clM 6) (ref := clN 6) hx hb hts (uw_in (c := 6) (by decide)) (clY 6) (ckY 6 (by decide)) (ckX 6 (by decide)) hown hK hP hD hS 0 rfl rfl 6 (by decide) (hts _ (fl_in (w := 8) (i := 31) (c := 6) (k := 6) (by decide) rfl).1) (fun _ h9 => h9) rfl (ckY 6 (by decide) 6 (by decide)) rfl rfl (Nat.le_of_ble_eq_true rfl) dI_Text_75 (fun H locs hP hD hS => ?_)
  have hP : va_P D fcs [(h0, .inr (6, [.ref q1, .ref q2, .ref q3, .ref q4, .ref q5, .int (Int32.ofInt 0), .int (Int32.ofInt 0)])), (q1, .inl (cA 0, 96, .inl (fun _ => Int32.ofInt 0))), (q2, .inl (cA 0, 300, .inl (fun _ => Int32.ofInt 0))), (q3, .inl (cA 0, 300, .inl (fun _ => Int32.ofInt 0))), (q4, .inl (cA 0, 3, .inl (upd (upd (upd (fun _ => Int32.ofInt 0) 0 (Int32.ofInt (-1))) 1 (Int32.ofInt (-1))) 2 (Int32.ofInt (-1))))), (q5, .inl (cA 0, 3, .inl (upd (upd (upd (fun _ => Int32.ofInt 0) 0 (Int32.ofInt (-1))) 1 (Int32.ofInt (-1))) 2 (Int32.ofInt (-1)))))] H := hP
  have hD : va_D A [(h0, .inr (6, [.ref q1, .ref q2, .ref q3, .ref q4, .ref q5, .int (Int32.ofInt 0), .int (Int32.ofInt 0)])), (q1, .inl (cA 0, 96, .inl (fun _ => Int32.ofInt 0))), (q2, .inl (cA 0, 300, .inl (fun _ => Int32.ofInt 0))), (q3, .inl (cA 0, 300, .inl (fun _ => Int32.ofInt 0))), (q4, .inl (cA 0, 3, .inl (upd (upd (upd (fun _ => Int32.ofInt 0) 0 (Int32.ofInt (-1))) 1 (Int32.ofInt (-1))) 2 (Int32.ofInt (-1))))), (q5, .inl (cA 0, 3, .inl (upd (upd (upd (fun _ => Int32.ofInt 0) 0 (Int32.ofInt (-1))) 1 (Int32.ofInt (-1))) 2 (Int32.ofInt (-1)))))] := hD
  have hP9 := hP.sub (ws' := [(h0, .inr (6, [.ref q1, .ref q2, .ref q3, .ref q4, .ref q5, .int (Int32.ofInt 0), .int (Int32.ofInt 0)])), (q1, .inl (cA 0, 96, .inl (fun _ => Int32.ofInt 0))), (q2, .inl (cA 0, 300, .inl (fun _ => Int32.ofInt 0))), (q3, .inl (cA 0, 300, .inl (fun _ => Int32.ofInt 0))), (q4, .inl (cA 0, 3, .inl (upd (upd (upd (fun _ => Int32.ofInt 0) 0 (Int32.ofInt (-1))) 1 (Int32.ofInt (-1))) 2 (Int32.ofInt (-1))))), (q5, .inl (cA 0, 3, .inl (upd (upd (upd (fun _ => Int32.ofInt 0) 0 (Int32.ofInt (-1))) 1 (Int32.ofInt (-1))) 2 (Int32.ofInt (-1)))))]) [0, 1, 2, 3, 4, 5] rfl
  have hD9 := hD.sub (ws' := [(h0, .inr (6, [.ref q1, .ref q2, .ref q3, .ref q4, .ref q5, .int (Int32.ofInt 0), .int (Int32.ofInt 0)])), (q1, .inl (cA 0, 96, .inl (fun _ => Int32.ofInt 0))), (q2, .inl (cA 0, 300, .inl (fun _ => Int32.ofInt 0))), (q3, .inl (cA 0, 300, .inl (fun _ => Int32.ofInt 0))), (q4, .inl (cA 0, 3, .inl (upd (upd (upd (fun _ => Int32.ofInt 0) 0 (Int32.ofInt (-1))) 1 (Int32.ofInt (-1))) 2 (Int32.ofInt (-1))))), (q5, .inl (cA 0, 3, .inl (upd (upd (upd (fun _ => Int32.ofInt 0) 0 (Int32.ofInt (-1))) 1 (Int32.ofInt (-1))) 2 (Int32.ofInt (-1)))))]) [0, 1, 2, 3, 4, 5] (by decide) rfl
  exact W.vret hx hb hr (fun t ht hW => ⟨⟨nth 0 [h0, q1, q2, q3, q4, q5], rfl, rfl, by rw [ht]; exact hP9, hD9⟩, hS.F ht⟩) hS.2.2 dI_Text_78
theorem dI_Road_0 : decode cI_Road 0 = .ok (.aload_n 0, 1) := by decide +kernel
theorem dI_Road_1 : decode cI_Road 1 = .ok (.invokespecial 3, 3) := by decide +kernel
theorem dI_Road_4 : decode cI_Road 4 = .ok (.aload_n 0, 1) := by decide +kernel
theorem dI_Road_5 : decode cI_Road 5 = .ok (.bipush 6, 2) := by decide +kernel
theorem dI_Road_7 : decode cI_Road 7 = .ok (.newarray .int, 2) := by decide +kernel
theorem dI_Road_9 : decode cI_Road 9 = .ok (.putfield 9, 3) := by decide +kernel
theorem dI_Road_12 : decode cI_Road 12 = .ok (.aload_n 0, 1) := by decide +kernel
theorem dI_Road_13 : decode cI_Road 13 = .ok (.bipush 6, 2) := by decide +kernel
theorem dI_Road_15 : decode cI_Road 15 = .ok (.newarray .int, 2) := by decide +kernel
theorem dI_Road_17 : decode cI_Road 17 = .ok (.putfield 15, 3) := by decide +kernel
theorem dI_Road_20 : decode cI_Road 20 = .ok (.aload_n 0, 1) := by decide +kernel
theorem dI_Road_21 : decode cI_Road 21 = .ok (.iconst 0, 1) := by decide +kernel
theorem dI_Road_22 : decode cI_Road 22 = .ok (.putfield 18, 3) := by decide +kernel
theorem dI_Road_25 : decode cI_Road 25 = .ok (.return_, 1) := by decide +kernel
def W_Road (cA : Nat → ClassId) (ad : Nat → Nat) : va_W := [((ad 0), .inr (4, [.ref (ad 1), .ref (ad 2), .int (Int32.ofInt 0)])), ((ad 1), .inl (cA 0, 6, .inl (fun _ => Int32.ofInt 0))), ((ad 2), .inl (cA 0, 6, .inl (fun _ => Int32.ofInt 0)))]
set_option maxHeartbeats 16000000 in
set_option maxRecDepth 100000 in
theorem k_Road (l : Launch) (D : va_G) (cA : Nat → ClassId) (h0 sz : Nat) : Met l yI_Road (wsJ yI_Road cI_Road 1 none) ({ frames := 1, cells := 2, slots := 12, locals := 40 }) (PcI D cA [(h0, .inr (4, [.null, .null, .int (Int32.ofInt 0)]))] [.ref h0] sz) (va_Qv (fun ad : Nat → Nat => ad 0 = h0) (fun ad t => va_P D fcs (W_Road cA ad) t.heap ∧ va_D (va_A [(h0, .inr (4, [.null, .null, .int (Int32.ofInt 0)]))] sz) (W_Road cA ad)) (va_A [(h0, .inr (4, [.null, .null, .int (Int32.ofInt 0)]))] sz)) 2 12 (va_A [(h0, .inr (4, [.null, .null, .int (Int32.ofInt 0)]))] sz) := by
  refine Met.ofW (cc := cI_Road) (maxL := 1) (ret := none) (by decide) rfl ?_
  intro p e s m args below meth c s₁ B hml hv
  obtain ⟨rfl, hsz, hP, ⟨hK, hN⟩, hD0⟩ := hv
  have hx := B.exec
  have hb := B.bytes
  have hr := B.returns
  have hts : ∀ w ∈ BIG, w.before _ s = true := fun w hw => atoms_spec (ws := wsJ yI_Road cI_Road 1 none) B.pre w (List.mem_cons_of_mem _ hw)
  have hown : s.vm.findClass "ThimbleLaw$Road" = some m.cls := findClass_of_methodNamed B.named
  have hlocks := B.notSynchronized
  have hin : meth.name = "<init>" := (name_of_methodNamed B.named B.method).1
  have hO := hN.1
  subst hsz
  have hD := hD0.self (sz := s.heap.size)
  generalize hAe : va_A [(h0, .inr (4, [.null, .null, .int (Int32.ofInt 0)]))] s.heap.size = A at hD ⊢
  have hA : ∀ q : Nat, s.heap.size ≤ q → A q := fun q h => by rw [← hAe]; exact Or.inr h
  have hS : va_S A s.heap s.heap [] := va_S.rf
  have hP : va_P D fcs [(h0, .inr (4, [.null, .null, .int (Int32.ofInt 0)]))] s.heap := hP
  have hl := lv_entry ([.ref h0]) (n := 1) (Nat.le_of_ble_eq_true rfl)
  rw [lg_entry_eq]
  generalize (lg_sl ([.ref h0]) ++ List.replicate (1 - (lg_sl ([.ref h0])).length) Slot.unset).toArray = ls at hl ⊢
  have hl : lv_has ls 1 [(0, .ref h0)] := hl
  refine lv_aload_n hx hb dI_Road_0 rfl (lv_at hl 0 rfl) ?_
  refine W.objInit hx hb hown (hts _ sw_oi_Road) (hts _ sw_oinst) (hts _ sw_ocode) rfl (by rw [hml]; exact hl.1) rfl dI_Road_1 (Nat.le_of_ble_eq_true rfl) (Nat.le_of_ble_eq_true rfl) ?_
  refine W.eq (g2 := F0 m 4 ls []) rfl ?_
  refine lv_aload_n hx hb dI_Road_4 rfl (lv_at hl 0 rfl) ?_
  refine lv_bipush (v := Int32.ofInt 6) hx hb dI_Road_5 (by decide) ?_
  refine va_newa (atype := .int) (ty := .int) (N' := 6) (a0 := (6, .inl (fun _ => Int32.ofInt 0))) hx hb (hts _ sw_arr_int) rfl hK hP hD hS hA (fun _ => rfl) (by decide) (by decide) (by decide) (Nat.le_of_ble_eq_true rfl) (Nat.le_of_ble_eq_true rfl) dI_Road_7 (fun q1 cx H hKx hP hD hS => ?_)
  obtain rfl := arr_same (i := 0) hKx rfl
  have hP : va_P D fcs [(h0, .inr (4, [.null, .null, .int (Int32.ofInt 0)])), (q1, .inl (cA 0, 6, .inl (fun _ => Int32.ofInt 0)))] H := hP
  have hD : va_D A [(h0, .inr (4, [.null, .null, .int (Int32.ofInt 0)])), (q1, .inl (cA 0, 6, .inl (fun _ => Int32.ofInt 0)))] := hD
  refine va_putF (D := D) (ci := 4) (v := .ref q1) (ty := .array .int) (C := clN 4) (T := clT 4) (N := clM 4) (ref := clN 4) hx hb hts (uw_in (c := 4) (by decide)) (clY 4) (ckY 4 (by decide)) (ckX 4 (by decide)) hown hK hP hD hS 0 rfl rfl 0 (by decide) (hts _ (fl_in (w := 6) (i := 9) (c := 4) (k := 0) (by decide) rfl).1) (fun _ h9 => h9) rfl hin rfl (ckY 4 (by decide) 0 (by decide)) rfl rfl (Nat.le_of_ble_eq_true rfl) dI_Road_9 (fun H locs hP hD hS => ?_)
  have hP : va_P D fcs [(h0, .inr (4, [.ref q1, .null, .int (Int32.ofInt 0)])), (q1, .inl (cA 0, 6, .inl (fun _ => Int32.ofInt 0)))] H := hP
  have hD : va_D A [(h0, .inr (4, [.ref q1, .null, .int (Int32.ofInt 0)])), (q1, .inl (cA 0, 6, .inl (fun _ => Int32.ofInt 0)))] := hD
  refine lv_aload_n hx hb dI_Road_12 rfl (lv_at hl 0 rfl) ?_
  refine lv_bipush (v := Int32.ofInt 6) hx hb dI_Road_13 (by decide) ?_
  refine va_newa (atype := .int) (ty := .int) (N' := 6) (a0 := (6, .inl (fun _ => Int32.ofInt 0))) hx hb (hts _ sw_arr_int) rfl hK hP hD hS hA (fun _ => rfl) (by decide) (by decide) (by decide) (Nat.le_of_ble_eq_true rfl) (Nat.le_of_ble_eq_true rfl) dI_Road_15 (fun q2 cx H hKx hP hD hS => ?_)
  obtain rfl := arr_same (i := 0) hKx rfl
  have hP : va_P D fcs [(h0, .inr (4, [.ref q1, .null, .int (Int32.ofInt 0)])), (q1, .inl (cA 0, 6, .inl (fun _ => Int32.ofInt 0))), (q2, .inl (cA 0, 6, .inl (fun _ => Int32.ofInt 0)))] H := hP
  have hD : va_D A [(h0, .inr (4, [.ref q1, .null, .int (Int32.ofInt 0)])), (q1, .inl (cA 0, 6, .inl (fun _ => Int32.ofInt 0))), (q2, .inl (cA 0, 6, .inl (fun _ => Int32.ofInt 0)))] := hD
  refine va_putF (D := D) (ci := 4) (v := .ref q2) (ty := .array .int) (C := clN 4) (T := clT 4) (N := clM 4) (ref := clN 4) hx hb hts (uw_in (c := 4) (by decide)) (clY 4) (ckY 4 (by decide)) (ckX 4 (by decide)) hown hK hP hD hS 0 rfl rfl 1 (by decide) (hts _ (fl_in (w := 6) (i := 15) (c := 4) (k := 1) (by decide) rfl).1) (fun _ h9 => h9) rfl hin rfl (ckY 4 (by decide) 1 (by decide)) rfl rfl (Nat.le_of_ble_eq_true rfl) dI_Road_17 (fun H locs hP hD hS => ?_)
  have hP : va_P D fcs [(h0, .inr (4, [.ref q1, .ref q2, .int (Int32.ofInt 0)])), (q1, .inl (cA 0, 6, .inl (fun _ => Int32.ofInt 0))), (q2, .inl (cA 0, 6, .inl (fun _ => Int32.ofInt 0)))] H := hP
  have hD : va_D A [(h0, .inr (4, [.ref q1, .ref q2, .int (Int32.ofInt 0)])), (q1, .inl (cA 0, 6, .inl (fun _ => Int32.ofInt 0))), (q2, .inl (cA 0, 6, .inl (fun _ => Int32.ofInt 0)))] := hD
  refine lv_aload_n hx hb dI_Road_20 rfl (lv_at hl 0 rfl) ?_
  refine lv_iconst (v := Int32.ofInt 0) hx hb dI_Road_21 rfl ?_
  refine va_put (D := D) (ci := 4) (v := .int (Int32.ofInt 0)) (ty := .int) (C := clN 4) (T := clT 4) (N := clM 4) (ref := clN 4) hx hb hts (uw_in (c := 4) (by decide)) (clY 4) (ckY 4 (by decide)) (ckX 4 (by decide)) hown hK hP hD hS 0 rfl rfl 2 (by decide) (hts _ (fl_in (w := 6) (i := 18) (c := 4) (k := 2) (by decide) rfl).1) (fun _ h9 => h9) rfl (ckY 4 (by decide) 2 (by decide)) rfl rfl (Nat.le_of_ble_eq_true rfl) dI_Road_22 (fun H locs hP hD hS => ?_)
  have hP : va_P D fcs [(h0, .inr (4, [.ref q1, .ref q2, .int (Int32.ofInt 0)])), (q1, .inl (cA 0, 6, .inl (fun _ => Int32.ofInt 0))), (q2, .inl (cA 0, 6, .inl (fun _ => Int32.ofInt 0)))] H := hP
  have hD : va_D A [(h0, .inr (4, [.ref q1, .ref q2, .int (Int32.ofInt 0)])), (q1, .inl (cA 0, 6, .inl (fun _ => Int32.ofInt 0))), (q2, .inl (cA 0, 6, .inl (fun _ => Int32.ofInt 0)))] := hD
  have hP9 := hP.sub (ws' := [(h0, .inr (4, [.ref q1, .ref q2, .int (Int32.ofInt 0)])), (q1, .inl (cA 0, 6, .inl (fun _ => Int32.ofInt 0))), (q2, .inl (cA 0, 6, .inl (fun _ => Int32.ofInt 0)))]) [0, 1, 2] rfl
  have hD9 := hD.sub (ws' := [(h0, .inr (4, [.ref q1, .ref q2, .int (Int32.ofInt 0)])), (q1, .inl (cA 0, 6, .inl (fun _ => Int32.ofInt 0))), (q2, .inl (cA 0, 6, .inl (fun _ => Int32.ofInt 0)))]) [0, 1, 2] (by decide) rfl
  exact W.vret hx hb hr (fun t ht hW => ⟨⟨nth 0 [h0, q1, q2], rfl, rfl, by rw [ht]; exact hP9, hD9⟩, hS.F ht⟩) hS.2.2 dI_Road_25
theorem dI_Reader_0 : decode cI_Reader 0 = .ok (.aload_n 0, 1) := by decide +kernel
theorem dI_Reader_1 : decode cI_Reader 1 = .ok (.invokespecial 3, 3) := by decide +kernel
theorem dI_Reader_4 : decode cI_Reader 4 = .ok (.aload_n 0, 1) := by decide +kernel
theorem dI_Reader_5 : decode cI_Reader 5 = .ok (.sipush 301, 3) := by decide +kernel
theorem dI_Reader_8 : decode cI_Reader 8 = .ok (.newarray .int, 2) := by decide +kernel
theorem dI_Reader_10 : decode cI_Reader 10 = .ok (.putfield 9, 3) := by decide +kernel
theorem dI_Reader_13 : decode cI_Reader 13 = .ok (.aload_n 0, 1) := by decide +kernel
theorem dI_Reader_14 : decode cI_Reader 14 = .ok (.sipush 301, 3) := by decide +kernel
theorem dI_Reader_17 : decode cI_Reader 17 = .ok (.newarray .int, 2) := by decide +kernel
theorem dI_Reader_19 : decode cI_Reader 19 = .ok (.putfield 15, 3) := by decide +kernel
theorem dI_Reader_22 : decode cI_Reader 22 = .ok (.aload_n 0, 1) := by decide +kernel
theorem dI_Reader_23 : decode cI_Reader 23 = .ok (.sipush 301, 3) := by decide +kernel
theorem dI_Reader_26 : decode cI_Reader 26 = .ok (.newarray .int, 2) := by decide +kernel
theorem dI_Reader_28 : decode cI_Reader 28 = .ok (.putfield 18, 3) := by decide +kernel
theorem dI_Reader_31 : decode cI_Reader 31 = .ok (.aload_n 0, 1) := by decide +kernel
theorem dI_Reader_32 : decode cI_Reader 32 = .ok (.iconst 0, 1) := by decide +kernel
theorem dI_Reader_33 : decode cI_Reader 33 = .ok (.putfield 21, 3) := by decide +kernel
theorem dI_Reader_36 : decode cI_Reader 36 = .ok (.aload_n 0, 1) := by decide +kernel
theorem dI_Reader_37 : decode cI_Reader 37 = .ok (.iconst 0, 1) := by decide +kernel
theorem dI_Reader_38 : decode cI_Reader 38 = .ok (.putfield 25, 3) := by decide +kernel
theorem dI_Reader_41 : decode cI_Reader 41 = .ok (.aload_n 0, 1) := by decide +kernel
theorem dI_Reader_42 : decode cI_Reader 42 = .ok (.iconst (-1), 1) := by decide +kernel
theorem dI_Reader_43 : decode cI_Reader 43 = .ok (.putfield 28, 3) := by decide +kernel
theorem dI_Reader_46 : decode cI_Reader 46 = .ok (.aload_n 0, 1) := by decide +kernel
theorem dI_Reader_47 : decode cI_Reader 47 = .ok (.iconst 0, 1) := by decide +kernel
theorem dI_Reader_48 : decode cI_Reader 48 = .ok (.putfield 31, 3) := by decide +kernel
theorem dI_Reader_51 : decode cI_Reader 51 = .ok (.aload_n 0, 1) := by decide +kernel
theorem dI_Reader_52 : decode cI_Reader 52 = .ok (.iconst (-1), 1) := by decide +kernel
theorem dI_Reader_53 : decode cI_Reader 53 = .ok (.putfield 34, 3) := by decide +kernel
theorem dI_Reader_56 : decode cI_Reader 56 = .ok (.return_, 1) := by decide +kernel
def W_Reader (cA : Nat → ClassId) (ad : Nat → Nat) : va_W := [((ad 0), .inr (3, [.ref (ad 1), .ref (ad 2), .ref (ad 3), .int (Int32.ofInt 0), .int (Int32.ofInt 0), .int (Int32.ofInt (-1)), .int (Int32.ofInt 0), .int (Int32.ofInt (-1))])), ((ad 1), .inl (cA 0, 301, .inl (fun _ => Int32.ofInt 0))), ((ad 2), .inl (cA 0, 301, .inl (fun _ => Int32.ofInt 0))), ((ad 3), .inl (cA 0, 301, .inl (fun _ => Int32.ofInt 0)))]
set_option maxHeartbeats 16000000 in
set_option maxRecDepth 100000 in
theorem k_Reader (l : Launch) (D : va_G) (cA : Nat → ClassId) (h0 sz : Nat) : Met l yI_Reader (wsJ yI_Reader cI_Reader 1 none) ({ frames := 1, cells := 3, slots := 903, locals := 40 }) (PcI D cA [(h0, .inr (3, [.null, .null, .null, .int (Int32.ofInt 0), .int (Int32.ofInt 0), .int (Int32.ofInt 0), .int (Int32.ofInt 0), .int (Int32.ofInt 0)]))] [.ref h0] sz) (va_Qv (fun ad : Nat → Nat => ad 0 = h0) (fun ad t => va_P D fcs (W_Reader cA ad) t.heap ∧ va_D (va_A [(h0, .inr (3, [.null, .null, .null, .int (Int32.ofInt 0), .int (Int32.ofInt 0), .int (Int32.ofInt 0), .int (Int32.ofInt 0), .int (Int32.ofInt 0)]))] sz) (W_Reader cA ad)) (va_A [(h0, .inr (3, [.null, .null, .null, .int (Int32.ofInt 0), .int (Int32.ofInt 0), .int (Int32.ofInt 0), .int (Int32.ofInt 0), .int (Int32.ofInt 0)]))] sz)) 3 903 (va_A [(h0, .inr (3, [.null, .null, .null, .int (Int32.ofInt 0), .int (Int32.ofInt 0), .int (Int32.ofInt 0), .int (Int32.ofInt 0), .int (Int32.ofInt 0)]))] sz) := by
  refine Met.ofW (cc := cI_Reader) (maxL := 1) (ret := none) (by decide) rfl ?_
  intro p e s m args below meth c s₁ B hml hv
  obtain ⟨rfl, hsz, hP, ⟨hK, hN⟩, hD0⟩ := hv
  have hx := B.exec
  have hb := B.bytes
  have hr := B.returns
  have hts : ∀ w ∈ BIG, w.before _ s = true := fun w hw => atoms_spec (ws := wsJ yI_Reader cI_Reader 1 none) B.pre w (List.mem_cons_of_mem _ hw)
  have hown : s.vm.findClass "ThimbleLaw$Reader" = some m.cls := findClass_of_methodNamed B.named
  have hlocks := B.notSynchronized
  have hin : meth.name = "<init>" := (name_of_methodNamed B.named B.method).1
  have hO := hN.1
  subst hsz
  have hD := hD0.self (sz := s.heap.size)
  generalize hAe : va_A [(h0, .inr (3, [.null, .null, .null, .int (Int32.ofInt 0), .int (Int32.ofInt 0), .int (Int32.ofInt 0), .int (Int32.ofInt 0), .int (Int32.ofInt 0)]))] s.heap.size = A at hD ⊢
  have hA : ∀ q : Nat, s.heap.size ≤ q → A q := fun q h => by rw [← hAe]; exact Or.inr h
  have hS : va_S A s.heap s.heap [] := va_S.rf
  have hP : va_P D fcs [(h0, .inr (3, [.null, .null, .null, .int (Int32.ofInt 0), .int (Int32.ofInt 0), .int (Int32.ofInt 0), .int (Int32.ofInt 0), .int (Int32.ofInt 0)]))] s.heap := hP
  have hl := lv_entry ([.ref h0]) (n := 1) (Nat.le_of_ble_eq_true rfl)
  rw [lg_entry_eq]
  generalize (lg_sl ([.ref h0]) ++ List.replicate (1 - (lg_sl ([.ref h0])).length) Slot.unset).toArray = ls at hl ⊢
  have hl : lv_has ls 1 [(0, .ref h0)] := hl
  refine lv_aload_n hx hb dI_Reader_0 rfl (lv_at hl 0 rfl) ?_
  refine W.objInit hx hb hown (hts _ sw_oi_Reader) (hts _ sw_oinst) (hts _ sw_ocode) rfl (by rw [hml]; exact hl.1) rfl dI_Reader_1 (Nat.le_of_ble_eq_true rfl) (Nat.le_of_ble_eq_true rfl) ?_
  refine W.eq (g2 := F0 m 4 ls []) rfl ?_
  refine lv_aload_n hx hb dI_Reader_4 rfl (lv_at hl 0 rfl) ?_
  refine lv_sipush (v := Int32.ofInt 301) hx hb dI_Reader_5 (by decide) ?_
  refine va_newa (atype := .int) (ty := .int) (N' := 301) (a0 := (301, .inl (fun _ => Int32.ofInt 0))) hx hb (hts _ sw_arr_int) rfl hK hP hD hS hA (fun _ => rfl) (by decide) (by decide) (by decide) (Nat.le_of_ble_eq_true rfl) (Nat.le_of_ble_eq_true rfl) dI_Reader_8 (fun q1 cx H hKx hP hD hS => ?_)
  obtain rfl := arr_same (i := 0) hKx rfl
  have hP : va_P D fcs [(h0, .inr (3, [.null, .null, .null, .int (Int32.ofInt 0), .int (Int32.ofInt 0), .int (Int32.ofInt 0), .int (Int32.ofInt 0), .int (Int32.ofInt 0)])), (q1, .inl (cA 0, 301, .inl (fun _ => Int32.ofInt 0)))] H := hP
  have hD : va_D A [(h0, .inr (3, [.null, .null, .null, .int (Int32.ofInt 0), .int (Int32.ofInt 0), .int (Int32.ofInt 0), .int (Int32.ofInt 0), .int (Int32.ofInt 0)])), (q1, .inl (cA 0, 301, .inl (fun _ => Int32.ofInt 0)))] := hD
  refine va_putF (D := D) (ci := 3) (v := .ref q1) (ty := .array .int) (C := clN 3) (T := clT 3) (N := clM 3) (ref := clN 3) hx hb hts (uw_in (c := 3) (by decide)) (clY 3) (ckY 3 (by decide)) (ckX 3 (by decide)) hown hK hP hD hS 0 rfl rfl 0 (by decide) (hts _ (fl_in (w := 5) (i := 9) (c := 3) (k := 0) (by decide) rfl).1) (fun _ h9 => h9) rfl hin rfl (ckY 3 (by decide) 0 (by decide)) rfl rfl (Nat.le_of_ble_eq_true rfl) dI_Reader_10 (fun H locs hP hD hS => ?_)
  have hP : va_P D fcs [(h0, .inr (3, [.ref q1, .null, .null, .int (Int32.ofInt 0), .int (Int32.ofInt 0), .int (Int32.ofInt 0), .int (Int32.ofInt 0), .int (Int32.ofInt 0)])), (q1, .inl (cA 0, 301, .inl (fun _ => Int32.ofInt 0)))] H := hP
  have hD : va_D A [(h0, .inr (3, [.ref q1, .null, .null, .int (Int32.ofInt 0), .int (Int32.ofInt 0), .int (Int32.ofInt 0), .int (Int32.ofInt 0), .int (Int32.ofInt 0)])), (q1, .inl (cA 0, 301, .inl (fun _ => Int32.ofInt 0)))] := hD
  refine lv_aload_n hx hb dI_Reader_13 rfl (lv_at hl 0 rfl) ?_
  refine lv_sipush (v := Int32.ofInt 301) hx hb dI_Reader_14 (by decide) ?_
  refine va_newa (atype := .int) (ty := .int) (N' := 301) (a0 := (301, .inl (fun _ => Int32.ofInt 0))) hx hb (hts _ sw_arr_int) rfl hK hP hD hS hA (fun _ => rfl) (by decide) (by decide) (by decide) (Nat.le_of_ble_eq_true rfl) (Nat.le_of_ble_eq_true rfl) dI_Reader_17 (fun q2 cx H hKx hP hD hS => ?_)
  obtain rfl := arr_same (i := 0) hKx rfl
  have hP : va_P D fcs [(h0, .inr (3, [.ref q1, .null, .null, .int (Int32.ofInt 0), .int (Int32.ofInt 0), .int (Int32.ofInt 0), .int (Int32.ofInt 0), .int (Int32.ofInt 0)])), (q1, .inl (cA 0, 301, .inl (fun _ => Int32.ofInt 0))), (q2, .inl (cA 0, 301, .inl (fun _ => Int32.ofInt 0)))] H := hP
  have hD : va_D A [(h0, .inr (3, [.ref q1, .null, .null, .int (Int32.ofInt 0), .int (Int32.ofInt 0), .int (Int32.ofInt 0), .int (Int32.ofInt 0), .int (Int32.ofInt 0)])), (q1, .inl (cA 0, 301, .inl (fun _ => Int32.ofInt 0))), (q2, .inl (cA 0, 301, .inl (fun _ => Int32.ofInt 0)))] := hD
  refine va_putF (D := D) (ci := 3) (v := .ref q2) (ty := .array .int) (C := clN 3) (T := clT 3) (N := clM 3) (ref := clN 3) hx hb hts (uw_in (c := 3) (by decide)) (clY 3) (ckY 3 (by decide)) (ckX 3 (by decide)) hown hK hP hD hS 0 rfl rfl 1 (by decide) (hts _ (fl_in (w := 5) (i := 15) (c := 3) (k := 1) (by decide) rfl).1) (fun _ h9 => h9) rfl hin rfl (ckY 3 (by decide) 1 (by decide)) rfl rfl (Nat.le_of_ble_eq_true rfl) dI_Reader_19 (fun H locs hP hD hS => ?_)
  have hP : va_P D fcs [(h0, .inr (3, [.ref q1, .ref q2, .null, .int (Int32.ofInt 0), .int (Int32.ofInt 0), .int (Int32.ofInt 0), .int (Int32.ofInt 0), .int (Int32.ofInt 0)])), (q1, .inl (cA 0, 301, .inl (fun _ => Int32.ofInt 0))), (q2, .inl (cA 0, 301, .inl (fun _ => Int32.ofInt 0)))] H := hP
  have hD : va_D A [(h0, .inr (3, [.ref q1, .ref q2, .null, .int (Int32.ofInt 0), .int (Int32.ofInt 0), .int (Int32.ofInt 0), .int (Int32.ofInt 0), .int (Int32.ofInt 0)])), (q1, .inl (cA 0, 301, .inl (fun _ => Int32.ofInt 0))), (q2, .inl (cA 0, 301, .inl (fun _ => Int32.ofInt 0)))] := hD
  refine lv_aload_n hx hb dI_Reader_22 rfl (lv_at hl 0 rfl) ?_
  refine lv_sipush (v := Int32.ofInt 301) hx hb dI_Reader_23 (by decide) ?_
  refine va_newa (atype := .int) (ty := .int) (N' := 301) (a0 := (301, .inl (fun _ => Int32.ofInt 0))) hx hb (hts _ sw_arr_int) rfl hK hP hD hS hA (fun _ => rfl) (by decide) (by decide) (by decide) (Nat.le_of_ble_eq_true rfl) (Nat.le_of_ble_eq_true rfl) dI_Reader_26 (fun q3 cx H hKx hP hD hS => ?_)
  obtain rfl := arr_same (i := 0) hKx rfl
  have hP : va_P D fcs [(h0, .inr (3, [.ref q1, .ref q2, .null, .int (Int32.ofInt 0), .int (Int32.ofInt 0), .int (Int32.ofInt 0), .int (Int32.ofInt 0), .int (Int32.ofInt 0)])), (q1, .inl (cA 0, 301, .inl (fun _ => Int32.ofInt 0))), (q2, .inl (cA 0, 301, .inl (fun _ => Int32.ofInt 0))), (q3, .inl (cA 0, 301, .inl (fun _ => Int32.ofInt 0)))] H := hP
  have hD : va_D A [(h0, .inr (3, [.ref q1, .ref q2, .null, .int (Int32.ofInt 0), .int (Int32.ofInt 0), .int (Int32.ofInt 0), .int (Int32.ofInt 0), .int (Int32.ofInt 0)])), (q1, .inl (cA 0, 301, .inl (fun _ => Int32.ofInt 0))), (q2, .inl (cA 0, 301, .inl (fun _ => Int32.ofInt 0))), (q3, .inl (cA 0, 301, .inl (fun _ => Int32.ofInt 0)))] := hD
  refine va_putF (D := D) (ci := 3) (v := .ref q3) (ty := .array .int) (C := clN 3) (T := clT 3) (N := clM 3) (ref := clN 3) hx hb hts (uw_in (c := 3) (by decide)) (clY 3) (ckY 3 (by decide)) (ckX 3 (by decide)) hown hK hP hD hS 0 rfl rfl 2 (by decide) (hts _ (fl_in (w := 5) (i := 18) (c := 3) (k := 2) (by decide) rfl).1) (fun _ h9 => h9) rfl hin rfl (ckY 3 (by decide) 2 (by decide)) rfl rfl (Nat.le_of_ble_eq_true rfl) dI_Reader_28 (fun H locs hP hD hS => ?_)
  have hP : va_P D fcs [(h0, .inr (3, [.ref q1, .ref q2, .ref q3, .int (Int32.ofInt 0), .int (Int32.ofInt 0), .int (Int32.ofInt 0), .int (Int32.ofInt 0), .int (Int32.ofInt 0)])), (q1, .inl (cA 0, 301, .inl (fun _ => Int32.ofInt 0))), (q2, .inl (cA 0, 301, .inl (fun _ => Int32.ofInt 0))), (q3, .inl (cA 0, 301, .inl (fun _ => Int32.ofInt 0)))] H := hP
  have hD : va_D A [(h0, .inr (3, [.ref q1, .ref q2, .ref q3, .int (Int32.ofInt 0), .int (Int32.ofInt 0), .int (Int32.ofInt 0), .int (Int32.ofInt 0), .int (Int32.ofInt 0)])), (q1, .inl (cA 0, 301, .inl (fun _ => Int32.ofInt 0))), (q2, .inl (cA 0, 301, .inl (fun _ => Int32.ofInt 0))), (q3, .inl (cA 0, 301, .inl (fun _ => Int32.ofInt 0)))] := hD
  refine lv_aload_n hx hb dI_Reader_31 rfl (lv_at hl 0 rfl) ?_
  refine lv_iconst (v := Int32.ofInt 0) hx hb dI_Reader_32 rfl ?_
  refine va_put (D := D) (ci := 3) (v := .int (Int32.ofInt 0)) (ty := .int) (C := clN 3) (T := clT 3) (N := clM 3) (ref := clN 3) hx hb hts (uw_in (c := 3) (by decide)) (clY 3) (ckY 3 (by decide)) (ckX 3 (by decide)) hown hK hP hD hS 0 rfl rfl 3 (by decide) (hts _ (fl_in (w := 5) (i := 21) (c := 3) (k := 3) (by decide) rfl).1) (fun _ h9 => h9) rfl (ckY 3 (by decide) 3 (by decide)) rfl rfl (Nat.le_of_ble_eq_true rfl) dI_Reader_33 (fun H locs hP hD hS => ?_)
  have hP : va_P D fcs [(h0, .inr (3, [.ref q1, .ref q2, .ref q3, .int (Int32.ofInt 0), .int (Int32.ofInt 0), .int (Int32.ofInt 0), .int (Int32.ofInt 0), .int (Int32.ofInt 0)])), (q1, .inl (cA 0, 301, .inl (fun _ => Int32.ofInt 0))), (q2, .inl (cA 0, 301, .inl (fun _ => Int32.ofInt 0))), (q3, .inl (cA 0, 301, .inl (fun _ => Int32.ofInt 0)))] H := hP
  have hD : va_D A [(h0, .inr (3, [.ref q1, .ref q2, .ref q3, .int (Int32.ofInt 0), .int (Int32.ofInt 0), .int (Int32.ofInt 0), .int (Int32.ofInt 0), .int (Int32.ofInt 0)])), (q1, .inl (cA 0, 301, .inl (fun _ => Int32.ofInt 0))), (q2, .inl (cA 0, 301, .inl (fun _ => Int32.ofInt 0))), (q3, .inl (cA 0, 301, .inl (fun _ => Int32.ofInt 0)))] := hD
  refine lv_aload_n hx hb dI_Reader_36 rfl (lv_at hl 0 rfl) ?_
  refine lv_iconst (v := Int32.ofInt 0) hx hb dI_Reader_37 rfl ?_
  refine va_put (D := D) (ci := 3) (v := .int (Int32.ofInt 0)) (ty := .int) (C := clN 3) (T := clT 3) (N := clM 3) (ref := clN 3) hx hb hts (uw_in (c := 3) (by decide)) (clY 3) (ckY 3 (by decide)) (ckX 3 (by decide)) hown hK hP hD hS 0 rfl rfl 4 (by decide) (hts _ (fl_in (w := 5) (i := 25) (c := 3) (k := 4) (by decide) rfl).1) (fun _ h9 => h9) rfl (ckY 3 (by decide) 4 (by decide)) rfl rfl (Nat.le_of_ble_eq_true rfl) dI_Reader_38 (fun H locs hP hD hS => ?_)
  have hP : va_P D fcs [(h0, .inr (3, [.ref q1, .ref q2, .ref q3, .int (Int32.ofInt 0), .int (Int32.ofInt 0), .int (Int32.ofInt 0), .int (Int32.ofInt 0), .int (Int32.ofInt 0)])), (q1, .inl (cA 0, 301, .inl (fun _ => Int32.ofInt 0))), (q2, .inl (cA 0, 301, .inl (fun _ => Int32.ofInt 0))), (q3, .inl (cA 0, 301, .inl (fun _ => Int32.ofInt 0)))] H := hP
  have hD : va_D A [(h0, .inr (3, [.ref q1, .ref q2, .ref q3, .int (Int32.ofInt 0), .int (Int32.ofInt 0), .int (Int32.ofInt 0), .int (Int32.ofInt 0), .int (Int32.ofInt 0)])), (q1, .inl (cA 0, 301, .inl (fun _ => Int32.ofInt 0))), (q2, .inl (cA 0, 301, .inl (fun _ => Int32.ofInt 0))), (q3, .inl (cA 0, 301, .inl (fun _ => Int32.ofInt 0)))] := hD
  refine lv_aload_n hx hb dI_Reader_41 rfl (lv_at hl 0 rfl) ?_
  refine lv_iconst (v := Int32.ofInt (-1)) hx hb dI_Reader_42 rfl ?_
  refine va_put (D := D) (ci := 3) (v := .int (Int32.ofInt (-1))) (ty := .int) (C := clN 3) (T := clT 3) (N := clM 3) (ref := clN 3) hx hb hts (uw_in (c := 3) (by decide)) (clY 3) (ckY 3 (by decide)) (ckX 3 (by decide)) hown hK hP hD hS 0 rfl rfl 5 (by decide) (hts _ (fl_in (w := 5) (i := 28) (c := 3) (k := 5) (by decide) rfl).1) (fun _ h9 => h9) rfl (ckY 3 (by decide) 5 (by decide)) rfl rfl (Nat.le_of_ble_eq_true rfl) dI_Reader_43 (fun H locs hP hD hS => ?_)
  have hP : va_P D fcs [(h0, .inr (3, [.ref q1, .ref q2, .ref q3, .int (Int32.ofInt 0), .int (Int32.ofInt 0), .int (Int32.ofInt (-1)), .int (Int32.ofInt 0), .int (Int32.ofInt 0)])), (q1, .inl (cA 0, 301, .inl (fun _ => Int32.ofInt 0))), (q2, .inl (cA 0, 301, .inl (fun _ => Int32.ofInt 0))), (q3, .inl (cA 0, 301, .inl (fun _ => Int32.ofInt 0)))] H := hP
  have hD : va_D A [(h0, .inr (3, [.ref q1, .ref q2, .ref q3, .int (Int32.ofInt 0), .int (Int32.ofInt 0), .int (Int32.ofInt (-1)), .int (Int32.ofInt 0), .int (Int32.ofInt 0)])), (q1, .inl (cA 0, 301, .inl (fun _ => Int32.ofInt 0))), (q2, .inl (cA 0, 301, .inl (fun _ => Int32.ofInt 0))), (q3, .inl (cA 0, 301, .inl (fun _ => Int32.ofInt 0)))] := hD
  refine lv_aload_n hx hb dI_Reader_46 rfl (lv_at hl 0 rfl) ?_
  refine lv_iconst (v := Int32.ofInt 0) hx hb dI_Reader_47 rfl ?_
  refine va_put (D := D) (ci := 3) (v := .int (Int32.ofInt 0)) (ty := .int) (C := clN 3) (T := clT 3) (N := clM 3) (ref := clN 3) hx hb hts (uw_in (c := 3) (by decide)) (clY 3) (ckY 3 (by decide)) (ckX 3 (by decide)) hown hK hP hD hS 0 rfl rfl 6 (by decide) (hts _ (fl_in (w := 5) (i := 31) (c := 3) (k := 6) (by decide) rfl).1) (fun _ h9 => h9) rfl (ckY 3 (by decide) 6 (by decide)) rfl rfl (Nat.le_of_ble_eq_true rfl) dI_Reader_48 (fun H locs hP hD hS => ?_)
  have hP : va_P D fcs [(h0, .inr (3, [.ref q1, .ref q2, .ref q3, .int (Int32.ofInt 0), .int (Int32.ofInt 0), .int (Int32.ofInt (-1)), .int (Int32.ofInt 0), .int (Int32.ofInt 0)])), (q1, .inl (cA 0, 301, .inl (fun _ => Int32.ofInt 0))), (q2, .inl (cA 0, 301, .inl (fun _ => Int32.ofInt 0))), (q3, .inl (cA 0, 301, .inl (fun _ => Int32.ofInt 0)))] H := hP
  have hD : va_D A [(h0, .inr (3, [.ref q1, .ref q2, .ref q3, .int (Int32.ofInt 0), .int (Int32.ofInt 0), .int (Int32.ofInt (-1)), .int (Int32.ofInt 0), .int (Int32.ofInt 0)])), (q1, .inl (cA 0, 301, .inl (fun _ => Int32.ofInt 0))), (q2, .inl (cA 0, 301, .inl (fun _ => Int32.ofInt 0))), (q3, .inl (cA 0, 301, .inl (fun _ => Int32.ofInt 0)))] := hD
  refine lv_aload_n hx hb dI_Reader_51 rfl (lv_at hl 0 rfl) ?_
  refine lv_iconst (v := Int32.ofInt (-1)) hx hb dI_Reader_52 rfl ?_
  refine va_put (D := D) (ci := 3) (v := .int (Int32.ofInt (-1))) (ty := .int) (C := clN 3) (T := clT 3) (N := clM 3) (ref := clN 3) hx hb hts (uw_in (c := 3) (by decide)) (clY 3) (ckY 3 (by decide)) (ckX 3 (by decide)) hown hK hP hD hS 0 rfl rfl 7 (by decide) (hts _ (fl_in (w := 5) (i := 34) (c := 3) (k := 7) (by decide) rfl).1) (fun _ h9 => h9) rfl (ckY 3 (by decide) 7 (by decide)) rfl rfl (Nat.le_of_ble_eq_true rfl) dI_Reader_53 (fun H locs hP hD hS => ?_)
  have hP : va_P D fcs [(h0, .inr (3, [.ref q1, .ref q2, .ref q3, .int (Int32.ofInt 0), .int (Int32.ofInt 0), .int (Int32.ofInt (-1)), .int (Int32.ofInt 0), .int (Int32.ofInt (-1))])), (q1, .inl (cA 0, 301, .inl (fun _ => Int32.ofInt 0))), (q2, .inl (cA 0, 301, .inl (fun _ => Int32.ofInt 0))), (q3, .inl (cA 0, 301, .inl (fun _ => Int32.ofInt 0)))] H := hP
  have hD : va_D A [(h0, .inr (3, [.ref q1, .ref q2, .ref q3, .int (Int32.ofInt 0), .int (Int32.ofInt 0), .int (Int32.ofInt (-1)), .int (Int32.ofInt 0), .int (Int32.ofInt (-1))])), (q1, .inl (cA 0, 301, .inl (fun _ => Int32.ofInt 0))), (q2, .inl (cA 0, 301, .inl (fun _ => Int32.ofInt 0))), (q3, .inl (cA 0, 301, .inl (fun _ => Int32.ofInt 0)))] := hD
  have hP9 := hP.sub (ws' := [(h0, .inr (3, [.ref q1, .ref q2, .ref q3, .int (Int32.ofInt 0), .int (Int32.ofInt 0), .int (Int32.ofInt (-1)), .int (Int32.ofInt 0), .int (Int32.ofInt (-1))])), (q1, .inl (cA 0, 301, .inl (fun _ => Int32.ofInt 0))), (q2, .inl (cA 0, 301, .inl (fun _ => Int32.ofInt 0))), (q3, .inl (cA 0, 301, .inl (fun _ => Int32.ofInt 0)))]) [0, 1, 2, 3] rfl
  have hD9 := hD.sub (ws' := [(h0, .inr (3, [.ref q1, .ref q2, .ref q3, .int (Int32.ofInt 0), .int (Int32.ofInt 0), .int (Int32.ofInt (-1)), .int (Int32.ofInt 0), .int (Int32.ofInt (-1))])), (q1, .inl (cA 0, 301, .inl (fun _ => Int32.ofInt 0))), (q2, .inl (cA 0, 301, .inl (fun _ => Int32.ofInt 0))), (q3, .inl (cA 0, 301, .inl (fun _ => Int32.ofInt 0)))]) [0, 1, 2, 3] (by decide) rfl
  exact W.vret hx hb hr (fun t ht hW => ⟨⟨nth 0 [h0, q1, q2, q3], rfl, rfl, by rw [ht]; exact hP9, hD9⟩, hS.F ht⟩) hS.2.2 dI_Reader_56
end
